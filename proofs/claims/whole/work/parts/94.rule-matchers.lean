/-! The matchers of a rule are read -/
/-- matchers from p on, k at most, up to the end, s between them -/
def xmq (n : Nat) (e : Nat → Int) (s : Int) : Nat → Nat → Option (List (Int × Int × List Int))
  | 0, _ => none
  | k + 1, p => match xms e p with
    | none => none
    | some (m, q) => if e q = s then (match xmq n e s k (q + 1) with
      | none => none
      | some l => some (m :: l)) else if q = n then some [m] else none
/-- the sign behind the first matcher tells what all the others have to be -/
def xs0 (e : Nat → Int) (p : Nat) : Int := match xms e p with
  | none => 38
  | some (_, q) => if e q = 124 then 124 else 38
def xlo (m : Int × Int × List Int) : Prop := m.1 = 116 ∨ m.1 = 62 ∨ m.1 = 60
/-- a rule ru (pattern pa, list la) on the way: its matchers as -/
def yrr (b0 : Nat) (A0 A : xb_H) (cu sa v ru pa la ed cap : Nat) (one lo : Int) (as : List Nat) (ms : List (Int × Int × List Int)) : Prop := xb_get A ru = some (.inr (7, [.ref pa, .ref la, .int (Int32.ofInt one), .int (Int32.ofInt lo)])) ∧ yal A la ed cap as ∧ as.length = ms.length ∧ (ed = 6 ∨ (A0.1 ≤ ed ∧ ed < A.1)) ∧ ((cu < b0 ∧ sa < b0 ∧ v < b0) ∧ (64 ≤ b0 ∧ b0 ≤ ru ∧ ru < A0.1 ∧ b0 ≤ la ∧ la < A0.1 ∧ ¬ ru = la) ∧ A0.1 ≤ A.1) ∧ ∀ (i x : Nat) (m : Int × Int × List Int), as[i]? = some x → ms[i]? = some m → ∃ l h : Nat, ymt A (yP l h sa v) x m ∧ (A0.1 ≤ l ∧ h ≤ A.1 ∧ l ≤ x ∧ x < h) ∧ ¬ (l ≤ ed ∧ ed < h)
section YRR
variable {b0 : Nat} {A0 A A' : xb_H} {cu sa v ru pa la ed cap : Nat} {one lo : Int} {as : List Nat} {ms : List (Int × Int × List Int)}
theorem yrr_fr {p q : Nat} (h : yrr b0 A0 A cu sa v ru pa la ed cap one lo as ms) (hf : yfr A A' [cu] p q) (hne : ¬ sa = cu ∧ ¬ v = cu) (hcu : 64 ≤ cu) : yrr b0 A0 A' cu sa v ru pa la ed cap one lo as ms := by
  obtain ⟨h1, h2, h3, h4, ⟨h5, h6, h7⟩, h8⟩ := h
  have hA := hf.1.1
  refine ⟨yfr_get hf h1 (by rw [List.mem_singleton]; omega), yal_fr h2 hf (by rw [List.mem_singleton]; omega) (by rw [List.mem_singleton]; omega), h3, by omega, ⟨h5, h6, by omega⟩, fun i x m hx hm => ?_⟩
  obtain ⟨l, h, q1, q2, q3⟩ := h8 i x m hx hm
  refine ⟨l, h, ymt_keep q1 (fun y o hy hg => yfr_get hf hg ?_), by omega, q3⟩
  rw [List.mem_singleton]
  rcases hy with hy | hy | hy | hy
  · omega
  · rw [hy]; exact hne.1
  · rw [hy]; exact hne.2
  · omega
theorem yrr_set {one' lo' : Int} {p q : Nat} (h : yrr b0 A0 A cu sa v ru pa la ed cap one lo as ms) (h1' : xb_get A' ru = some (.inr (7, [.ref pa, .ref la, .int (Int32.ofInt one'), .int (Int32.ofInt lo')]))) (hf : yfr A A' [ru] p q) : yrr b0 A0 A' cu sa v ru pa la ed cap one' lo' as ms := by
  obtain ⟨h1, h2, h3, h4, ⟨h5, h6, h7⟩, h8⟩ := h
  have hA := hf.1.1
  refine ⟨h1', yal_fr h2 hf (by rw [List.mem_singleton]; omega) (by rw [List.mem_singleton]; omega), h3, by omega, ⟨h5, h6, by omega⟩, fun i x m hx hm => ?_⟩
  obtain ⟨l, h, q1, q2, q3⟩ := h8 i x m hx hm
  refine ⟨l, h, ymt_keep q1 (fun y o hy hg => yfr_get hf hg ?_), by omega, q3⟩
  rw [List.mem_singleton]
  rcases hy with hy | hy | hy | hy <;> omega
theorem yrr_add {x l u ed' cap' p q : Nat} {m : Int × Int × List Int} (h : yrr b0 A0 A cu sa v ru pa la ed cap one lo as ms) (hx : ymt A (yP l u sa v) x m) (hl : A0.1 ≤ l ∧ u ≤ A.1 ∧ l ≤ x ∧ x < u) (hed : ¬ (l ≤ ed ∧ ed < u)) (h2' : yal A' la ed' cap' (as ++ [x])) (hf : yfr A A' [la, if ed = 6 then la else ed] p q) (he : ed' = ed ∨ ed' = A.1) : yrr b0 A0 A' cu sa v ru pa la ed' cap' one lo (as ++ [x]) (ms ++ [m]) := by
  obtain ⟨h1, h2, h3, h4, ⟨h5, h6, h7⟩, h8⟩ := h
  have hA := hf.1.1
  obtain ⟨em, hem⟩ : ∃ em, em = if ed = 6 then la else ed := ⟨_, rfl⟩
  have hem2 : (em = la ∨ em = ed) ∧ 64 ≤ em := by rw [hem]; split <;> omega
  rw [← hem] at hf
  have hed6 : ¬ em = 6 := by omega
  have keep : ∀ (l h : Nat), A0.1 ≤ l → h ≤ A.1 → ¬ (l ≤ ed ∧ ed < h) → ∀ y o, yP l h sa v y → xb_get A y = some o → xb_get A' y = some o := by
    intro l h g1 g2 g3 y o hy hg
    refine yfr_get hf hg ?_
    simp only [List.mem_cons, List.not_mem_nil, or_false]
    rcases hy with hy | hy | hy | hy <;> omega
  have hlt : ed' = 6 ∨ (A0.1 ≤ ed' ∧ ed' < A'.1) := by
    obtain ⟨mc, g, -, e1, -, -, -, e2, -⟩ := h2'
    have := xb_get_lt e1
    omega
  refine ⟨yfr_get hf h1 (by simp only [List.mem_cons, List.not_mem_nil, or_false]; omega), h2', by rw [List.length_append, List.length_append, h3]; rfl, hlt, ⟨h5, h6, by omega⟩, fun i y mm hy hm => ?_⟩
  by_cases hi2 : i < as.length
  · rw [List.getElem?_append_left hi2] at hy
    rw [List.getElem?_append_left (by omega)] at hm
    obtain ⟨l2, u2, q1, q2, q3⟩ := h8 i y mm hy hm
    exact ⟨l2, u2, ymt_keep q1 (keep l2 u2 q2.1 q2.2.1 q3), by omega, by rcases he with h | h <;> omega⟩
  · have hil : i = as.length := by
      have := (List.getElem?_eq_some_iff.mp hy).1
      rw [List.length_append, List.length_singleton] at this
      omega
    subst hil
    rw [List.getElem?_append_right (Nat.le_refl _), Nat.sub_self] at hy
    rw [List.getElem?_append_right (by omega), h3, Nat.sub_self] at hm
    cases hy
    cases hm
    exact ⟨l, u, ymt_keep hx (keep l u hl.1 hl.2.1 hed), by omega, by rcases he with h | h <;> omega⟩
theorem yrr_elo (h : yrr b0 A0 A cu sa v ru pa la ed cap one lo as ms) : ∀ y ∈ as, xb_elo A (some y) = true := by
  intro y hy
  obtain ⟨i, hi, e⟩ := List.getElem_of_mem hy
  have hi2 : i < ms.length := by rw [← h.2.2.1]; exact hi
  obtain ⟨l, u, ⟨sm, vm, g, q1, -⟩, -⟩ := h.2.2.2.2.2 i y ms[i] (by rw [List.getElem?_eq_getElem hi, e]) (List.getElem?_eq_getElem hi2)
  exact elo_of q1 (Or.inr rfl)
end YRR
theorem xms_lt {e : Nat → Int} {p q : Nat} {m : Int × Int × List Int} (h : xms e p = some (m, q)) : p < q := by
  unfold xms at h
  split at h
  · cases h; omega
  split at h
  · unfold xmb at h
    split at h
    · cases h; omega
    · cases h
  split at h
  · unfold xmp at h
    split at h
    · cases h; omega
    · cases h
  split at h
  · unfold xmi at h
    split at h
    · cases h; omega
    · cases h
  · cases h
theorem mr_155t {w : Value} {d i p1 ma ru cu sa v n pa la : Nat} {A4 : xb_H} {f : Nat → Int} {sp one lo : Int} {Q : xb_R → xb_H → Prop} (hw : w = .null ∨ w = .ref 19) (ho2 : (one = 1 ∧ sp = 124) ∨ (one = 0 ∧ sp = 38)) (hru : xb_get A4 ru = some (.inr (7, [.ref pa, .ref la, .int (Int32.ofInt one), .int (Int32.ofInt lo)]))) (hc4 : ycu A4 cu sa v n f p1) (hQ1 : ∀ A5 : xb_H, ye n f p1 = sp → ymv A4 A5 cu sa v n f (p1 + 1) 0 0 → xr_ok (xt_G w) (d + 1 + 1 + 1 + 1 + 1 + 1 + 1 + 1) 155 2 [(2, .int (Int32.ofInt ((i : Int) + 1))), (0, .ref ru), (1, .ref cu)] [] A5 Q) (hQ2 : ∀ be : Int, ¬ ye n f p1 = sp → ((be = 1 ∧ p1 = n) ∨ (be = 0 ∧ ¬ p1 = n)) → Q (.inl (some (.int (Int32.ofInt be)))) A4) : xr_ok (xt_G w) (d + 1 + 1 + 1 + 1 + 1 + 1 + 1 + 1) 155 73 [(3, .ref ma), (2, .int (Int32.ofInt (i : Int))), (0, .ref ru), (1, .ref cu)] [] A4 Q := by
  have fin : xr_ok (xt_G w) (d + 1 + 1 + 1 + 1 + 1 + 1 + 1 + 1) 155 88 [(3, .ref ma), (2, .int (Int32.ofInt (i : Int))), (0, .ref ru), (1, .ref cu)] [.int (Int32.ofInt sp), .ref cu] A4 Q := by
    obtain ⟨b, hb⟩ := mo_bool (ye n f p1 = sp)
    refine xr_call (q := (.invokevirtual 28, 3, 67, 2)) (av := [.ref cu, .int (Int32.ofInt sp)]) (rest := []) rfl rfl (by decide) rfl (xr_rcv rfl hc4.1) (Nat.le_of_ble_eq_true rfl) (mk_acc hw hc4 (by omega) hb) ?_
    rintro _ A5 ⟨rfl, hcase⟩
    rcases hcase with ⟨rfl, hs, m5⟩ | ⟨rfl, hs, eA⟩
    · refine xr_if_ne rfl (by omega) (fun _ => ?_) (fun h => absurd h (by omega))
      refine xr_iinc (L' := [(2, .int (Int32.ofInt ((i : Int) + 1))), (3, .ref ma), (0, .ref ru), (1, .ref cu)]) rfl rfl rfl ?_
      refine xr_steps (pc' := 2) (L' := [(2, .int (Int32.ofInt ((i : Int) + 1))), (3, .ref ma), (0, .ref ru), (1, .ref cu)]) (st' := []) 1 rfl ?_
      refine xr_loc (L := [(2, .int (Int32.ofInt ((i : Int) + 1))), (0, .ref ru), (1, .ref cu)]) (show [2, 0, 1].Nodup by decide) ⟨rfl, rfl, rfl, trivial⟩ ?_
      exact hQ1 A5 hs m5
    · rw [eA]
      refine xr_if_ne rfl (by omega) (fun h => absurd rfl h) (fun _ => ?_)
      refine xr_steps (pc' := 95) (L' := [(3, .ref ma), (2, .int (Int32.ofInt (i : Int))), (0, .ref ru), (1, .ref cu)]) (st' := [.ref cu]) 1 rfl ?_
      obtain ⟨be, hbe⟩ := mo_bool (p1 = n)
      refine xr_call (q := (.invokevirtual 66, 3, 83, 1)) (av := [.ref cu]) (rest := []) rfl rfl (by decide) rfl (xr_rcv rfl hc4.1) (Nat.le_of_ble_eq_true rfl) (mk_83 hw hc4 hbe) ?_
      rintro _ _ ⟨rfl, eA⟩
      rw [eA]
      clear eA
      exact xr_retZ rfl rfl (by omega) (hQ2 be hs hbe)
  refine xr_steps (pc' := 75) (L' := [(3, .ref ma), (2, .int (Int32.ofInt (i : Int))), (0, .ref ru), (1, .ref cu)]) (st' := [.ref ru, .ref cu]) 2 rfl ?_
  refine xr_getf (v := .int (Int32.ofInt one)) rfl hru rfl ?_
  refine xr_if_eq rfl (by omega) (fun h0 => ?_) (fun h0 => ?_)
  · refine xr_steps (pc' := 88) (L' := [(3, .ref ma), (2, .int (Int32.ofInt (i : Int))), (0, .ref ru), (1, .ref cu)]) (st' := [.int (Int32.ofInt 38), .ref cu]) 1 rfl ?_
    rw [show (38 : Int) = sp by omega]
    exact fin
  · refine xr_steps (pc' := 88) (L' := [(3, .ref ma), (2, .int (Int32.ofInt (i : Int))), (0, .ref ru), (1, .ref cu)]) (st' := [.int (Int32.ofInt 124), .ref cu]) 2 rfl ?_
    rw [show (124 : Int) = sp by omega]
    exact fin
theorem mr_155o {w : Value} {d i p1 ma ru cu sa v n pa la : Nat} {A3 : xb_H} {f : Nat → Int} {one lo : Int} {Q : xb_R → xb_H → Prop} (hw : w = .null ∨ w = .ref 19) (hi : i ≤ 1000) (hz : 64 ≤ ru) (hru : xb_get A3 ru = some (.inr (7, [.ref pa, .ref la, .int (Int32.ofInt one), .int (Int32.ofInt lo)]))) (hc3 : ycu A3 cu sa v n f p1) (hQ1 : ¬ i = 0 → xr_ok (xt_G w) (d + 1 + 1 + 1 + 1 + 1 + 1 + 1 + 1) 155 73 [(3, .ref ma), (2, .int (Int32.ofInt (i : Int))), (0, .ref ru), (1, .ref cu)] [] A3 Q) (hQ2 : ∀ (A4 : xb_H) (one' : Int), i = 0 → one' = (if ye n f p1 = 124 then 1 else 0) → yfr A3 A4 [ru] 0 0 → xb_get A4 ru = some (.inr (7, [.ref pa, .ref la, .int (Int32.ofInt one'), .int (Int32.ofInt lo)])) → xr_ok (xt_G w) (d + 1 + 1 + 1 + 1 + 1 + 1 + 1 + 1) 155 73 [(3, .ref ma), (2, .int (Int32.ofInt (i : Int))), (0, .ref ru), (1, .ref cu)] [] A4 Q) : xr_ok (xt_G w) (d + 1 + 1 + 1 + 1 + 1 + 1 + 1 + 1) 155 51 [(3, .ref ma), (2, .int (Int32.ofInt (i : Int))), (0, .ref ru), (1, .ref cu)] [] A3 Q := by
  have hye := ye_rng hc3 p1
  refine xr_steps (pc' := 52) (L' := [(3, .ref ma), (2, .int (Int32.ofInt (i : Int))), (0, .ref ru), (1, .ref cu)]) (st' := [.int (Int32.ofInt (i : Int))]) 1 rfl ?_
  refine xr_if_ne rfl (by omega) (fun h0 => hQ1 (by omega)) (fun h0 => ?_)
  refine xr_steps (pc' := 57) (L' := [(3, .ref ma), (2, .int (Int32.ofInt (i : Int))), (0, .ref ru), (1, .ref cu)]) (st' := [.ref cu, .ref ru]) 2 rfl ?_
  refine xr_call (q := (.invokevirtual 59, 3, 68, 1)) (av := [.ref cu]) (rest := [.ref ru]) rfl rfl (by decide) rfl (xr_rcv rfl hc3.1) (Nat.le_of_ble_eq_true rfl) (mk_68 hw hc3) ?_
  rintro _ _ ⟨rfl, eA⟩
  rw [eA]
  clear eA
  have put : ∀ one' : Int, (one' = 0 ∨ one' = 1) → one' = (if ye n f p1 = 124 then 1 else 0) → xr_ok (xt_G w) (d + 1 + 1 + 1 + 1 + 1 + 1 + 1 + 1) 155 70 [(3, .ref ma), (2, .int (Int32.ofInt (i : Int))), (0, .ref ru), (1, .ref cu)] [.int (Int32.ofInt one'), .ref ru] A3 Q := by
    intro one' ho1 ho
    obtain ⟨A4, e4⟩ : ∃ A4, xb_set A3 ru (.inr (7, [.ref pa, .ref la, .int (Int32.ofInt one'), .int (Int32.ofInt lo)])) = A4 := ⟨_, rfl⟩
    refine xr_putf (t := .boolean) rfl hru hz (Nat.le_of_ble_eq_true rfl) rfl (xr_fitZ (by omega)) (xr_heap e4 ?_)
    exact hQ2 A4 one' (by omega) ho (by rw [← e4]; exact yfr_set hru (List.mem_singleton.mpr rfl) 0 0) (xr_mv e4 (xb_get_set_same hru))
  refine xr_steps (pc' := 62) (L' := [(3, .ref ma), (2, .int (Int32.ofInt (i : Int))), (0, .ref ru), (1, .ref cu)]) (st' := [.int (Int32.ofInt 124), .int (Int32.ofInt (ye n f p1)), .ref ru]) 1 rfl ?_
  refine xr_icmp_ne rfl (by omega) (by omega) (fun h => ?_) (fun h => ?_)
  · refine xr_steps (pc' := 70) (L' := [(3, .ref ma), (2, .int (Int32.ofInt (i : Int))), (0, .ref ru), (1, .ref cu)]) (st' := [.int (Int32.ofInt 0), .ref ru]) 1 rfl ?_
    exact put 0 (Or.inl rfl) (by rw [if_neg h])
  · refine xr_steps (pc' := 70) (L' := [(3, .ref ma), (2, .int (Int32.ofInt (i : Int))), (0, .ref ru), (1, .ref cu)]) (st' := [.int (Int32.ofInt 1), .ref ru]) 2 rfl ?_
    exact put 1 (Or.inr rfl) (by rw [if_pos h])
/-- the loose mark: from 28 to 51 -/
theorem mr_155z {w : Value} {d i ma ru cu pa la sm : Nat} {A2 : xb_H} {one lo bd : Int} {m : Int × Int × List Int} {Q : xb_R → xb_H → Prop} (hz : 64 ≤ ru) (hlo : lo = 0 ∨ lo = 1) (hru : xb_get A2 ru = some (.inr (7, [.ref pa, .ref la, .int (Int32.ofInt one), .int (Int32.ofInt lo)]))) (hmc : xb_get A2 ma = some (.inr (4, [.int (Int32.ofInt m.1), .int (Int32.ofInt bd), .ref sm]))) (hmr : 0 ≤ m.1 ∧ m.1 ≤ 127) (hQ : ∀ (A3 : xb_H) (lo2 : Int), (lo2 = 0 ∨ lo2 = 1) → (lo2 = 1 ↔ (lo = 1 ∨ xlo m)) → yfr A2 A3 [ru] 0 0 → xb_get A3 ru = some (.inr (7, [.ref pa, .ref la, .int (Int32.ofInt one), .int (Int32.ofInt lo2)])) → xr_ok (xt_G w) (d + 1 + 1 + 1 + 1 + 1 + 1 + 1 + 1) 155 51 [(3, .ref ma), (2, .int (Int32.ofInt (i : Int))), (0, .ref ru), (1, .ref cu)] [] A3 Q) : xr_ok (xt_G w) (d + 1 + 1 + 1 + 1 + 1 + 1 + 1 + 1) 155 28 [(3, .ref ma), (2, .int (Int32.ofInt (i : Int))), (0, .ref ru), (1, .ref cu)] [] A2 Q := by
  refine xr_steps (pc' := 30) (L' := [(3, .ref ma), (2, .int (Int32.ofInt (i : Int))), (0, .ref ru), (1, .ref cu)]) (st' := [.ref ru, .ref ru]) 2 rfl ?_
  refine xr_getf (v := .int (Int32.ofInt lo)) rfl hru rfl ?_
  have rest : ∀ lo2 : Int, (lo2 = 0 ∨ lo2 = 1) → (lo2 = 1 ↔ (lo = 1 ∨ xlo m)) → xr_ok (xt_G w) (d + 1 + 1 + 1 + 1 + 1 + 1 + 1 + 1) 155 48 [(3, .ref ma), (2, .int (Int32.ofInt (i : Int))), (0, .ref ru), (1, .ref cu)] [.int (Int32.ofInt lo2), .ref ru] A2 Q := by
    intro lo2 h1 h2
    obtain ⟨A3, e3⟩ : ∃ A3, xb_set A2 ru (.inr (7, [.ref pa, .ref la, .int (Int32.ofInt one), .int (Int32.ofInt lo2)])) = A3 := ⟨_, rfl⟩
    refine xr_putf (t := .boolean) rfl hru hz (Nat.le_of_ble_eq_true rfl) rfl (xr_fitZ (by omega)) (xr_heap e3 ?_)
    exact hQ A3 lo2 h1 h2 (by rw [← e3]; exact yfr_set hru (List.mem_singleton.mpr rfl) 0 0) (xr_mv e3 (xb_get_set_same hru))
  refine xr_if_ne rfl (by omega) (fun h0 => ?_) (fun h0 => ?_)
  · refine xr_steps (pc' := 48) (L' := [(3, .ref ma), (2, .int (Int32.ofInt (i : Int))), (0, .ref ru), (1, .ref cu)]) (st' := [.int (Int32.ofInt 1), .ref ru]) 2 rfl ?_
    exact rest 1 (Or.inr rfl) ⟨fun _ => Or.inl (by omega), fun _ => rfl⟩
  · refine xr_steps (pc' := 37) (L' := [(3, .ref ma), (2, .int (Int32.ofInt (i : Int))), (0, .ref ru), (1, .ref cu)]) (st' := [.ref ma, .ref ru]) 1 rfl ?_
    obtain ⟨bl, hbl⟩ := mo_bool (m.1 = 116 ∨ m.1 = 62 ∨ m.1 = 60)
    refine xr_call (q := (.invokevirtual 55, 3, 161, 1)) (av := [.ref ma]) (rest := [.ref ru]) rfl rfl (by decide) rfl (xr_rcv rfl hmc) (Nat.le_of_ble_eq_true rfl) (mm_161 hmc hmr hbl) ?_
    rintro _ _ ⟨rfl, eA⟩
    rw [eA]
    clear eA
    refine xr_if_eq rfl (by omega) (fun h1 => ?_) (fun h1 => ?_)
    · refine xr_steps (pc' := 48) (L' := [(3, .ref ma), (2, .int (Int32.ofInt (i : Int))), (0, .ref ru), (1, .ref cu)]) (st' := [.int (Int32.ofInt 0), .ref ru]) 1 rfl ?_
      refine rest 0 (Or.inl rfl) ⟨fun h => absurd h (by decide), fun h => ?_⟩
      rcases h with h | h
      · omega
      · rcases hbl with h3 | h3
        · omega
        · exact absurd h h3.2
    · refine xr_steps (pc' := 48) (L' := [(3, .ref ma), (2, .int (Int32.ofInt (i : Int))), (0, .ref ru), (1, .ref cu)]) (st' := [.int (Int32.ofInt 1), .ref ru]) 2 rfl ?_
      refine rest 1 (Or.inr rfl) ⟨fun _ => Or.inr ?_, fun _ => rfl⟩
      rcases hbl with h3 | h3
      · exact h3.2
      · omega
section RM
variable {w : Value} {d : Nat} {b0 : Nat} {A0 : xb_H} {cu sa v n p0 ru pa la : Nat} {f : Nat → Int} {sp : Int} {r : Option (List (Int × Int × List Int))}
/-- what readMatchers leaves -/
def yrq (b0 : Nat) (A0 A' : xb_H) (cu sa v n : Nat) (f : Nat → Int) (p0 ru pa la : Nat) (sp : Int) (r : Option (List (Int × Int × List Int))) (v0 : Option Value) : Prop := ∃ (b : Int) (p' : Nat), v0 = some (.int (Int32.ofInt b)) ∧ ycu A' cu sa v n f p' ∧ yfr A0 A' [cu, ru, la] 210 8000 ∧ ((b = 1 ∧ ∃ (ed cap : Nat) (one lo : Int) (as : List Nat) (ms : List (Int × Int × List Int)), yrr b0 A0 A' cu sa v ru pa la ed cap one lo as ms ∧ r = some ms ∧ one = (if sp = 124 then 1 else 0) ∧ (lo = 0 ∨ lo = 1) ∧ (lo = 1 ↔ ∃ m ∈ ms, xlo m)) ∨ (b = 0 ∧ r = none))
theorem mr_155l (hw : w = .null ∨ w = .ref 19) (hsp : sp = 124 ∨ sp = 38) : ∀ (k i p : Nat) (A : xb_H) (ed cap : Nat) (one lo : Int) (as : List Nat) (ms : List (Int × Int × List Int)), i + k = 100 → i = as.length → p0 + 2 * i ≤ p → ycu A cu sa v n f p → yk1 A → yfr A0 A [cu, ru, la] (4 * i) (150 * i) → yrr b0 A0 A cu sa v ru pa la ed cap one lo as ms → (i = 0 → sp = xs0 (ye n f) p ∧ one = 0) → (1 ≤ i → one = if sp = 124 then 1 else 0) → (lo = 0 ∨ lo = 1) → (lo = 1 ↔ ∃ m ∈ ms, xlo m) → r = (match xmq n (ye n f) sp k p with
    | none => none
    | some l => some (ms ++ l)) → xr_ok (xt_G w) (d + 1 + 1 + 1 + 1 + 1 + 1 + 1 + 1) 155 2 [(2, .int (Int32.ofInt (i : Int))), (0, .ref ru), (1, .ref cu)] [] A (fun o A' => ∃ v0, o = .inl v0 ∧ yrq b0 A0 A' cu sa v n f p0 ru pa la sp r v0) := by
  intro k
  induction k with
  | zero => intro i p A ed cap one lo as ms hik hi hp hc; have := hc.2.2; omega
  | succ k ih =>
    intro i p A ed cap one lo as ms hik hi hp hc hk hfr hrr hsp0 hsp1 hlo hloi hr
    have hcc := hc.2.2
    have hne := ycu_ne hc
    have hA0A := hrr.2.2.2.2.1.2.2
    rw [xmq] at hr
    refine xr_steps (pc' := 5) (L' := [(2, .int (Int32.ofInt (i : Int))), (0, .ref ru), (1, .ref cu)]) (st' := [.int (Int32.ofInt 100), .int (Int32.ofInt (i : Int))]) 2 rfl ?_
    refine xr_icmp_ge rfl (by omega) (by omega) (fun h => absurd h (by omega)) (fun _ => ?_)
    refine xr_steps (pc' := 9) (L' := [(2, .int (Int32.ofInt (i : Int))), (0, .ref ru), (1, .ref cu)]) (st' := [.ref cu]) 1 rfl ?_
    refine xr_call (q := (.invokestatic 41, 3, 156, 1)) (av := [.ref cu]) (rest := []) rfl rfl (by decide) rfl rfl (Nat.le_of_ble_eq_true rfl) (mm_156 hw hc hk) ?_
    rintro _ A1 ⟨p1, hp1, m1, hcase⟩
    have hrr1 := yrr_fr hrr m1.2 hne hcc.1
    have hk1 := yk1_mv hk m1
    have hA1 := m1.2.1.1
    obtain ⟨b1, b2, b3, b4, ⟨b5, b6, b7⟩, -⟩ := id hrr1
    have hfr1 : yfr A0 A1 [cu, ru, la] (4 * i + 3) (150 * i + 40) := yfr_trans hfr m1.2 (fun z hz => Or.inl (by rw [List.mem_singleton] at hz; rw [hz]; exact List.mem_cons_self))
    rcases hcase with ⟨ma, m, rfl, hmt, hma, hx⟩ | ⟨rfl, hx⟩
    · rw [hx] at hr
      dsimp only at hr
      have hpq : p < p1 := xms_lt hx
      obtain ⟨sm, vm, g, hmc, -, -, -, hmr, -⟩ := id hmt
      refine xr_steps (pc' := 20) (L' := [(3, .ref ma), (2, .int (Int32.ofInt (i : Int))), (0, .ref ru), (1, .ref cu)]) (st' := [.ref ru]) 4 rfl ?_
      refine xr_getf (v := .ref la) rfl b1 rfl ?_
      refine xr_steps (pc' := 24) (L' := [(3, .ref ma), (2, .int (Int32.ofInt (i : Int))), (0, .ref ru), (1, .ref cu)]) (st' := [.ref ma, .ref la]) 1 rfl ?_
      refine xr_call (q := (.invokevirtual 47, 3, 118, 2)) (av := [.ref la, .ref ma]) (rest := []) rfl rfl (by decide) rfl (xr_rcv rfl b2.choose_spec.choose_spec.1) (Nat.le_of_ble_eq_true rfl) (ma_118 b2 (by omega) (yrr_elo hrr1) hmc (Or.inr rfl)) ?_
      rintro _ A2 ⟨rfl, ed2, cap2, d1, -, d3, d4⟩
      have hed : ¬ (A.1 ≤ ed ∧ ed < A1.1) := by
        rcases hrr.2.2.2.1 with h | h <;> omega
      have hrr2 := yrr_add hrr1 hmt ⟨by omega, Nat.le_refl _, hma.1, hma.2⟩ hed d1 d3 d4
      have hA2 := d3.1.1
      obtain ⟨em, hem⟩ : ∃ em, em = if ed = 6 then la else ed := ⟨_, rfl⟩
      have hem2 : (em = la ∨ (em = ed ∧ A0.1 ≤ em)) ∧ 64 ≤ em := by
        rw [hem]
        split
        · omega
        · rcases b4 with h | h <;> omega
      rw [← hem] at d3
      have hc2 : ycu A2 cu sa v n f p1 := ycu_fr m1.1 d3 (by simp only [List.mem_cons, List.not_mem_nil, or_false]; omega) (by simp only [List.mem_cons, List.not_mem_nil, or_false]; omega) (by simp only [List.mem_cons, List.not_mem_nil, or_false]; omega)
      have hk2 : yk1 A2 := yk1_fr hk1 d3 (fun z hz => by simp only [List.mem_cons, List.not_mem_nil, or_false] at hz; omega)
      have hfr2 : yfr A0 A2 [cu, ru, la] (4 * i + 4) (150 * i + 150) := yfr_mono (yfr_trans hfr1 d3 (fun z hz => by simp only [List.mem_cons, List.not_mem_nil, or_false] at hz ⊢; omega)) (fun z hz => Or.inl hz) (by omega) (by omega)
      have hmc2 : ∃ l u : Nat, ymt A2 (yP l u sa v) ma m := by
        obtain ⟨l, u, q1, -⟩ := hrr2.2.2.2.2.2 as.length ma m (by rw [List.getElem?_append_right (Nat.le_refl _), Nat.sub_self]; rfl) (by rw [List.getElem?_append_right (by omega), b3, Nat.sub_self]; rfl)
        exact ⟨l, u, q1⟩
      obtain ⟨l2, u2, sm2, vm2, g2, hmc2, -, -, -, hmr2, -⟩ := hmc2
      refine xr_steps (pc' := 28) (L' := [(3, .ref ma), (2, .int (Int32.ofInt (i : Int))), (0, .ref ru), (1, .ref cu)]) (st' := []) 1 rfl ?_
      have hA0A2 := hrr2.2.2.2.2.1.2.2
      refine mr_155z (m := m) (by omega) hlo hrr2.1 hmc2 hmr2 (fun A3 lo2 hlo2 hlo2i f3 g3 => ?_)
      have hrr3 := yrr_set hrr2 g3 f3
      have hc3 : ycu A3 cu sa v n f p1 := ycu_fr hc2 f3 (by rw [List.mem_singleton]; omega) (by rw [List.mem_singleton]; omega) (by rw [List.mem_singleton]; omega)
      have hk3 : yk1 A3 := yk1_fr hk2 f3 (fun z hz => by rw [List.mem_singleton] at hz; omega)
      have hfr3 : yfr A0 A3 [cu, ru, la] (4 * i + 4) (150 * i + 150) := yfr_mono (yfr_trans hfr2 f3 (fun z hz => Or.inl (by rw [List.mem_singleton] at hz; rw [hz]; exact List.mem_cons_of_mem _ List.mem_cons_self))) (fun z hz => Or.inl hz) (by omega) (by omega)
      have hmem : lo2 = 1 ↔ ∃ m' ∈ ms ++ [m], xlo m' := by
        rw [hlo2i, hloi]
        constructor
        · rintro (⟨m', h1, h2⟩ | h)
          · exact ⟨m', List.mem_append_left _ h1, h2⟩
          · exact ⟨m, List.mem_append_right _ List.mem_cons_self, h⟩
        · rintro ⟨m', h1, h2⟩
          rcases List.mem_append.mp h1 with h1 | h1
          · exact Or.inl ⟨m', h1, h2⟩
          · rw [List.mem_singleton] at h1
            exact Or.inr (h1 ▸ h2)
      have tail : ∀ (A4 : xb_H) (one' : Int), one' = (if sp = 124 then 1 else 0) → yrr b0 A0 A4 cu sa v ru pa la ed2 cap2 one' lo2 (as ++ [ma]) (ms ++ [m]) → ycu A4 cu sa v n f p1 → yk1 A4 → yfr A0 A4 [cu, ru, la] (4 * i + 4) (150 * i + 150) → xr_ok (xt_G w) (d + 1 + 1 + 1 + 1 + 1 + 1 + 1 + 1) 155 73 [(3, .ref ma), (2, .int (Int32.ofInt (i : Int))), (0, .ref ru), (1, .ref cu)] [] A4 (fun o A' => ∃ v0, o = .inl v0 ∧ yrq b0 A0 A' cu sa v n f p0 ru pa la sp r v0) := by
        intro A4 one' ho hrr4 hc4 hk4 hfr4
        have h4 := hc4.2.2
        have ho2 : (one' = 1 ∧ sp = 124) ∨ (one' = 0 ∧ sp = 38) := by
          rw [ho]
          rcases hsp with h | h
          · rw [if_pos h]; exact Or.inl ⟨rfl, h⟩
          · rw [if_neg (by omega)]; exact Or.inr ⟨rfl, h⟩
        refine mr_155t hw ho2 hrr4.1 hc4 (fun A5 hs m5 => ?_) (fun be hs hbe => ⟨_, rfl, be, p1, rfl, hc4, yfr_mono hfr4 (fun z hz => Or.inl hz) (by omega) (by omega), ?_⟩)
        · rw [show (i : Int) + 1 = ((i + 1 : Nat) : Int) by omega]
          rw [if_pos hs] at hr
          have h5 := m5.1.2.2
          refine ih (i + 1) (p1 + 1) A5 ed2 cap2 one' lo2 (as ++ [ma]) (ms ++ [m]) (by omega) (by rw [List.length_append, hi]; rfl) (by omega) m5.1 (yk1_mv hk4 m5) ?_ (yrr_fr hrr4 m5.2 hne hcc.1) (fun h => absurd h (by omega)) (fun _ => ho) hlo2 hmem ?_
          · exact yfr_mono (yfr_trans hfr4 m5.2 (fun z hz => Or.inl (by rw [List.mem_singleton] at hz; rw [hz]; exact List.mem_cons_self))) (fun z hz => Or.inl hz) (by omega) (by omega)
          · rw [hr]
            cases xmq n (ye n f) sp k (p1 + 1) with
            | none => rfl
            | some l =>
              dsimp only
              rw [List.append_assoc]
              rfl
        · rw [if_neg hs] at hr
          rcases hbe with ⟨h1, h2⟩ | ⟨h1, h2⟩
          · rw [if_pos h2] at hr
            exact Or.inl ⟨h1, ed2, cap2, one', lo2, as ++ [ma], ms ++ [m], hrr4, hr, ho, hlo2, hmem⟩
          · rw [if_neg h2] at hr
            exact Or.inr ⟨h1, hr⟩
      refine mr_155o hw (by omega) (by omega) g3 hc3 (fun h0 => tail A3 one (hsp1 (by omega)) hrr3 hc3 hk3 hfr3) (fun A4 one' h0 ho f4 g4 => ?_)
      obtain ⟨hs0, -⟩ := hsp0 h0
      have hs0' : sp = if ye n f p1 = 124 then 124 else 38 := by rw [hs0]; unfold xs0; rw [hx]
      have ho' : one' = if sp = 124 then 1 else 0 := by
        rw [ho]
        by_cases h : ye n f p1 = 124
        · rw [if_pos h] at hs0' ⊢
          rw [if_pos hs0']
        · rw [if_neg h] at hs0' ⊢
          rw [if_neg (by omega)]
      exact tail A4 one' ho' (yrr_set hrr3 g4 f4) (ycu_fr hc3 f4 (by rw [List.mem_singleton]; omega) (by rw [List.mem_singleton]; omega) (by rw [List.mem_singleton]; omega)) (yk1_fr hk3 f4 (fun z hz => by rw [List.mem_singleton] at hz; omega)) (yfr_mono (yfr_trans hfr3 f4 (fun z hz => Or.inl (by rw [List.mem_singleton] at hz; rw [hz]; exact List.mem_cons_of_mem _ List.mem_cons_self))) (fun z hz => Or.inl hz) (by omega) (by omega))
    · rw [hx] at hr
      refine xr_steps (pc' := 18) (L' := [(3, .null), (2, .int (Int32.ofInt (i : Int))), (0, .ref ru), (1, .ref cu)]) (st' := [.int (Int32.ofInt 0)]) 4 rfl ?_
      exact xr_retZ rfl rfl (by omega) ⟨_, rfl, 0, p1, rfl, m1.1, yfr_mono hfr1 (fun z hz => Or.inl hz) (by omega) (by omega), Or.inr ⟨rfl, hr⟩⟩
end RM
