/-! The cursor -/
/-- a cursor cu on the text f of n characters (string sa, its row v), at p -/
def ycu (A : xb_H) (cu sa v n : Nat) (f : Nat → Int) (p : Nat) : Prop := xb_get A cu = some (.inr (2, [.ref sa, .int (Int32.ofInt (p : Int))])) ∧ ys A sa v n f ∧ (64 ≤ cu ∧ p ≤ n ∧ n ≤ 100)
/-- the character at p, 0 behind the end -/
def ye (n : Nat) (f : Nat → Int) (p : Nat) : Int := if p < n then f p else 0
theorem ycu_ne {A : xb_H} {cu sa v n p : Nat} {f : Nat → Int} (h : ycu A cu sa v n f p) : ¬ sa = cu ∧ ¬ v = cu := by
  obtain ⟨h1, ⟨⟨fs, h2, -⟩, h3, -⟩, -⟩ := h
  refine ⟨fun e => ?_, fun e => ?_⟩
  · rw [e, h1] at h2
    cases h2
  · rw [e, h1] at h3
    cases h3
theorem ye_rng {A : xb_H} {cu sa v n p : Nat} {f : Nat → Int} (h : ycu A cu sa v n f p) (q : Nat) : 0 ≤ ye n f q ∧ ye n f q ≤ 127 := by
  unfold ye
  split
  · exact h.2.1.2.2.2 q (by assumption)
  · omega
/-- the cursor moved -/
theorem ycu_set {A : xb_H} {cu sa v n p p' : Nat} {f : Nat → Int} (h : ycu A cu sa v n f p) (hp : p' ≤ n) : ycu (xb_set A cu (.inr (2, [.ref sa, .int (Int32.ofInt (p' : Int))]))) cu sa v n f p' := by
  obtain ⟨n1, n2⟩ := ycu_ne h
  obtain ⟨h1, h2, h3⟩ := h
  exact ⟨xb_get_set_same h1, ys_fr h2 (yfr_set (M := [cu]) h1 (List.mem_singleton.mpr rfl) 0 0) (by rw [List.mem_singleton]; exact n1) (by rw [List.mem_singleton]; exact n2), h3.1, hp, h3.2.2⟩
theorem ycu_fr {A A' : xb_H} {cu sa v n p : Nat} {f : Nat → Int} {M : List Nat} {a b : Nat} (h : ycu A cu sa v n f p) (hf : yfr A A' M a b) (h1 : ¬ cu ∈ M) (h2 : ¬ sa ∈ M) (h3 : ¬ v ∈ M) : ycu A' cu sa v n f p :=
  ⟨yfr_get hf h.1 h1, ys_fr h.2.1 hf h2 h3, h.2.2⟩
/-- behind a call that moved the cursor to p', making cells and writing into no other old one -/
def ymv (A A' : xb_H) (cu sa v n : Nat) (f : Nat → Int) (p' a b : Nat) : Prop := ycu A' cu sa v n f p' ∧ yfr A A' [cu] a b
theorem ymv_set {A : xb_H} {cu sa v n p p' : Nat} {f : Nat → Int} (h : ycu A cu sa v n f p) (hp : p' ≤ n) : ymv A (xb_set A cu (.inr (2, [.ref sa, .int (Int32.ofInt (p' : Int))]))) cu sa v n f p' 0 0 :=
  ⟨ycu_set h hp, yfr_set h.1 (List.mem_singleton.mpr rfl) 0 0⟩
theorem ymv_refl {A : xb_H} {cu sa v n p : Nat} {f : Nat → Int} (h : ycu A cu sa v n f p) (a b : Nat) : ymv A A cu sa v n f p a b := ⟨h, yfr_refl _ _ _ _⟩
theorem ymv_trans {A B C : xb_H} {cu sa v n p p' a b a' b' : Nat} {f : Nat → Int} (h1 : ymv A B cu sa v n f p a b) (h2 : ymv B C cu sa v n f p' a' b') : ymv A C cu sa v n f p' (a + a') (b + b') :=
  ⟨h2.1, yfr_trans h1.2 h2.2 (fun x hx => Or.inl hx)⟩
theorem ymv_mono {A B : xb_H} {cu sa v n p a b a' b' : Nat} {f : Nat → Int} (h : ymv A B cu sa v n f p a b) (ha : a ≤ a') (hb : b ≤ b') : ymv A B cu sa v n f p a' b' :=
  ⟨h.1, yfr_mono h.2 (fun x hx => Or.inl hx) ha hb⟩
theorem mk_68 {w : Value} {d : Nat} {A : xb_H} {cu sa v n p : Nat} {f : Nat → Int}  (hw : w = .null ∨ w = .ref 19) (hc : ycu A cu sa v n f p)  : xr_ok (xt_G w) (d + 1 + 1 + 1 + 1) 68 0 [(0, .ref cu)] [] A (fun o A' => ∃ v0, o = .inl v0 ∧ v0 = some (.int (Int32.ofInt (ye n f p))) ∧ A' = A) := by
  have hs := hc.2.1
  have h1 := hc.1
  have hp := hc.2.2
  obtain ⟨⟨fs, hsa, -⟩, -⟩ := hc.2.1
  refine xr_steps (pc' := 1) (L' := [(0, .ref cu)]) (st' := [.ref cu]) 1 rfl ?_
  refine xr_getf (v := .int (Int32.ofInt (p : Int))) rfl h1 rfl ?_
  refine xr_steps (pc' := 5) (L' := [(0, .ref cu)]) (st' := [.ref cu, .int (Int32.ofInt (p : Int))]) 1 rfl ?_
  refine xr_getf (v := .ref sa) rfl h1 rfl ?_
  refine xr_call (q := (.invokevirtual 17, 3, 69, 1)) (av := [.ref sa]) (rest := [.int (Int32.ofInt (p : Int))]) rfl rfl (by decide) rfl (xr_rcv rfl hsa) (Nat.le_of_ble_eq_true rfl) (ms_69 hs) ?_
  rintro _ _ ⟨rfl, eA⟩
  rw [eA]
  clear eA
  refine xr_icmp_ge rfl (by omega) (by omega) (fun z1 => ?_) (fun z1 => ?_)
  · refine xr_steps (pc' := 29) (L' := [(0, .ref cu)]) (st' := [.int (Int32.ofInt 0)]) 1 rfl ?_
    exact xr_retCh rfl rfl (by omega) ⟨_, rfl, by unfold ye; rw [if_neg (by omega)], rfl⟩
  · refine xr_steps (pc' := 15) (L' := [(0, .ref cu)]) (st' := [.ref cu]) 1 rfl ?_
    refine xr_getf (v := .ref sa) rfl h1 rfl ?_
    refine xr_steps (pc' := 19) (L' := [(0, .ref cu)]) (st' := [.ref cu, .ref sa]) 1 rfl ?_
    refine xr_getf (v := .int (Int32.ofInt (p : Int))) rfl h1 rfl ?_
    refine xr_call (q := (.invokevirtual 23, 3, 71, 2)) (av := [.ref sa, .int (Int32.ofInt (p : Int))]) (rest := []) rfl rfl (by decide) rfl (xr_rcv rfl hsa) (Nat.le_of_ble_eq_true rfl) (ms_71 hw hs (by omega)) ?_
    rintro _ _ ⟨rfl, eA⟩
    rw [eA]
    clear eA
    refine xr_steps (pc' := 29) (L' := [(0, .ref cu)]) (st' := [.int (Int32.ofInt (f (p : Int).toNat))]) 1 rfl ?_
    have hf := hs.2.2.2 p (by omega)
    rw [Int.toNat_natCast]
    exact xr_retCh rfl rfl (by omega) ⟨_, rfl, by unfold ye; rw [if_pos (by omega)], rfl⟩
theorem mk_67 {w : Value} {d : Nat} {A : xb_H} {cu sa v n p : Nat} {f : Nat → Int} {c b : Int} (hw : w = .null ∨ w = .ref 19) (hc : ycu A cu sa v n f p) (hcc : 1 ≤ c ∧ c ≤ 127) (hb : (b = 1 ∧ ye n f p = c) ∨ (b = 0 ∧ ¬ ye n f p = c)) : xr_ok (xt_G w) (d + 1 + 1 + 1 + 1 + 1) 67 0 [(0, .ref cu), (1, .int (Int32.ofInt c))] [] A (fun o A' => ∃ v0, o = .inl v0 ∧ v0 = some (.int (Int32.ofInt b)) ∧ A' = if b = 1 then xb_set A cu (.inr (2, [.ref sa, .int (Int32.ofInt ((p : Int) + 1))])) else A) := by
  have hs := hc.2.1
  have h1 := hc.1
  have hp := hc.2.2
  obtain ⟨⟨fs, hsa, -⟩, -⟩ := hc.2.1
  have hr := ye_rng hc p
  refine xr_steps (pc' := 1) (L' := [(0, .ref cu), (1, .int (Int32.ofInt c))]) (st' := [.ref cu]) 1 rfl ?_
  refine xr_call (q := (.invokevirtual 27, 3, 68, 1)) (av := [.ref cu]) (rest := []) rfl rfl (by decide) rfl (xr_rcv rfl h1) (Nat.le_of_ble_eq_true rfl) (mk_68 hw hc) ?_
  rintro _ _ ⟨rfl, eA⟩
  rw [eA]
  clear eA
  refine xr_steps (pc' := 5) (L' := [(0, .ref cu), (1, .int (Int32.ofInt c))]) (st' := [.int (Int32.ofInt c), .int (Int32.ofInt (ye n f p))]) 1 rfl ?_
  refine xr_icmp_eq rfl (by omega) (by omega) (fun z1 => ?_) (fun z1 => ?_)
  · refine xr_steps (pc' := 12) (L' := [(0, .ref cu), (1, .int (Int32.ofInt c))]) (st' := [.ref cu, .ref cu]) 2 rfl ?_
    refine xr_getf (v := .int (Int32.ofInt (p : Int))) rfl h1 rfl ?_
    refine xr_steps (pc' := 16) (L' := [(0, .ref cu), (1, .int (Int32.ofInt c))]) (st' := [.int (Int32.ofInt 1), .int (Int32.ofInt (p : Int)), .ref cu]) 1 rfl ?_
    refine xr_iadd rfl ?_
    obtain ⟨A2, eA2⟩ : ∃ A0, xb_set A cu (.inr (2, [.ref sa, .int (Int32.ofInt ((p : Int) + 1))])) = A0 := ⟨_, rfl⟩
    refine xr_putf (t := .int) rfl h1 (show 64 ≤ cu by omega) (Nat.le_of_ble_eq_true rfl) rfl (xr_fitI _) (xr_heap eA2 ?_)
    have g3 := xr_mv eA2 (xb_get_set_same h1)
    have nA2 : A2.1 = A.1 := by rw [← eA2]; rfl
    refine xr_steps (pc' := 21) (L' := [(0, .ref cu), (1, .int (Int32.ofInt c))]) (st' := [.int (Int32.ofInt 1)]) 1 rfl ?_
    obtain rfl : b = 1 := by omega
    exact xr_retZ rfl rfl (by omega) ⟨_, rfl, rfl, by rw [if_pos rfl]; exact eA2.symm⟩
  · refine xr_steps (pc' := 9) (L' := [(0, .ref cu), (1, .int (Int32.ofInt c))]) (st' := [.int (Int32.ofInt 0)]) 1 rfl ?_
    obtain rfl : b = 0 := by omega
    exact xr_retZ rfl rfl (by omega) ⟨_, rfl, rfl, (if_neg (by decide)).symm⟩
theorem ye_in {n p : Nat} {f : Nat → Int} (h : ¬ ye n f p = 0) : p < n := by
  unfold ye at h
  split at h
  · assumption
  · exact absurd rfl h
/-- accept, as a move -/
theorem mk_acc {w : Value} {d : Nat} {A : xb_H} {cu sa v n p : Nat} {f : Nat → Int} {c b : Int} (hw : w = .null ∨ w = .ref 19) (hc : ycu A cu sa v n f p) (hcc : 1 ≤ c ∧ c ≤ 127) (hb : (b = 1 ∧ ye n f p = c) ∨ (b = 0 ∧ ¬ ye n f p = c)) : xr_ok (xt_G w) (d + 1 + 1 + 1 + 1 + 1) 67 0 [(0, .ref cu), (1, .int (Int32.ofInt c))] [] A (fun o A' => ∃ v0, o = .inl v0 ∧ v0 = some (.int (Int32.ofInt b)) ∧ ((b = 1 ∧ ye n f p = c ∧ ymv A A' cu sa v n f (p + 1) 0 0) ∨ (b = 0 ∧ ¬ ye n f p = c ∧ A' = A))) := by
  refine xr_conseq (mk_67 hw hc hcc hb) ?_
  rintro o A' ⟨v0, h1, h2, h3⟩
  refine ⟨v0, h1, h2, ?_⟩
  rcases hb with ⟨rfl, h⟩ | ⟨rfl, h⟩
  · rw [if_pos rfl] at h3
    have hpn : p < n := ye_in (f := f) (by omega)
    rw [h3]
    exact Or.inl ⟨rfl, h, ymv_set hc (p' := p + 1) (by omega)⟩
  · rw [if_neg (by decide)] at h3
    exact Or.inr ⟨rfl, h, h3⟩
theorem mk_75 {w : Value} {d : Nat} {A : xb_H} {cu sa v n p : Nat} {f : Nat → Int}  (hw : w = .null ∨ w = .ref 19) (hc : ycu A cu sa v n f p)  : xr_ok (xt_G w) (d + 1 + 1 + 1 + 1 + 1) 75 0 [(0, .ref cu)] [] A (fun o A' => ∃ v0, o = .inl v0 ∧ v0 = some (.int (Int32.ofInt (ye n f p))) ∧ ((¬ ye n f p = 0 ∧ ymv A A' cu sa v n f (p + 1) 0 0) ∨ (ye n f p = 0 ∧ A' = A))) := by
  have hs := hc.2.1
  have h1 := hc.1
  have hp := hc.2.2
  obtain ⟨⟨fs, hsa, -⟩, -⟩ := hc.2.1
  have hr := ye_rng hc p
  refine xr_steps (pc' := 1) (L' := [(0, .ref cu)]) (st' := [.ref cu]) 1 rfl ?_
  refine xr_call (q := (.invokevirtual 27, 3, 68, 1)) (av := [.ref cu]) (rest := []) rfl rfl (by decide) rfl (xr_rcv rfl h1) (Nat.le_of_ble_eq_true rfl) (mk_68 hw hc) ?_
  rintro _ _ ⟨rfl, eA⟩
  rw [eA]
  clear eA
  refine xr_steps (pc' := 6) (L' := [(1, .int (Int32.ofInt (ye n f p))), (0, .ref cu)]) (st' := [.int (Int32.ofInt (ye n f p))]) 2 rfl ?_
  refine xr_if_eq rfl (by omega) (fun z1 => ?_) (fun z1 => ?_)
  · refine xr_steps (pc' := 20) (L' := [(1, .int (Int32.ofInt (ye n f p))), (0, .ref cu)]) (st' := [.int (Int32.ofInt (ye n f p))]) 1 rfl ?_
    exact xr_retCh rfl rfl (by omega) ⟨_, rfl, rfl, Or.inr ⟨by omega, rfl⟩⟩
  · refine xr_steps (pc' := 11) (L' := [(1, .int (Int32.ofInt (ye n f p))), (0, .ref cu)]) (st' := [.ref cu, .ref cu]) 2 rfl ?_
    refine xr_getf (v := .int (Int32.ofInt (p : Int))) rfl h1 rfl ?_
    refine xr_steps (pc' := 15) (L' := [(1, .int (Int32.ofInt (ye n f p))), (0, .ref cu)]) (st' := [.int (Int32.ofInt 1), .int (Int32.ofInt (p : Int)), .ref cu]) 1 rfl ?_
    refine xr_iadd rfl ?_
    obtain ⟨A2, eA2⟩ : ∃ A0, xb_set A cu (.inr (2, [.ref sa, .int (Int32.ofInt ((p : Int) + 1))])) = A0 := ⟨_, rfl⟩
    refine xr_putf (t := .int) rfl h1 (show 64 ≤ cu by omega) (Nat.le_of_ble_eq_true rfl) rfl (xr_fitI _) (xr_heap eA2 ?_)
    have g3 := xr_mv eA2 (xb_get_set_same h1)
    have nA2 : A2.1 = A.1 := by rw [← eA2]; rfl
    refine xr_steps (pc' := 20) (L' := [(1, .int (Int32.ofInt (ye n f p))), (0, .ref cu)]) (st' := [.int (Int32.ofInt (ye n f p))]) 1 rfl ?_
    have hpn : p < n := ye_in (f := f) (by omega)
    rw [← eA2]
    exact xr_retCh rfl rfl (by omega) ⟨_, rfl, rfl, Or.inl ⟨by omega, ymv_set hc (p' := p + 1) (by omega)⟩⟩
theorem mk_83 {w : Value} {d : Nat} {A : xb_H} {cu sa v n p : Nat} {f : Nat → Int} {b : Int} (hw : w = .null ∨ w = .ref 19) (hc : ycu A cu sa v n f p) (hb : (b = 1 ∧ p = n) ∨ (b = 0 ∧ ¬ p = n)) : xr_ok (xt_G w) (d + 1 + 1) 83 0 [(0, .ref cu)] [] A (fun o A' => ∃ v0, o = .inl v0 ∧ v0 = some (.int (Int32.ofInt b)) ∧ A' = A) := by
  have hs := hc.2.1
  have h1 := hc.1
  have hp := hc.2.2
  obtain ⟨⟨fs, hsa, -⟩, -⟩ := hc.2.1
  refine xr_steps (pc' := 1) (L' := [(0, .ref cu)]) (st' := [.ref cu]) 1 rfl ?_
  refine xr_getf (v := .int (Int32.ofInt (p : Int))) rfl h1 rfl ?_
  refine xr_steps (pc' := 5) (L' := [(0, .ref cu)]) (st' := [.ref cu, .int (Int32.ofInt (p : Int))]) 1 rfl ?_
  refine xr_getf (v := .ref sa) rfl h1 rfl ?_
  refine xr_call (q := (.invokevirtual 17, 3, 69, 1)) (av := [.ref sa]) (rest := [.int (Int32.ofInt (p : Int))]) rfl rfl (by decide) rfl (xr_rcv rfl hsa) (Nat.le_of_ble_eq_true rfl) (ms_69 hs) ?_
  rintro _ _ ⟨rfl, eA⟩
  rw [eA]
  clear eA
  refine xr_icmp_lt rfl (by omega) (by omega) (fun z1 => ?_) (fun z1 => ?_)
  · refine xr_steps (pc' := 19) (L' := [(0, .ref cu)]) (st' := [.int (Int32.ofInt 0)]) 1 rfl ?_
    obtain rfl : b = 0 := by omega
    exact xr_retZ rfl rfl (by omega) ⟨_, rfl, rfl, rfl⟩
  · refine xr_steps (pc' := 19) (L' := [(0, .ref cu)]) (st' := [.int (Int32.ofInt 1)]) 2 rfl ?_
    obtain rfl : b = 1 := by omega
    exact xr_retZ rfl rfl (by omega) ⟨_, rfl, rfl, rfl⟩
theorem mk_132 {w : Value} {d : Nat} {A : xb_H} {cu sa v n p : Nat} {f : Nat → Int}  (hw : w = .null ∨ w = .ref 19) (hc : ycu A cu sa v n f p)  : xr_ok (xt_G w) d 132 0 [(0, .ref cu)] [] A (fun o A' => ∃ v0, o = .inl v0 ∧ v0 = some (.int (Int32.ofInt (p : Int))) ∧ A' = A) := by
  have hs := hc.2.1
  have h1 := hc.1
  have hp := hc.2.2
  obtain ⟨⟨fs, hsa, -⟩, -⟩ := hc.2.1
  refine xr_steps (pc' := 1) (L' := [(0, .ref cu)]) (st' := [.ref cu]) 1 rfl ?_
  refine xr_getf (v := .int (Int32.ofInt (p : Int))) rfl h1 rfl ?_
  exact xr_retI2 rfl rfl ⟨_, rfl, rfl, rfl⟩
/-- how many characters from p on are between lo and hi, k at most -/
def yn (e : Nat → Int) (lo hi : Int) : Nat → Nat → Nat
  | 0, _ => 0
  | k + 1, p => if lo ≤ e p ∧ e p ≤ hi then yn e lo hi k (p + 1) + 1 else 0
theorem yn_le (e : Nat → Int) (lo hi : Int) : ∀ k p, yn e lo hi k p ≤ k := by
  intro k
  induction k with
  | zero => intro p; exact Nat.le_refl 0
  | succ k ih =>
    intro p
    unfold yn
    split
    · have := ih (p + 1); omega
    · omega
theorem mk_loop77 {w : Value} {d : Nat} {cu sa v n : Nat} {f : Nat → Int} {most : Int} {Q : xb_R → xb_H → Prop} (hw : w = .null ∨ w = .ref 19) (hmost : 0 ≤ most ∧ most ≤ 1000) : ∀ (k p : Nat) (A : xb_H) (_ : ycu A cu sa v n f p) (j : Int), 0 ≤ j → j + (k : Int) = most → (∀ A', ymv A A' cu sa v n f (p + yn (ye n f) 97 122 k p) 0 0 → Q (.inl (some (.int (Int32.ofInt (j + (yn (ye n f) 97 122 k p : Int)))))) A') → xr_ok (xt_G w) (d + 1 + 1 + 1 + 1 + 1) 77 2 [(2, .int (Int32.ofInt j)), (0, .ref cu), (1, .int (Int32.ofInt most))] [] A Q := by
  intro k
  induction k with
  | zero =>
    intro p A hc j hj he hQ
    refine xr_steps (pc' := 4) (L' := [(2, .int (Int32.ofInt j)), (0, .ref cu), (1, .int (Int32.ofInt most))]) (st' := [.int (Int32.ofInt most), .int (Int32.ofInt j)]) 2 rfl ?_
    refine xr_icmp_ge rfl (by omega) (by omega) (fun _ => ?_) (fun h => absurd (show most ≤ j by omega) h)
    refine xr_steps (pc' := 42) (L' := [(2, .int (Int32.ofInt j)), (0, .ref cu), (1, .int (Int32.ofInt most))]) (st' := [.int (Int32.ofInt j)]) 1 rfl ?_
    have := hQ A (ymv_refl hc 0 0)
    simp only [yn, Int.natCast_zero, Int.add_zero] at this
    exact xr_retI2 rfl rfl this
  | succ k ih =>
    intro p A hc j hj he hQ
    have hs := hc.2.1
    have h1 := hc.1
    have hp := hc.2.2
    obtain ⟨⟨fs, hsa, -⟩, -⟩ := hc.2.1
    have hr := ye_rng hc p
    refine xr_steps (pc' := 4) (L' := [(2, .int (Int32.ofInt j)), (0, .ref cu), (1, .int (Int32.ofInt most))]) (st' := [.int (Int32.ofInt most), .int (Int32.ofInt j)]) 2 rfl ?_
    refine xr_icmp_ge rfl (by omega) (by omega) (fun z21 => ?_) (fun z21 => ?_)
    · exfalso; omega
    · refine xr_steps (pc' := 8) (L' := [(2, .int (Int32.ofInt j)), (0, .ref cu), (1, .int (Int32.ofInt most))]) (st' := [.ref cu]) 1 rfl ?_
      refine xr_call (q := (.invokevirtual 27, 3, 68, 1)) (av := [.ref cu]) (rest := []) rfl rfl (by decide) rfl (xr_rcv rfl h1) (Nat.le_of_ble_eq_true rfl) (mk_68 hw hc) ?_
      rintro _ _ ⟨rfl, eA⟩
      rw [eA]
      clear eA
      refine xr_steps (pc' := 13) (L' := [(2, .int (Int32.ofInt j)), (0, .ref cu), (1, .int (Int32.ofInt most))]) (st' := [.int (Int32.ofInt 97), .int (Int32.ofInt (ye n f p))]) 1 rfl ?_
      refine xr_icmp_lt rfl (by omega) (by omega) (fun z22 => ?_) (fun z22 => ?_)
      · refine xr_steps (pc' := 42) (L' := [(2, .int (Int32.ofInt j)), (0, .ref cu), (1, .int (Int32.ofInt most))]) (st' := [.int (Int32.ofInt j)]) 1 rfl ?_
        have e : yn (ye n f) 97 122 (k + 1) p = 0 := by
          show (if 97 ≤ ye n f p ∧ ye n f p ≤ 122 then _ else _) = _
          rw [if_neg (by omega)]
        rw [e] at hQ
        have := hQ A (ymv_refl hc 0 0)
        simp only [Int.natCast_zero, Int.add_zero] at this
        exact xr_retI2 rfl rfl this
      · refine xr_steps (pc' := 17) (L' := [(2, .int (Int32.ofInt j)), (0, .ref cu), (1, .int (Int32.ofInt most))]) (st' := [.ref cu]) 1 rfl ?_
        refine xr_call (q := (.invokevirtual 27, 3, 68, 1)) (av := [.ref cu]) (rest := []) rfl rfl (by decide) rfl (xr_rcv rfl h1) (Nat.le_of_ble_eq_true rfl) (mk_68 hw hc) ?_
        rintro _ _ ⟨rfl, eA⟩
        rw [eA]
        clear eA
        refine xr_steps (pc' := 22) (L' := [(2, .int (Int32.ofInt j)), (0, .ref cu), (1, .int (Int32.ofInt most))]) (st' := [.int (Int32.ofInt 122), .int (Int32.ofInt (ye n f p))]) 1 rfl ?_
        refine xr_icmp_gt rfl (by omega) (by omega) (fun z23 => ?_) (fun z23 => ?_)
        · refine xr_steps (pc' := 42) (L' := [(2, .int (Int32.ofInt j)), (0, .ref cu), (1, .int (Int32.ofInt most))]) (st' := [.int (Int32.ofInt j)]) 1 rfl ?_
          have e : yn (ye n f) 97 122 (k + 1) p = 0 := by
            show (if 97 ≤ ye n f p ∧ ye n f p ≤ 122 then _ else _) = _
            rw [if_neg (by omega)]
          rw [e] at hQ
          have := hQ A (ymv_refl hc 0 0)
          simp only [Int.natCast_zero, Int.add_zero] at this
          exact xr_retI2 rfl rfl this
        · refine xr_steps (pc' := 27) (L' := [(2, .int (Int32.ofInt j)), (0, .ref cu), (1, .int (Int32.ofInt most))]) (st' := [.ref cu, .ref cu]) 2 rfl ?_
          refine xr_getf (v := .int (Int32.ofInt (p : Int))) rfl h1 rfl ?_
          refine xr_steps (pc' := 31) (L' := [(2, .int (Int32.ofInt j)), (0, .ref cu), (1, .int (Int32.ofInt most))]) (st' := [.int (Int32.ofInt 1), .int (Int32.ofInt (p : Int)), .ref cu]) 1 rfl ?_
          refine xr_iadd rfl ?_
          obtain ⟨A24, eA24⟩ : ∃ A0, xb_set A cu (.inr (2, [.ref sa, .int (Int32.ofInt ((p : Int) + 1))])) = A0 := ⟨_, rfl⟩
          refine xr_putf (t := .int) rfl h1 (show 64 ≤ cu by omega) (Nat.le_of_ble_eq_true rfl) rfl (xr_fitI _) (xr_heap eA24 ?_)
          have g25 := xr_mv eA24 (xb_get_set_same h1)
          have nA24 : A24.1 = A.1 := by rw [← eA24]; rfl
          refine xr_iinc (L' := [(2, .int (Int32.ofInt (j + 1))), (0, .ref cu), (1, .int (Int32.ofInt most))]) rfl rfl rfl ?_
          refine xr_steps (pc' := 2) (L' := [(2, .int (Int32.ofInt (j + 1))), (0, .ref cu), (1, .int (Int32.ofInt most))]) (st' := []) 1 rfl ?_
          have hpn : p < n := ye_in (f := f) (by omega)
          refine ih (p + 1) _ (by rw [← eA24]; exact ycu_set hc (p' := p + 1) (by omega)) (j + 1) (by omega) (by omega) (fun A' hm => ?_)
          rw [← eA24] at hm
          have e : yn (ye n f) 97 122 (k + 1) p = yn (ye n f) 97 122 k (p + 1) + 1 := by
            show (if 97 ≤ ye n f p ∧ ye n f p ≤ 122 then _ else _) = _
            rw [if_pos (by omega)]
          have e2 : j + 1 + (yn (ye n f) 97 122 k (p + 1) : Int) = j + ((yn (ye n f) 97 122 (k + 1) p : Nat) : Int) := by omega
          rw [e2]
          refine hQ A' ?_
          rw [e, show p + (yn (ye n f) 97 122 k (p + 1) + 1) = p + 1 + yn (ye n f) 97 122 k (p + 1) by omega]
          exact ymv_trans (ymv_set hc (p' := p + 1) (by omega)) hm
theorem mk_77 {w : Value} {d : Nat} {A : xb_H} {cu sa v n p : Nat} {f : Nat → Int} {most : Nat} (hw : w = .null ∨ w = .ref 19) (hc : ycu A cu sa v n f p) (hm : most ≤ 1000) : xr_ok (xt_G w) (d + 1 + 1 + 1 + 1 + 1) 77 0 [(0, .ref cu), (1, .int (Int32.ofInt (most : Int)))] [] A (fun o A' => ∃ v0, o = .inl v0 ∧ v0 = some (.int (Int32.ofInt (yn (ye n f) 97 122 most p : Int))) ∧ ymv A A' cu sa v n f (p + yn (ye n f) 97 122 most p) 0 0) := by
  refine xr_steps (pc' := 2) (L' := [(2, .int (Int32.ofInt 0)), (0, .ref cu), (1, .int (Int32.ofInt (most : Int)))]) (st' := []) 2 rfl ?_
  refine mk_loop77 hw (by omega) most p A hc 0 (by omega) (by omega) (fun A' h => ⟨_, rfl, ?_, h⟩)
  rw [Int.zero_add]
theorem mk_loop81 {w : Value} {d : Nat} {cu sa v n : Nat} {f : Nat → Int} {most : Int} {Q : xb_R → xb_H → Prop} (hw : w = .null ∨ w = .ref 19) (hmost : 0 ≤ most ∧ most ≤ 1000) : ∀ (k p : Nat) (A : xb_H) (_ : ycu A cu sa v n f p) (j : Int), 0 ≤ j → j + (k : Int) = most → (∀ A', ymv A A' cu sa v n f (p + yn (ye n f) 48 57 k p) 0 0 → Q (.inl (some (.int (Int32.ofInt (j + (yn (ye n f) 48 57 k p : Int)))))) A') → xr_ok (xt_G w) (d + 1 + 1 + 1 + 1 + 1) 81 2 [(2, .int (Int32.ofInt j)), (0, .ref cu), (1, .int (Int32.ofInt most))] [] A Q := by
  intro k
  induction k with
  | zero =>
    intro p A hc j hj he hQ
    refine xr_steps (pc' := 4) (L' := [(2, .int (Int32.ofInt j)), (0, .ref cu), (1, .int (Int32.ofInt most))]) (st' := [.int (Int32.ofInt most), .int (Int32.ofInt j)]) 2 rfl ?_
    refine xr_icmp_ge rfl (by omega) (by omega) (fun _ => ?_) (fun h => absurd (show most ≤ j by omega) h)
    refine xr_steps (pc' := 42) (L' := [(2, .int (Int32.ofInt j)), (0, .ref cu), (1, .int (Int32.ofInt most))]) (st' := [.int (Int32.ofInt j)]) 1 rfl ?_
    have := hQ A (ymv_refl hc 0 0)
    simp only [yn, Int.natCast_zero, Int.add_zero] at this
    exact xr_retI2 rfl rfl this
  | succ k ih =>
    intro p A hc j hj he hQ
    have hs := hc.2.1
    have h1 := hc.1
    have hp := hc.2.2
    obtain ⟨⟨fs, hsa, -⟩, -⟩ := hc.2.1
    have hr := ye_rng hc p
    refine xr_steps (pc' := 4) (L' := [(2, .int (Int32.ofInt j)), (0, .ref cu), (1, .int (Int32.ofInt most))]) (st' := [.int (Int32.ofInt most), .int (Int32.ofInt j)]) 2 rfl ?_
    refine xr_icmp_ge rfl (by omega) (by omega) (fun z21 => ?_) (fun z21 => ?_)
    · exfalso; omega
    · refine xr_steps (pc' := 8) (L' := [(2, .int (Int32.ofInt j)), (0, .ref cu), (1, .int (Int32.ofInt most))]) (st' := [.ref cu]) 1 rfl ?_
      refine xr_call (q := (.invokevirtual 27, 3, 68, 1)) (av := [.ref cu]) (rest := []) rfl rfl (by decide) rfl (xr_rcv rfl h1) (Nat.le_of_ble_eq_true rfl) (mk_68 hw hc) ?_
      rintro _ _ ⟨rfl, eA⟩
      rw [eA]
      clear eA
      refine xr_steps (pc' := 13) (L' := [(2, .int (Int32.ofInt j)), (0, .ref cu), (1, .int (Int32.ofInt most))]) (st' := [.int (Int32.ofInt 48), .int (Int32.ofInt (ye n f p))]) 1 rfl ?_
      refine xr_icmp_lt rfl (by omega) (by omega) (fun z22 => ?_) (fun z22 => ?_)
      · refine xr_steps (pc' := 42) (L' := [(2, .int (Int32.ofInt j)), (0, .ref cu), (1, .int (Int32.ofInt most))]) (st' := [.int (Int32.ofInt j)]) 1 rfl ?_
        have e : yn (ye n f) 48 57 (k + 1) p = 0 := by
          show (if 48 ≤ ye n f p ∧ ye n f p ≤ 57 then _ else _) = _
          rw [if_neg (by omega)]
        rw [e] at hQ
        have := hQ A (ymv_refl hc 0 0)
        simp only [Int.natCast_zero, Int.add_zero] at this
        exact xr_retI2 rfl rfl this
      · refine xr_steps (pc' := 17) (L' := [(2, .int (Int32.ofInt j)), (0, .ref cu), (1, .int (Int32.ofInt most))]) (st' := [.ref cu]) 1 rfl ?_
        refine xr_call (q := (.invokevirtual 27, 3, 68, 1)) (av := [.ref cu]) (rest := []) rfl rfl (by decide) rfl (xr_rcv rfl h1) (Nat.le_of_ble_eq_true rfl) (mk_68 hw hc) ?_
        rintro _ _ ⟨rfl, eA⟩
        rw [eA]
        clear eA
        refine xr_steps (pc' := 22) (L' := [(2, .int (Int32.ofInt j)), (0, .ref cu), (1, .int (Int32.ofInt most))]) (st' := [.int (Int32.ofInt 57), .int (Int32.ofInt (ye n f p))]) 1 rfl ?_
        refine xr_icmp_gt rfl (by omega) (by omega) (fun z23 => ?_) (fun z23 => ?_)
        · refine xr_steps (pc' := 42) (L' := [(2, .int (Int32.ofInt j)), (0, .ref cu), (1, .int (Int32.ofInt most))]) (st' := [.int (Int32.ofInt j)]) 1 rfl ?_
          have e : yn (ye n f) 48 57 (k + 1) p = 0 := by
            show (if 48 ≤ ye n f p ∧ ye n f p ≤ 57 then _ else _) = _
            rw [if_neg (by omega)]
          rw [e] at hQ
          have := hQ A (ymv_refl hc 0 0)
          simp only [Int.natCast_zero, Int.add_zero] at this
          exact xr_retI2 rfl rfl this
        · refine xr_steps (pc' := 27) (L' := [(2, .int (Int32.ofInt j)), (0, .ref cu), (1, .int (Int32.ofInt most))]) (st' := [.ref cu, .ref cu]) 2 rfl ?_
          refine xr_getf (v := .int (Int32.ofInt (p : Int))) rfl h1 rfl ?_
          refine xr_steps (pc' := 31) (L' := [(2, .int (Int32.ofInt j)), (0, .ref cu), (1, .int (Int32.ofInt most))]) (st' := [.int (Int32.ofInt 1), .int (Int32.ofInt (p : Int)), .ref cu]) 1 rfl ?_
          refine xr_iadd rfl ?_
          obtain ⟨A24, eA24⟩ : ∃ A0, xb_set A cu (.inr (2, [.ref sa, .int (Int32.ofInt ((p : Int) + 1))])) = A0 := ⟨_, rfl⟩
          refine xr_putf (t := .int) rfl h1 (show 64 ≤ cu by omega) (Nat.le_of_ble_eq_true rfl) rfl (xr_fitI _) (xr_heap eA24 ?_)
          have g25 := xr_mv eA24 (xb_get_set_same h1)
          have nA24 : A24.1 = A.1 := by rw [← eA24]; rfl
          refine xr_iinc (L' := [(2, .int (Int32.ofInt (j + 1))), (0, .ref cu), (1, .int (Int32.ofInt most))]) rfl rfl rfl ?_
          refine xr_steps (pc' := 2) (L' := [(2, .int (Int32.ofInt (j + 1))), (0, .ref cu), (1, .int (Int32.ofInt most))]) (st' := []) 1 rfl ?_
          have hpn : p < n := ye_in (f := f) (by omega)
          refine ih (p + 1) _ (by rw [← eA24]; exact ycu_set hc (p' := p + 1) (by omega)) (j + 1) (by omega) (by omega) (fun A' hm => ?_)
          rw [← eA24] at hm
          have e : yn (ye n f) 48 57 (k + 1) p = yn (ye n f) 48 57 k (p + 1) + 1 := by
            show (if 48 ≤ ye n f p ∧ ye n f p ≤ 57 then _ else _) = _
            rw [if_pos (by omega)]
          have e2 : j + 1 + (yn (ye n f) 48 57 k (p + 1) : Int) = j + ((yn (ye n f) 48 57 (k + 1) p : Nat) : Int) := by omega
          rw [e2]
          refine hQ A' ?_
          rw [e, show p + (yn (ye n f) 48 57 k (p + 1) + 1) = p + 1 + yn (ye n f) 48 57 k (p + 1) by omega]
          exact ymv_trans (ymv_set hc (p' := p + 1) (by omega)) hm
theorem mk_81 {w : Value} {d : Nat} {A : xb_H} {cu sa v n p : Nat} {f : Nat → Int} {most : Nat} (hw : w = .null ∨ w = .ref 19) (hc : ycu A cu sa v n f p) (hm : most ≤ 1000) : xr_ok (xt_G w) (d + 1 + 1 + 1 + 1 + 1) 81 0 [(0, .ref cu), (1, .int (Int32.ofInt (most : Int)))] [] A (fun o A' => ∃ v0, o = .inl v0 ∧ v0 = some (.int (Int32.ofInt (yn (ye n f) 48 57 most p : Int))) ∧ ymv A A' cu sa v n f (p + yn (ye n f) 48 57 most p) 0 0) := by
  refine xr_steps (pc' := 2) (L' := [(2, .int (Int32.ofInt 0)), (0, .ref cu), (1, .int (Int32.ofInt (most : Int)))]) (st' := []) 2 rfl ?_
  refine mk_loop81 hw (by omega) most p A hc 0 (by omega) (by omega) (fun A' h => ⟨_, rfl, ?_, h⟩)
  rw [Int.zero_add]
