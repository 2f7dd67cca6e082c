/-! What stands in a text: values by recursion on their depth -/
/-- elements: values with commas between, up to ] -/
def xpa {α : Type} (e : Nat → Int) (pv : Nat → Option (α × Nat)) : Nat → Nat → Option (List (Int × α) × Nat)
  | 0, _ => none
  | k + 1, p => match pv p with
    | none => none
    | some (v, q) => if e q = 44 then (match xpa e pv k (q + 1) with
        | none => none
        | some (l, r) => some ((0, v) :: l, r)) else if e q = 93 then some ([(0, v)], q + 1) else none
/-- members, up to }; seen: the keys before them -/
noncomputable def xpo {α : Type} (e : Nat → Int) (pv : Nat → Option (α × Nat)) : Nat → List Int → Nat → Option (List (Int × α) × Nat)
  | 0, _, _ => none
  | k + 1, seen, p => @ite _ (xpk e p ∧ ¬ e (p + 1) ∈ seen) (Classical.propDecidable _) (match pv (p + 4) with
    | none => none
    | some (v, q) => if e q = 44 then (match xpo e pv k (seen ++ [e (p + 1)]) (q + 1) with
        | none => none
        | some (l, r) => some ((e (p + 1), v) :: l, r)) else if e q = 125 then some ([(e (p + 1), v)], q + 1) else none) none
/-- what stands at p and is no array and no object -/
noncomputable def xpl (e : Nat → Int) (p : Nat) : Option (Nat × List Int × Nat) := if e p = 34 then xps e p else if e p = 110 then xpw e (yk_f 1) 4 0 [110, 117, 108, 108] p else if e p = 116 then xpw e (yk_f 2) 4 1 [116, 114, 117, 101] p else if e p = 102 then xpw e (yk_f 3) 5 1 [102, 97, 108, 115, 101] p else xpn e p
/-- the value at p, of n levels at most, and its end -/
noncomputable def xpv (e : Nat → Int) : (n : Nat) → Nat → Option (xv n × Nat)
  | 0, _ => none
  | n + 1, p => if e p = 91 then (if n = 0 then none else if e (p + 1) = 93 then some (xv_m 4 [] [], p + 2) else (match xpa e (xpv e n) 100 (p + 1) with
      | none => none
      | some (l, q) => some (xv_m 4 [] l, q)))
    else if e p = 123 then (if n = 0 then none else if e (p + 1) = 125 then some (xv_m 5 [] [], p + 2) else (match xpo e (xpv e n) 100 [] (p + 1) with
      | none => none
      | some (l, q) => some (xv_m 5 [] l, q)))
    else (match xpl e p with
      | none => none
      | some (kd, ls, q) => some (xv_m kd ls [], q))
/-- what a reader of values does -/
def yrv (A A' : xb_H) (cu sa v n : Nat) (f : Nat → Int) (p m : Nat) (r : Option (xv m × Nat)) (v0 : Option Value) : Prop := ∃ p', p ≤ p' ∧ ((∃ (a : Nat) (t : xv m), v0 = some (.ref a) ∧ yt A' (yP A.1 A'.1 sa v) m a 0 t ∧ (A.1 ≤ a ∧ a < A'.1) ∧ p < p' ∧ ymv A A' cu sa v n f p' (9 * (p' - p)) (110 * (p' - p)) ∧ (r = some (t, p') ∨ (r = none ∧ 48 ≤ ye n f p' ∧ ye n f p' ≤ 57))) ∨ (v0 = some .null ∧ r = none ∧ ymv A A' cu sa v n f p' (9 * (p' - p) + 9) (110 * (p' - p) + 110)))
/-- the first with a key -/
def xfnd : List Int → List Nat → Int → Option Nat
  | k :: ks, a :: as, c => if k = c then some a else xfnd ks as c
  | _, _, _ => none
/-- keys of objects -/
def ykey (A : xb_H) (a : Nat) (k : Int) : Prop := ∃ fs : List Value, xb_get A a = some (.inr (9, fs)) ∧ fs[3]? = some (.int (Int32.ofInt k)) ∧ 0 ≤ k ∧ k ≤ 127
def xmL (a i : Nat) (c : Int) (o : Option Nat) : xb_L := (2, .int (Int32.ofInt (i : Int))) :: (match o with
  | none => [(0, .ref a), (1, .int (Int32.ofInt c))]
  | some x => [(3, .ref x), (0, .ref a), (1, .int (Int32.ofInt c))])
theorem mv_mloop {w : Value} {d : Nat} {A : xb_H} {a la ed cap : Nat} {as : List Nat} {fs : List Value} {c : Int} {Q : xb_R → xb_H → Prop} (hc : 0 ≤ c ∧ c ≤ 127) (ha : xb_get A a = some (.inr (9, fs))) (ha2 : fs[2]? = some (.ref la)) (hl : yal A la ed cap as) : ∀ (ks : List Int) (bs : List Nat) (i : Nat) (o : Option Nat), ks.length = bs.length → i + bs.length = as.length → (∀ j, as[i + j]? = bs[j]?) → (∀ (j x : Nat) (k : Int), bs[j]? = some x → ks[j]? = some k → ykey A x k) → (match xfnd ks bs c with
    | none => Q (.inl (some .null)) A
    | some x => Q (.inl (some (.ref x))) A) → xr_ok (xt_G w) (d + 1 + 1 + 1) 126 2 (xmL a i c o) [] A Q := by
  intro ks
  have hcap : as.length ≤ 300 := by
    obtain ⟨mc, g, -, -, -, h1, h2, -⟩ := hl
    omega
  obtain ⟨mc, g, hla, -⟩ := id hl
  induction ks with
  | nil =>
    intro bs i o hkl hil hab hk hQ
    have hb : bs.length = 0 := hkl.symm
    refine xr_steps (pc' := 4) (L' := xmL a i c o) (st' := [.ref a, .int (Int32.ofInt (i : Int))]) 2 (by cases o <;> rfl) ?_
    refine xr_getf (v := .ref la) rfl ha ha2 ?_
    refine xr_call (q := (.invokevirtual 136, 3, 127, 1)) (av := [.ref la]) (rest := [.int (Int32.ofInt (i : Int))]) rfl rfl (by decide) rfl (xr_rcv rfl hla) (Nat.le_of_ble_eq_true rfl) (ma_127 hl) ?_
    rintro _ _ ⟨rfl, eA⟩
    rw [eA]
    clear eA
    refine xr_icmp_ge rfl (by omega) (by omega) (fun _ => ?_) (fun h => absurd (show (as.length : Int) ≤ (i : Int) by omega) h)
    refine xr_steps (pc' := 42) (L' := xmL a i c o) (st' := [.null]) 1 (by cases o <;> rfl) ?_
    exact xr_retNull rfl rfl hQ
  | cons k ks ih =>
    intro bs i o hkl hil hab hk hQ
    cases bs with
    | nil => cases hkl
    | cons x bs =>
      have hx : as[i]? = some x := by have := hab 0; rw [Nat.add_zero] at this; rw [this]; rfl
      obtain ⟨gs, hx1, hx3, hkr⟩ := hk 0 x k rfl rfl
      have hlen : bs.length + 1 = (x :: bs).length := rfl
      refine xr_steps (pc' := 4) (L' := xmL a i c o) (st' := [.ref a, .int (Int32.ofInt (i : Int))]) 2 (by cases o <;> rfl) ?_
      refine xr_getf (v := .ref la) rfl ha ha2 ?_
      refine xr_call (q := (.invokevirtual 136, 3, 127, 1)) (av := [.ref la]) (rest := [.int (Int32.ofInt (i : Int))]) rfl rfl (by decide) rfl (xr_rcv rfl hla) (Nat.le_of_ble_eq_true rfl) (ma_127 hl) ?_
      rintro _ _ ⟨rfl, eA⟩
      rw [eA]
      clear eA
      refine xr_icmp_ge rfl (by omega) (by omega) (fun h => absurd h (by omega)) (fun _ => ?_)
      refine xr_steps (pc' := 14) (L' := xmL a i c o) (st' := [.ref a]) 1 (by cases o <;> rfl) ?_
      refine xr_getf (v := .ref la) rfl ha ha2 ?_
      refine xr_steps (pc' := 18) (L' := xmL a i c o) (st' := [.int (Int32.ofInt (i : Int)), .ref la]) 1 (by cases o <;> rfl) ?_
      refine xr_call (q := (.invokevirtual 139, 3, 128, 2)) (av := [.ref la, .int (Int32.ofInt (i : Int))]) (rest := []) rfl rfl (by decide) rfl (xr_rcv rfl hla) (Nat.le_of_ble_eq_true rfl) (ma_128 hl hx) ?_
      rintro _ _ ⟨rfl, eA⟩
      rw [eA]
      clear eA
      refine xr_castO rfl hx1 rfl ?_
      refine xr_steps (pc' := 26) (L' := [(3, .ref x), (2, .int (Int32.ofInt (i : Int))), (0, .ref a), (1, .int (Int32.ofInt c))]) (st' := [.ref x]) 2 (by cases o <;> rfl) ?_
      refine xr_getf (v := .int (Int32.ofInt k)) rfl hx1 hx3 ?_
      refine xr_steps (pc' := 30) (L' := [(3, .ref x), (2, .int (Int32.ofInt (i : Int))), (0, .ref a), (1, .int (Int32.ofInt c))]) (st' := [.int (Int32.ofInt c), .int (Int32.ofInt k)]) 1 rfl ?_
      have hf : xfnd (k :: ks) (x :: bs) c = if k = c then some x else xfnd ks bs c := rfl
      rw [hf] at hQ
      refine xr_icmp_ne rfl (by omega) (by omega) (fun hkc => ?_) (fun hkc => ?_)
      · rw [if_neg hkc] at hQ
        refine xr_iinc (L' := [(2, .int (Int32.ofInt ((i : Int) + 1))), (3, .ref x), (0, .ref a), (1, .int (Int32.ofInt c))]) rfl rfl rfl ?_
        refine xr_steps (pc' := 2) (L' := [(2, .int (Int32.ofInt ((i : Int) + 1))), (3, .ref x), (0, .ref a), (1, .int (Int32.ofInt c))]) (st' := []) 1 rfl ?_
        have ei : (i : Int) + 1 = ((i + 1 : Nat) : Int) := by omega
        rw [ei]
        refine ih bs (i + 1) (some x) (by simpa using hkl) (by omega) (fun j => ?_) (fun j y kk h1 h2 => hk (j + 1) y kk h1 h2) hQ
        have := hab (j + 1)
        rw [show i + 1 + j = i + (j + 1) by omega, this]
        rfl
      · rw [if_pos hkc] at hQ
        refine xr_steps (pc' := 34) (L' := [(3, .ref x), (2, .int (Int32.ofInt (i : Int))), (0, .ref a), (1, .int (Int32.ofInt c))]) (st' := [.ref x]) 1 rfl ?_
        exact xr_retR rfl rfl hQ
/-- Value.member -/
theorem mv_126 {w : Value} {d : Nat} {A : xb_H} {a la ed cap : Nat} {as : List Nat} {ks : List Int} {fs : List Value} {c : Int} (hc : 0 ≤ c ∧ c ≤ 127) (ha : xb_get A a = some (.inr (9, fs))) (ha2 : fs[2]? = some (.ref la)) (hl : yal A la ed cap as) (hkl : ks.length = as.length) (hk : ∀ (j x : Nat) (k : Int), as[j]? = some x → ks[j]? = some k → ykey A x k) : xr_ok (xt_G w) (d + 1 + 1 + 1) 126 0 [(0, .ref a), (1, .int (Int32.ofInt c))] [] A (fun o A' => ∃ v0, o = .inl v0 ∧ v0 = some (xb_ref (xfnd ks as c)) ∧ A' = A) := by
  refine xr_steps (pc' := 2) (L' := xmL a 0 c none) (st' := []) 2 rfl ?_
  refine mv_mloop hc ha ha2 hl ks as 0 none hkl (by omega) (fun j => by rw [Nat.zero_add]) hk ?_
  cases xfnd ks as c with
  | none => exact ⟨_, rfl, rfl, rfl⟩
  | some x => exact ⟨_, rfl, rfl, rfl⟩
/-! An array or object while it is read -/
theorem yt_cell {A : xb_H} {P : Nat → Prop} {n a : Nat} {k : Int} {t : xv n} (h : yt A P n a k t) : ∃ fs : List Value, xb_get A a = some (.inr (9, fs)) ∧ fs[3]? = some (.int (Int32.ofInt k)) ∧ fs[4]? = some (.int (Int32.ofInt (xsz n t : Nat))) := by
  cases n with
  | zero => exact absurd h id
  | succ n =>
    obtain ⟨sa, v, la, ed, cap, f, as, q1, -⟩ := h
    exact ⟨_, q1, rfl, rfl⟩
def yrow (A0 A : xb_H) (cu sa v n a la ed cap kd : Nat) (as : List Nat) (ts : List (Int × xv n)) : Prop :=
  xb_get A a = some (.inr (9, [.ref kd, .ref 9, .ref la, .int (Int32.ofInt 0), .int (Int32.ofInt ((1 + (ts.map fun p => xsz n p.2).sum : Nat) : Int))])) ∧ yal A la ed cap as ∧ as.length = ts.length ∧ ((A0.1 ≤ a ∧ a < A.1) ∧ (A0.1 ≤ la ∧ la < A.1) ∧ (ed = 6 ∨ (A0.1 ≤ ed ∧ ed < A.1))) ∧ (cu < A0.1 ∧ 64 ≤ cu) ∧ (sa < A0.1 ∧ v < A0.1) ∧ ∀ (i x : Nat) (p : Int × xv n), as[i]? = some x → ts[i]? = some p → ∃ lo hi : Nat, yt A (yP lo hi sa v) n x p.1 p.2 ∧ (A0.1 ≤ lo ∧ hi ≤ A.1 ∧ lo ≤ x ∧ x < hi) ∧ ¬ (lo ≤ a ∧ a < hi) ∧ ¬ (lo ≤ la ∧ la < hi) ∧ ¬ (lo ≤ ed ∧ ed < hi)
section YROW
variable {A0 A A' : xb_H} {cu sa v n a la ed cap kd : Nat} {as : List Nat} {ts : List (Int × xv n)}
theorem yrow_elo (h : yrow A0 A cu sa v n a la ed cap kd as ts) : ∀ y ∈ as, xb_elo A (some y) = true := by
  intro y hy
  obtain ⟨i, hi, hx⟩ := List.mem_iff_getElem.mp hy
  obtain ⟨-, -, hlen, -, -, -, hE⟩ := h
  have hx' : as[i]? = some y := by rw [List.getElem?_eq_getElem hi, hx]
  have hp : ts[i]? = some ts[i] := List.getElem?_eq_getElem (by omega)
  obtain ⟨lo, hi', ht, -⟩ := hE i y _ hx' hp
  obtain ⟨fs, hc, -⟩ := yt_cell ht
  exact elo_of hc (Or.inl rfl)
/-- as long as only the cursor moves and cells are made -/
theorem yrow_fr {p q : Nat} (h : yrow A0 A cu sa v n a la ed cap kd as ts) (hf : yfr A A' [cu] p q) (hne : ¬ sa = cu ∧ ¬ v = cu) : yrow A0 A' cu sa v n a la ed cap kd as ts := by
  obtain ⟨h1, h2, h3, ⟨h4, h5, h6⟩, h7, h8, h9⟩ := h
  have hA := hf.1.1
  refine ⟨yfr_get hf h1 (by rw [List.mem_singleton]; omega), yal_fr h2 hf (by rw [List.mem_singleton]; omega) (by rw [List.mem_singleton]; omega), h3, ⟨by omega, by omega, by omega⟩, h7, h8, fun i x p hx hp => ?_⟩
  obtain ⟨lo, hi, q1, q2, q3, q4, q5⟩ := h9 i x p hx hp
  refine ⟨lo, hi, yt_keep _ _ (fun y o hy hg => yfr_get hf hg ?_) _ _ _ q1, by omega, q3, q4, q5⟩
  rw [List.mem_singleton]
  rcases hy with hy | hy | hy | hy
  · omega
  · rw [hy]; exact hne.1
  · rw [hy]; exact hne.2
  · omega
/-- a part is added -/
theorem yrow_add {x lo hi ed' cap' p q : Nat} {k : Int} {t : xv n} (h : yrow A0 A cu sa v n a la ed cap kd as ts) (hx : yt A (yP lo hi sa v) n x k t) (hlo : A0.1 ≤ lo ∧ hi ≤ A.1 ∧ lo ≤ x ∧ x < hi) (na : ¬ (lo ≤ a ∧ a < hi) ∧ ¬ (lo ≤ la ∧ la < hi) ∧ ¬ (lo ≤ ed ∧ ed < hi)) (h1 : xb_get A' a = some (.inr (9, [.ref kd, .ref 9, .ref la, .int (Int32.ofInt 0), .int (Int32.ofInt (((1 + (ts.map fun p => xsz n p.2).sum : Nat) : Int) + ((xsz n t : Nat) : Int)))]))) (h2 : yal A' la ed' cap' (as ++ [x])) (hf : yfr A A' [a, la, if ed = 6 then la else ed] p q) (he : ed' = ed ∨ ed' = A.1) : yrow A0 A' cu sa v n a la ed' cap' kd (as ++ [x]) (ts ++ [(k, t)]) := by
  obtain ⟨g1, g2, g3, ⟨g4, g5, g6⟩, g7, g8, g9⟩ := h
  have hA := hf.1.1
  obtain ⟨em, hem⟩ : ∃ em, em = if ed = 6 then la else ed := ⟨_, rfl⟩
  have hem2 : (em = la ∨ em = ed) ∧ 64 ≤ em := by rw [hem]; split <;> omega
  rw [← hem] at hf
  have keep : ∀ (lo hi : Nat), hi ≤ A.1 → ¬ (lo ≤ a ∧ a < hi) → ¬ (lo ≤ la ∧ la < hi) → ¬ (lo ≤ ed ∧ ed < hi) → ∀ y o, yP lo hi sa v y → xb_get A y = some o → xb_get A' y = some o := by
    intro lo hi hh n1 n2 n3 y o hy hg
    refine yfr_get hf hg ?_
    simp only [List.mem_cons, List.not_mem_nil, or_false]
    rcases hy with hy | hy | hy | hy <;> omega
  have hlt : ed' = 6 ∨ (A0.1 ≤ ed' ∧ ed' < A'.1) := by
    obtain ⟨mc, g, -, e1, -, -, -, e2, -⟩ := h2
    have := xb_get_lt e1
    omega
  refine ⟨?_, h2, by rw [List.length_append, List.length_append, g3]; rfl, ⟨by omega, by omega, hlt⟩, g7, g8, fun i y pp hy hp => ?_⟩
  · have e : (((1 + (ts.map fun p => xsz n p.2).sum : Nat) : Int) + ((xsz n t : Nat) : Int)) = ((1 + ((ts ++ [(k, t)]).map fun p => xsz n p.2).sum : Nat) : Int) := by
      rw [List.map_append, List.sum_append]
      simp only [List.map_cons, List.map_nil, List.sum_cons, List.sum_nil]
      omega
    rw [h1, e]
  · by_cases hi2 : i < as.length
    · rw [List.getElem?_append_left hi2] at hy
      rw [List.getElem?_append_left (by omega)] at hp
      obtain ⟨l2, u2, q1, q2, q3, q4, q5⟩ := g9 i y pp hy hp
      exact ⟨l2, u2, yt_keep _ _ (keep l2 u2 (by omega) q3 q4 q5) _ _ _ q1, by omega, q3, q4, by rcases he with h | h <;> omega⟩
    · have hil : i = as.length := by
        have := (List.getElem?_eq_some_iff.mp hy).1
        rw [List.length_append] at this
        simp at this
        omega
      subst hil
      rw [List.getElem?_append_right (Nat.le_refl _), Nat.sub_self] at hy
      rw [g3, List.getElem?_append_right (Nat.le_refl _), Nat.sub_self] at hp
      cases hy
      cases hp
      exact ⟨lo, hi, yt_keep _ _ (keep lo hi (by omega) na.1 na.2.1 na.2.2) _ _ _ hx, by omega, na.1, na.2.1, by rcases he with h | h <;> omega⟩
/-- it is read -/
theorem yrow_yt (h : yrow A0 A cu sa v n a la ed cap kd as ts) (hk : yk1 A) : yt A (yP A0.1 A.1 sa v) (n + 1) a 0 (xv_m kd [] ts) := by
  obtain ⟨h1, h2, h3, ⟨h4, h5, h6⟩, h7, h8, h9⟩ := h
  refine ⟨9, 14, la, ed, cap, yk_f 0, as, h1, hk.1.1, fun j hj => absurd hj (Nat.not_lt_zero _), h2, h3, ⟨Or.inl h4, yP_c (by omega), yP_c (by omega), Or.inl h5, ?_⟩, fun i x p hx hp => ?_⟩
  · rcases h6 with h6 | h6
    · exact yP_c (by omega)
    · exact Or.inl h6
  · obtain ⟨lo, hi, q1, q2, q3, q4, q5⟩ := h9 i x p hx hp
    refine yt_mono n _ _ (fun y hy => ?_) _ _ _ q1
    rcases hy with hy | hy | hy | hy
    · exact ⟨Or.inl (by omega), by omega⟩
    · exact ⟨Or.inr (Or.inl hy), by omega⟩
    · exact ⟨Or.inr (Or.inr (Or.inl hy)), by omega⟩
    · exact ⟨yP_c hy, by omega⟩
end YROW
