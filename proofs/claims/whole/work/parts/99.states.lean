/-! States are set up and torn down -/
/-- the handlers and the events in the heap -/
def yse (A : xb_H) (hd : Nat → Int) (es : List Int) : Prop := xb_get A 68 = some (.inr (8, [.ref 69, .ref 70, .int (Int32.ofInt (es.length : Int))])) ∧ xb_get A 69 = some (.inl (.int, 6, .inl fun j => Int32.ofInt (hd j))) ∧ (∃ ev : Nat → Int, xb_get A 70 = some (.inl (.int, 3072, .inl fun j => Int32.ofInt (ev j))) ∧ ∀ j : Nat, j < es.length → ev j = es.getD j 0) ∧ es.length ≤ 3072 ∧ ∀ j : Nat, j < 6 → 0 ≤ hd j ∧ hd j ≤ 3
/-- events of setting up, how many were set up, events of tearing down -/
def xsu (hd : Nat → Int) : List Int → List Int
  | [] => []
  | c :: r => if hd c.toNat = 1 ∨ hd c.toNat = 3 then 10 * c :: xsu hd r else [10 * c + 2]
def xsc (hd : Nat → Int) : List Int → Nat
  | [] => 0
  | c :: r => if hd c.toNat = 1 ∨ hd c.toNat = 3 then xsc hd r + 1 else 0
def xtd (hd : Nat → Int) : List Int → List Int
  | [] => []
  | c :: r => xtd hd r ++ [10 * c + (if hd c.toNat = 3 then 3 else 1)]
theorem xtd_snoc (hd : Nat → Int) (l : List Int) (c : Int) : xtd hd (l ++ [c]) = (10 * c + (if hd c.toNat = 3 then 3 else 1)) :: xtd hd l := by
  induction l with
  | nil => rfl
  | cons a l ih => show xtd hd (l ++ [c]) ++ [_] = _; rw [ih]; rfl
section ST
variable {w : Value} {d : Nat} {A : xb_H} {hd : Nat → Int} {es : List Int} {c : Int} {Q : xb_R → xb_H → Prop}
theorem ms_169  (hs : yse A hd es) (hc : 0 ≤ c ∧ c ≤ 5) : xr_ok (xt_G w) (d + 1) 169 0 [(0, .ref 68), (1, .int (Int32.ofInt c))] [] A (fun o A' => ∃ v0, o = .inl v0 ∧ v0 = some (.int (Int32.ofInt (hd c.toNat))) ∧ A' = A) := by
  obtain ⟨h1, h2, ⟨ev, h3, h4⟩, h5, h6⟩ := id hs
  refine xr_steps (pc' := 1) (L' := [(0, .ref 68), (1, .int (Int32.ofInt c))]) (st' := [.int (Int32.ofInt c)]) 1 rfl ?_
  refine xr_call (q := (.invokestatic 18, 3, 40, 1)) (av := [.int (Int32.ofInt c)]) (rest := []) rfl rfl (by decide) rfl rfl (Nat.le_of_ble_eq_true rfl) (mc_40 (by omega) (Or.inl ⟨rfl, hc⟩)) ?_
  rintro _ _ ⟨rfl, eA⟩
  rw [eA]
  clear eA
  refine xr_if_eq rfl (by omega) (fun z31 => ?_) (fun z31 => ?_)
  · exfalso; omega
  · refine xr_steps (pc' := 8) (L' := [(0, .ref 68), (1, .int (Int32.ofInt c))]) (st' := [.ref 68]) 1 rfl ?_
    refine xr_getf (v := .ref 69) rfl h1 rfl ?_
    refine xr_steps (pc' := 12) (L' := [(0, .ref 68), (1, .int (Int32.ofInt c))]) (st' := [.int (Int32.ofInt c), .ref 69]) 1 rfl ?_
    refine xr_iaload rfl h2 (by omega) (by omega) (by omega) ?_
    refine xr_steps (pc' := 17) (L' := [(0, .ref 68), (1, .int (Int32.ofInt c))]) (st' := [.int (Int32.ofInt (hd c.toNat))]) 1 rfl ?_
    exact xr_retI2 rfl rfl ⟨_, rfl, rfl, rfl⟩
theorem ms_170 {e : Int} (hs : yse A hd es) (hc : 0 ≤ c ∧ c ≤ 5) (he : 0 ≤ e ∧ e ≤ 3) (hl : es.length < 3072) : xr_ok (xt_G w) d 170 0 [(0, .ref 68), (1, .int (Int32.ofInt c)), (2, .int (Int32.ofInt e))] [] A (fun o A' => ∃ v0, o = .inl v0 ∧ v0 = none ∧ yse A' hd (es ++ [10 * c + e]) ∧ yfr A A' [68, 70] 0 0 ∧ A'.1 = A.1) := by
  obtain ⟨h1, h2, ⟨ev, h3, h4⟩, h5, h6⟩ := id hs
  have f31 := yfr_refl A [68, 70] 0 0
  refine xr_steps (pc' := 1) (L' := [(0, .ref 68), (1, .int (Int32.ofInt c)), (2, .int (Int32.ofInt e))]) (st' := [.ref 68]) 1 rfl ?_
  refine xr_getf (v := .int (Int32.ofInt (es.length : Int))) rfl h1 rfl ?_
  refine xr_steps (pc' := 7) (L' := [(0, .ref 68), (1, .int (Int32.ofInt c)), (2, .int (Int32.ofInt e))]) (st' := [.int (Int32.ofInt 3072), .int (Int32.ofInt (es.length : Int))]) 1 rfl ?_
  refine xr_icmp_ge rfl (by omega) (by omega) (fun z32 => ?_) (fun z32 => ?_)
  · exfalso; omega
  · refine xr_steps (pc' := 11) (L' := [(0, .ref 68), (1, .int (Int32.ofInt c)), (2, .int (Int32.ofInt e))]) (st' := [.ref 68]) 1 rfl ?_
    refine xr_getf (v := .ref 70) rfl h1 rfl ?_
    refine xr_steps (pc' := 15) (L' := [(0, .ref 68), (1, .int (Int32.ofInt c)), (2, .int (Int32.ofInt e))]) (st' := [.ref 68, .ref 70]) 1 rfl ?_
    refine xr_getf (v := .int (Int32.ofInt (es.length : Int))) rfl h1 rfl ?_
    refine xr_steps (pc' := 21) (L' := [(0, .ref 68), (1, .int (Int32.ofInt c)), (2, .int (Int32.ofInt e))]) (st' := [.int (Int32.ofInt c), .int (Int32.ofInt 10), .int (Int32.ofInt (es.length : Int)), .ref 70]) 2 rfl ?_
    refine xr_imul rfl ?_
    refine xr_steps (pc' := 23) (L' := [(0, .ref 68), (1, .int (Int32.ofInt c)), (2, .int (Int32.ofInt e))]) (st' := [.int (Int32.ofInt e), .int (Int32.ofInt (10 * c)), .int (Int32.ofInt (es.length : Int)), .ref 70]) 1 rfl ?_
    refine xr_iadd rfl ?_
    obtain ⟨A33, eA33⟩ : ∃ A0, xb_set A 70 (.inl (.int, 3072, .inl fun j => Int32.ofInt ((va_up ev (es.length : Int).toNat ((10 * c) + e)) j))) = A0 := ⟨_, rfl⟩
    refine xr_iastoreN rfl h3 (by decide) (by omega) (by omega) (by omega) (xr_heap eA33 ?_)
    have g34 := xr_mv eA33 (xb_get_set_ne h3 h1 (by decide))
    have g35 := xr_mv eA33 (xb_get_set_ne h3 h2 (by decide))
    have g36 := xr_mv eA33 (xb_get_set_same h3)
    have nA33 : A33.1 = A.1 := by rw [← eA33]; rfl
    have f37 := yfr_mv eA33 (yfr_step_set f31 h3 (Or.inl (by simp)))
    refine xr_steps (pc' := 27) (L' := [(0, .ref 68), (1, .int (Int32.ofInt c)), (2, .int (Int32.ofInt e))]) (st' := [.ref 68, .ref 68]) 2 rfl ?_
    refine xr_getf (v := .int (Int32.ofInt (es.length : Int))) rfl g34 rfl ?_
    refine xr_steps (pc' := 31) (L' := [(0, .ref 68), (1, .int (Int32.ofInt c)), (2, .int (Int32.ofInt e))]) (st' := [.int (Int32.ofInt 1), .int (Int32.ofInt (es.length : Int)), .ref 68]) 1 rfl ?_
    refine xr_iadd rfl ?_
    obtain ⟨A38, eA38⟩ : ∃ A0, xb_set A33 68 (.inr (8, [.ref 69, .ref 70, .int (Int32.ofInt ((es.length : Int) + 1))])) = A0 := ⟨_, rfl⟩
    refine xr_putf (t := .int) rfl g34 (by decide) (Nat.le_of_ble_eq_true rfl) rfl (xr_fitI _) (xr_heap eA38 ?_)
    have g39 := xr_mv eA38 (xb_get_set_same g34)
    have g40 := xr_mv eA38 (xb_get_set_ne g34 g35 (by decide))
    have g41 := xr_mv eA38 (xb_get_set_ne g34 g36 (by decide))
    have nA38 : A38.1 = A33.1 := by rw [← eA38]; rfl
    have f42 := yfr_mv eA38 (yfr_step_set f37 g34 (Or.inl (by simp)))
    refine xr_retN rfl rfl ⟨_, rfl, rfl, ⟨?_, g40, ⟨_, g41, fun j hj => ?_⟩, by rw [List.length_append, List.length_singleton]; omega, h6⟩, f42, by omega⟩
    · have h := g39
      rw [show (es.length : Int) + 1 = ((es ++ [10 * c + e]).length : Int) by rw [List.length_append, List.length_singleton]; omega] at h
      exact h
    · rw [xl_snoc es _ j hj]
      unfold va_up
      rw [Int.toNat_natCast]
      by_cases ej : j = es.length
      · rw [if_pos ej, if_pos ej]
      · rw [if_neg ej, if_neg ej]
        rw [List.length_append, List.length_singleton] at hj
        exact h4 j (by omega)
theorem ms_168  (hs : yse A hd es) (hc : 0 ≤ c ∧ c ≤ 5) (hl : es.length < 3072) : xr_ok (xt_G w) (d + 1 + 1) 168 0 [(0, .ref 68), (1, .int (Int32.ofInt c))] [] A (fun o A' => ∃ v0, o = .inl v0 ∧ ∃ b : Int, v0 = some (.int (Int32.ofInt b)) ∧ ((b = 1 ∧ (hd c.toNat = 1 ∨ hd c.toNat = 3) ∧ yse A' hd (es ++ [10 * c])) ∨ (b = 0 ∧ ¬ (hd c.toNat = 1 ∨ hd c.toNat = 3) ∧ yse A' hd (es ++ [10 * c + 2]))) ∧ yfr A A' [68, 70] 0 0 ∧ A'.1 = A.1) := by
  obtain ⟨h1, h2, ⟨ev, h3, h4⟩, h5, h6⟩ := id hs
  refine xr_steps (pc' := 2) (L' := [(0, .ref 68), (1, .int (Int32.ofInt c))]) (st' := [.int (Int32.ofInt c), .ref 68]) 2 rfl ?_
  have hhd := h6 c.toNat (by omega)
  refine xr_call (q := (.invokevirtual 22, 3, 169, 2)) (av := [.ref 68, .int (Int32.ofInt c)]) (rest := []) rfl rfl (by decide) rfl (xr_rcv rfl h1) (Nat.le_of_ble_eq_true rfl) (ms_169 hs hc) ?_
  rintro _ _ ⟨rfl, eA⟩
  rw [eA]
  clear eA
  refine xr_steps (pc' := 8) (L' := [(2, .int (Int32.ofInt (hd c.toNat))), (0, .ref 68), (1, .int (Int32.ofInt c))]) (st' := [.int (Int32.ofInt 1), .int (Int32.ofInt (hd c.toNat))]) 3 rfl ?_
  refine xr_icmp_eq rfl (by omega) (by omega) (fun z31 => ?_) (fun z31 => ?_)
  · refine xr_steps (pc' := 25) (L' := [(3, .int (Int32.ofInt 1)), (2, .int (Int32.ofInt (hd c.toNat))), (0, .ref 68), (1, .int (Int32.ofInt c))]) (st' := [.int (Int32.ofInt 1), .int (Int32.ofInt c), .ref 68]) 6 rfl ?_
    refine xr_if_eq rfl (by omega) (fun z32 => ?_) (fun z32 => ?_)
    · exfalso; omega
    · refine xr_steps (pc' := 33) (L' := [(3, .int (Int32.ofInt 1)), (2, .int (Int32.ofInt (hd c.toNat))), (0, .ref 68), (1, .int (Int32.ofInt c))]) (st' := [.int (Int32.ofInt 0), .int (Int32.ofInt c), .ref 68]) 2 rfl ?_
      refine xr_call (q := (.invokevirtual 26, 3, 170, 3)) (av := [.ref 68, .int (Int32.ofInt c), .int (Int32.ofInt 0)]) (rest := []) rfl rfl (by decide) rfl (xr_rcv rfl h1) (Nat.le_of_ble_eq_true rfl) (ms_170 (e := 0) hs hc (by omega) hl) ?_
      rintro _ A1 ⟨rfl, hs1, fr1, n1⟩
      refine xr_steps (pc' := 37) (L' := [(3, .int (Int32.ofInt 1)), (2, .int (Int32.ofInt (hd c.toNat))), (0, .ref 68), (1, .int (Int32.ofInt c))]) (st' := [.int (Int32.ofInt 1)]) 1 rfl ?_
      exact xr_retZ rfl rfl (by omega) ⟨_, rfl, _, rfl, Or.inl ⟨rfl, by omega, by rw [Int.add_zero] at hs1; exact hs1⟩, fr1, n1⟩
  · refine xr_steps (pc' := 13) (L' := [(2, .int (Int32.ofInt (hd c.toNat))), (0, .ref 68), (1, .int (Int32.ofInt c))]) (st' := [.int (Int32.ofInt 3), .int (Int32.ofInt (hd c.toNat))]) 2 rfl ?_
    refine xr_icmp_ne rfl (by omega) (by omega) (fun z33 => ?_) (fun z33 => ?_)
    · refine xr_steps (pc' := 25) (L' := [(3, .int (Int32.ofInt 0)), (2, .int (Int32.ofInt (hd c.toNat))), (0, .ref 68), (1, .int (Int32.ofInt c))]) (st' := [.int (Int32.ofInt 0), .int (Int32.ofInt c), .ref 68]) 5 rfl ?_
      refine xr_if_eq rfl (by omega) (fun z34 => ?_) (fun z34 => ?_)
      · refine xr_steps (pc' := 33) (L' := [(3, .int (Int32.ofInt 0)), (2, .int (Int32.ofInt (hd c.toNat))), (0, .ref 68), (1, .int (Int32.ofInt c))]) (st' := [.int (Int32.ofInt 2), .int (Int32.ofInt c), .ref 68]) 1 rfl ?_
        refine xr_call (q := (.invokevirtual 26, 3, 170, 3)) (av := [.ref 68, .int (Int32.ofInt c), .int (Int32.ofInt 2)]) (rest := []) rfl rfl (by decide) rfl (xr_rcv rfl h1) (Nat.le_of_ble_eq_true rfl) (ms_170 (e := 2) hs hc (by omega) hl) ?_
        rintro _ A1 ⟨rfl, hs1, fr1, n1⟩
        refine xr_steps (pc' := 37) (L' := [(3, .int (Int32.ofInt 0)), (2, .int (Int32.ofInt (hd c.toNat))), (0, .ref 68), (1, .int (Int32.ofInt c))]) (st' := [.int (Int32.ofInt 0)]) 1 rfl ?_
        exact xr_retZ rfl rfl (by omega) ⟨_, rfl, _, rfl, Or.inr ⟨rfl, by omega, hs1⟩, fr1, n1⟩
      · exfalso; omega
    · refine xr_steps (pc' := 25) (L' := [(3, .int (Int32.ofInt 1)), (2, .int (Int32.ofInt (hd c.toNat))), (0, .ref 68), (1, .int (Int32.ofInt c))]) (st' := [.int (Int32.ofInt 1), .int (Int32.ofInt c), .ref 68]) 6 rfl ?_
      refine xr_if_eq rfl (by omega) (fun z35 => ?_) (fun z35 => ?_)
      · exfalso; omega
      · refine xr_steps (pc' := 33) (L' := [(3, .int (Int32.ofInt 1)), (2, .int (Int32.ofInt (hd c.toNat))), (0, .ref 68), (1, .int (Int32.ofInt c))]) (st' := [.int (Int32.ofInt 0), .int (Int32.ofInt c), .ref 68]) 2 rfl ?_
        refine xr_call (q := (.invokevirtual 26, 3, 170, 3)) (av := [.ref 68, .int (Int32.ofInt c), .int (Int32.ofInt 0)]) (rest := []) rfl rfl (by decide) rfl (xr_rcv rfl h1) (Nat.le_of_ble_eq_true rfl) (ms_170 (e := 0) hs hc (by omega) hl) ?_
        rintro _ A1 ⟨rfl, hs1, fr1, n1⟩
        refine xr_steps (pc' := 37) (L' := [(3, .int (Int32.ofInt 1)), (2, .int (Int32.ofInt (hd c.toNat))), (0, .ref 68), (1, .int (Int32.ofInt c))]) (st' := [.int (Int32.ofInt 1)]) 1 rfl ?_
        exact xr_retZ rfl rfl (by omega) ⟨_, rfl, _, rfl, Or.inl ⟨rfl, by omega, by rw [Int.add_zero] at hs1; exact hs1⟩, fr1, n1⟩
theorem ms_172  (hs : yse A hd es) (hc : 0 ≤ c ∧ c ≤ 5) (hl : es.length < 3072) : xr_ok (xt_G w) (d + 1 + 1) 172 0 [(0, .ref 68), (1, .int (Int32.ofInt c))] [] A (fun o A' => ∃ v0, o = .inl v0 ∧ v0 = none ∧ yse A' hd (es ++ [10 * c + (if hd c.toNat = 3 then 3 else 1)]) ∧ yfr A A' [68, 70] 0 0 ∧ A'.1 = A.1) := by
  obtain ⟨h1, h2, ⟨ev, h3, h4⟩, h5, h6⟩ := id hs
  refine xr_steps (pc' := 4) (L' := [(0, .ref 68), (1, .int (Int32.ofInt c))]) (st' := [.int (Int32.ofInt c), .ref 68, .int (Int32.ofInt c), .ref 68]) 4 rfl ?_
  have hhd := h6 c.toNat (by omega)
  refine xr_call (q := (.invokevirtual 22, 3, 169, 2)) (av := [.ref 68, .int (Int32.ofInt c)]) (rest := [.int (Int32.ofInt c), .ref 68]) rfl rfl (by decide) rfl (xr_rcv rfl h1) (Nat.le_of_ble_eq_true rfl) (ms_169 hs hc) ?_
  rintro _ _ ⟨rfl, eA⟩
  rw [eA]
  clear eA
  refine xr_steps (pc' := 8) (L' := [(0, .ref 68), (1, .int (Int32.ofInt c))]) (st' := [.int (Int32.ofInt 3), .int (Int32.ofInt (hd c.toNat)), .int (Int32.ofInt c), .ref 68]) 1 rfl ?_
  refine xr_icmp_ne rfl (by omega) (by omega) (fun z31 => ?_) (fun z31 => ?_)
  · refine xr_steps (pc' := 16) (L' := [(0, .ref 68), (1, .int (Int32.ofInt c))]) (st' := [.int (Int32.ofInt 1), .int (Int32.ofInt c), .ref 68]) 1 rfl ?_
    refine xr_call (q := (.invokevirtual 26, 3, 170, 3)) (av := [.ref 68, .int (Int32.ofInt c), .int (Int32.ofInt 1)]) (rest := []) rfl rfl (by decide) rfl (xr_rcv rfl h1) (Nat.le_of_ble_eq_true rfl) (ms_170 (e := 1) hs hc (by omega) hl) ?_
    rintro _ A1 ⟨rfl, hs1, fr1, n1⟩
    refine xr_retN rfl rfl ⟨_, rfl, rfl, ?_, fr1, n1⟩
    first | (rw [if_pos (by omega)]; exact hs1) | (rw [if_neg (by omega)]; exact hs1)
  · refine xr_steps (pc' := 16) (L' := [(0, .ref 68), (1, .int (Int32.ofInt c))]) (st' := [.int (Int32.ofInt 3), .int (Int32.ofInt c), .ref 68]) 2 rfl ?_
    refine xr_call (q := (.invokevirtual 26, 3, 170, 3)) (av := [.ref 68, .int (Int32.ofInt c), .int (Int32.ofInt 3)]) (rest := []) rfl rfl (by decide) rfl (xr_rcv rfl h1) (Nat.le_of_ble_eq_true rfl) (ms_170 (e := 3) hs hc (by omega) hl) ?_
    rintro _ A1 ⟨rfl, hs1, fr1, n1⟩
    refine xr_retN rfl rfl ⟨_, rfl, rfl, ?_, fr1, n1⟩
    first | (rw [if_pos (by omega)]; exact hs1) | (rw [if_neg (by omega)]; exact hs1)
end ST
section SU
variable {w : Value} {d : Nat} {x rr sr : Nat} {P : Nat → Prop} {st dn : Int} {rs : List (List Int × List (Int × Int × List Int) × Int)} {ns : List Int} {ex : Option (xv 6)} {hd : Nat → Int} {Q : xb_R → xb_H → Prop}
theorem yin_68 {A A' : xb_H} (hi : yin A P x rr sr st rs ns ex) (hf : yfr A A' [68, 70] 0 0) (h1 : 194 ≤ x ∧ 194 ≤ rr ∧ 194 ≤ sr) (hP : ∀ y, P y → y < 64 ∨ 194 ≤ y) : yin A' P x rr sr st rs ns ex := by
  refine yin_fr hi hf (fun y hy => ?_)
  simp only [List.mem_cons, List.not_mem_nil, or_false] at hy
  refine ⟨fun h => ?_, by omega, by omega, by omega⟩
  have := hP y h
  omega
theorem xns_rng {ns : List Int} (h : ∀ c ∈ ns, 0 ≤ c ∧ c ≤ 5) {i : Nat} (hi : i < ns.length) : 0 ≤ ns.getD i 0 ∧ ns.getD i 0 ≤ 5 := by
  rw [List.getD_eq_getElem?_getD, List.getElem?_eq_getElem hi]
  exact h _ (List.getElem_mem _)
theorem xns_take {ns : List Int} {i : Nat} (hi : i < ns.length) : ns.take (i + 1) = ns.take i ++ [ns.getD i 0] := by
  rw [List.take_add_one, List.getD_eq_getElem?_getD, List.getElem?_eq_getElem hi]
  rfl
theorem ms_171l {m : Int} (h1 : 194 ≤ x ∧ 194 ≤ rr ∧ 194 ≤ sr) (hP : ∀ y, P y → y < 64 ∨ 194 ≤ y) : ∀ (k : Nat) (A : xb_H) (es : List Int), k ≤ ns.length → xb_get A 64 = some (.inr (0, [.ref 65, .ref 67, .int (Int32.ofInt dn), .ref 68, .ref 71])) → yin A P x rr sr st rs ns ex → yse A hd es → es.length + k ≤ 3072 → (∀ A' : xb_H, yse A' hd (es ++ xtd hd (ns.take k)) → yfr A A' [68, 70] 0 0 → A'.1 = A.1 → Q (.inl none) A') → xr_ok (xt_G w) (d + 1 + 1 + 1) 171 4 [(3, .int (Int32.ofInt ((k : Int) - 1))), (0, .ref 64), (1, .ref x), (2, .int (Int32.ofInt m))] [] A Q := by
  intro k
  induction k using Nat.strongRecOn with
  | _ k ih =>
    intro A es hk h64 hi hs hle hQ
    obtain ⟨fr, fs, ev, hx, hrr, hsr, hl, hns, hrs, hex, hex0, hz, hst, hnr⟩ := id hi
    refine xr_steps (pc' := 5) (L' := [(3, .int (Int32.ofInt ((k : Int) - 1))), (0, .ref 64), (1, .ref x), (2, .int (Int32.ofInt m))]) (st' := [.int (Int32.ofInt ((k : Int) - 1))]) 1 rfl ?_
    refine xr_if_lt rfl (by omega) (fun z31 => ?_) (fun z31 => ?_)
    · obtain rfl : k = 0 := by omega
      exact xr_retN rfl rfl (hQ A (by rw [List.take_zero]; show yse A hd (es ++ []); rw [List.append_nil]; exact hs) (yfr_refl _ _ _ _) rfl)
    · obtain ⟨i, rfl⟩ : ∃ i, k = i + 1 := ⟨k - 1, by omega⟩
      rw [show ((i + 1 : Nat) : Int) - 1 = (i : Int) by omega]
      refine xr_steps (pc' := 9) (L' := [(3, .int (Int32.ofInt (i : Int))), (0, .ref 64), (1, .ref x), (2, .int (Int32.ofInt m))]) (st' := [.ref 64]) 1 rfl ?_
      refine xr_getf (v := .ref 68) rfl h64 rfl ?_
      refine xr_steps (pc' := 14) (L' := [(3, .int (Int32.ofInt (i : Int))), (0, .ref 64), (1, .ref x), (2, .int (Int32.ofInt m))]) (st' := [.int (Int32.ofInt (i : Int)), .ref x, .ref 68]) 2 rfl ?_
      refine xr_call (q := (.invokevirtual 166, 3, 167, 2)) (av := [.ref x, .int (Int32.ofInt (i : Int))]) (rest := [.ref 68]) rfl rfl (by decide) rfl (xr_rcv rfl hi.choose_spec.choose_spec.choose_spec.1) (Nat.le_of_ble_eq_true rfl) (mi_167 (i := i) hi (by omega)) ?_
      rintro _ _ ⟨rfl, eA⟩
      rw [eA]
      clear eA
      refine xr_call (q := (.invokevirtual 172, 3, 172, 2)) (av := [.ref 68, .int (Int32.ofInt (ns.getD i 0))]) (rest := []) rfl rfl (by decide) rfl (xr_rcv rfl hs.1) (Nat.le_of_ble_eq_true rfl) (ms_172 hs (xns_rng hnr (by omega)) (by omega)) ?_
      rintro _ A1 ⟨rfl, hs1, fr1, n1⟩
      refine xr_iincn (L' := [(3, .int (Int32.ofInt ((i : Int) - 1))), (0, .ref 64), (1, .ref x), (2, .int (Int32.ofInt m))]) rfl rfl rfl ?_
      refine xr_steps (pc' := 4) (L' := [(3, .int (Int32.ofInt ((i : Int) - 1))), (0, .ref 64), (1, .ref x), (2, .int (Int32.ofInt m))]) (st' := []) 1 rfl ?_
      refine xr_loc (L := [(3, .int (Int32.ofInt ((i : Int) - 1))), (0, .ref 64), (1, .ref x), (2, .int (Int32.ofInt m))]) (show [3, 0, 1, 2].Nodup by decide) ⟨rfl, rfl, rfl, rfl, trivial⟩ ?_
      refine ih i (by omega) A1 (es ++ [10 * ns.getD i 0 + (if hd (ns.getD i 0).toNat = 3 then 3 else 1)]) (by omega) (yfr_get fr1 h64 (by decide)) (yin_68 hi fr1 h1 hP) hs1 (by rw [List.length_append, List.length_singleton]; omega) (fun A2 hs2 fr2 n2 => ?_)
      refine hQ A2 ?_ (yfr_trans fr1 fr2 (fun z hz => Or.inl hz)) (by omega)
      rw [xns_take (by omega), xtd_snoc, show es ++ (10 * ns.getD i 0 + (if hd (ns.getD i 0).toNat = 3 then 3 else 1)) :: xtd hd (ns.take i) = es ++ [10 * ns.getD i 0 + (if hd (ns.getD i 0).toNat = 3 then 3 else 1)] ++ xtd hd (ns.take i) by rw [List.append_assoc]; rfl]
      exact hs2
theorem ms_171 {A : xb_H} {es : List Int} {k : Nat} (h64 : xb_get A 64 = some (.inr (0, [.ref 65, .ref 67, .int (Int32.ofInt dn), .ref 68, .ref 71]))) (hi : yin A P x rr sr st rs ns ex) (h1 : 194 ≤ x ∧ 194 ≤ rr ∧ 194 ≤ sr) (hP : ∀ y, P y → y < 64 ∨ 194 ≤ y) (hs : yse A hd es) (hk : k ≤ ns.length) (hle : es.length + k ≤ 3072) : xr_ok (xt_G w) (d + 1 + 1 + 1) 171 0 [(0, .ref 64), (1, .ref x), (2, .int (Int32.ofInt (k : Int)))] [] A (fun o A' => ∃ v0, o = .inl v0 ∧ v0 = none ∧ yse A' hd (es ++ xtd hd (ns.take k)) ∧ yfr A A' [68, 70] 0 0 ∧ A'.1 = A.1) := by
  refine xr_steps (pc' := 2) (L' := [(0, .ref 64), (1, .ref x), (2, .int (Int32.ofInt (k : Int)))]) (st' := [.int (Int32.ofInt 1), .int (Int32.ofInt (k : Int))]) 2 rfl ?_
  refine xr_isub rfl ?_
  refine xr_steps (pc' := 4) (L' := [(3, .int (Int32.ofInt ((k : Int) - 1))), (0, .ref 64), (1, .ref x), (2, .int (Int32.ofInt (k : Int)))]) (st' := []) 1 rfl ?_
  exact ms_171l h1 hP k A es hk h64 hi hs hle (fun A2 e1 e2 e3 => ⟨_, rfl, rfl, e1, e2, e3⟩)
theorem xsu_drop (hd : Nat → Int) {ns : List Int} {i : Nat} (hi : i < ns.length) : (hd (ns.getD i 0).toNat = 1 ∨ hd (ns.getD i 0).toNat = 3 → xsu hd (ns.drop i) = 10 * ns.getD i 0 :: xsu hd (ns.drop (i + 1)) ∧ xsc hd (ns.drop i) = xsc hd (ns.drop (i + 1)) + 1) ∧ (¬ (hd (ns.getD i 0).toNat = 1 ∨ hd (ns.getD i 0).toNat = 3) → xsu hd (ns.drop i) = [10 * ns.getD i 0 + 2] ∧ xsc hd (ns.drop i) = 0) := by
  have e : ns.drop i = ns.getD i 0 :: ns.drop (i + 1) := by
    rw [List.getD_eq_getElem?_getD, List.getElem?_eq_getElem hi]
    exact List.drop_eq_getElem_cons hi
  rw [e]
  refine ⟨fun h => ⟨if_pos h, if_pos h⟩, fun h => ⟨if_neg h, if_neg h⟩⟩
theorem xsc_le (hd : Nat → Int) : ∀ l : List Int, xsc hd l ≤ l.length := by
  intro l
  induction l with
  | nil => exact Nat.le_refl _
  | cons c l ih =>
    show (if hd c.toNat = 1 ∨ hd c.toNat = 3 then xsc hd l + 1 else 0) ≤ l.length + 1
    split <;> omega
theorem ms_165l (h1 : 194 ≤ x ∧ 194 ≤ rr ∧ 194 ≤ sr) (hP : ∀ y, P y → y < 64 ∨ 194 ≤ y) : ∀ (k i : Nat) (A : xb_H) (es : List Int), i + k = ns.length → xb_get A 64 = some (.inr (0, [.ref 65, .ref 67, .int (Int32.ofInt dn), .ref 68, .ref 71])) → yin A P x rr sr st rs ns ex → yse A hd es → es.length + 6 ≤ 3072 + i → (∀ (A' : xb_H) (b : Int), yse A' hd (es ++ xsu hd (ns.drop i) ++ (if xsc hd (ns.drop i) + i = ns.length then [] else xtd hd (ns.take (i + xsc hd (ns.drop i))))) → ((b = 1 ∧ xsc hd (ns.drop i) + i = ns.length) ∨ (b = 0 ∧ ¬ xsc hd (ns.drop i) + i = ns.length)) → yfr A A' [68, 70] 0 0 → A'.1 = A.1 → Q (.inl (some (.int (Int32.ofInt b)))) A') → xr_ok (xt_G w) (d + 1 + 1 + 1 + 1) 165 2 [(2, .int (Int32.ofInt (i : Int))), (0, .ref 64), (1, .ref x)] [] A Q := by
  intro k
  induction k using Nat.strongRecOn with
  | _ k ih =>
    intro i A es hk h64 hi hs hle hQ
    obtain ⟨fr, fs, ev, hx, hrr, hsr, hl, hns, hrs, hex, hex0, hz, hst, hnr⟩ := id hi
    refine xr_steps (pc' := 4) (L' := [(2, .int (Int32.ofInt (i : Int))), (0, .ref 64), (1, .ref x)]) (st' := [.ref x, .int (Int32.ofInt (i : Int))]) 2 rfl ?_
    refine xr_call (q := (.invokevirtual 124, 3, 166, 1)) (av := [.ref x]) (rest := [.int (Int32.ofInt (i : Int))]) rfl rfl (by decide) rfl (xr_rcv rfl hx) (Nat.le_of_ble_eq_true rfl) (mi_166 hi) ?_
    rintro _ _ ⟨rfl, eA⟩
    rw [eA]
    clear eA
    refine xr_icmp_ge rfl (by omega) (by omega) (fun z31 => ?_) (fun z31 => ?_)
    · refine xr_steps (pc' := 40) (L' := [(2, .int (Int32.ofInt (i : Int))), (0, .ref 64), (1, .ref x)]) (st' := [.int (Int32.ofInt 1)]) 1 rfl ?_
      obtain rfl : i = ns.length := by omega
      refine xr_retZ rfl rfl (by omega) (hQ A 1 ?_ (Or.inl ⟨rfl, ?_⟩) (yfr_refl _ _ _ _) rfl)
      · rw [List.drop_length, if_pos (show xsc hd [] + ns.length = ns.length from Nat.zero_add _)]
        show yse A hd (es ++ [] ++ [])
        rw [List.append_nil, List.append_nil]
        exact hs
      · rw [List.drop_length]
        exact Nat.zero_add _
    · refine xr_steps (pc' := 11) (L' := [(2, .int (Int32.ofInt (i : Int))), (0, .ref 64), (1, .ref x)]) (st' := [.ref 64]) 1 rfl ?_
      refine xr_getf (v := .ref 68) rfl h64 rfl ?_
      refine xr_steps (pc' := 16) (L' := [(2, .int (Int32.ofInt (i : Int))), (0, .ref 64), (1, .ref x)]) (st' := [.int (Int32.ofInt (i : Int)), .ref x, .ref 68]) 2 rfl ?_
      refine xr_call (q := (.invokevirtual 166, 3, 167, 2)) (av := [.ref x, .int (Int32.ofInt (i : Int))]) (rest := [.ref 68]) rfl rfl (by decide) rfl (xr_rcv rfl hi.choose_spec.choose_spec.choose_spec.1) (Nat.le_of_ble_eq_true rfl) (mi_167 (i := i) hi (by omega)) ?_
      rintro _ _ ⟨rfl, eA⟩
      rw [eA]
      clear eA
      refine xr_call (q := (.invokevirtual 169, 3, 168, 2)) (av := [.ref 68, .int (Int32.ofInt (ns.getD i 0))]) (rest := []) rfl rfl (by decide) rfl (xr_rcv rfl hs.1) (Nat.le_of_ble_eq_true rfl) (ms_168 hs (xns_rng hnr (by omega)) (by omega)) ?_
      rintro _ A1 ⟨bb, rfl, hcase, fr1, n1⟩
      have h64b := yfr_get fr1 h64 (by decide)
      have hi1 := yin_68 hi fr1 h1 hP
      rcases hcase with ⟨rfl, yg, hs1⟩ | ⟨rfl, yg, hs1⟩
      · refine xr_if_ne rfl (by omega) (fun z33 => ?_) (fun z33 => ?_)
        · refine xr_iinc (L' := [(2, .int (Int32.ofInt ((i : Int) + 1))), (0, .ref 64), (1, .ref x)]) rfl rfl rfl ?_
          refine xr_steps (pc' := 2) (L' := [(2, .int (Int32.ofInt ((i : Int) + 1))), (0, .ref 64), (1, .ref x)]) (st' := []) 1 rfl ?_
          refine xr_loc (L := [(2, .int (Int32.ofInt ((i : Int) + 1))), (0, .ref 64), (1, .ref x)]) (show [2, 0, 1].Nodup by decide) ⟨rfl, rfl, rfl, trivial⟩ ?_
          rw [show (i : Int) + 1 = ((i + 1 : Nat) : Int) by omega]
          obtain ⟨e1, e2⟩ := (xsu_drop hd (show i < ns.length by omega)).1 yg
          refine ih (k - 1) (by omega) (i + 1) A1 (es ++ [10 * ns.getD i 0]) (by omega) h64b hi1 hs1 (by rw [List.length_append, List.length_singleton]; omega) (fun A2 b hs2 hb fr2 n2 => ?_)
          refine hQ A2 b ?_ ?_ (yfr_trans fr1 fr2 (fun z hz => Or.inl hz)) (by omega)
          · rw [e1, e2, show xsc hd (ns.drop (i + 1)) + 1 + i = xsc hd (ns.drop (i + 1)) + (i + 1) by omega, show i + (xsc hd (ns.drop (i + 1)) + 1) = i + 1 + xsc hd (ns.drop (i + 1)) by omega, show es ++ 10 * ns.getD i 0 :: xsu hd (ns.drop (i + 1)) = es ++ [10 * ns.getD i 0] ++ xsu hd (ns.drop (i + 1)) by rw [List.append_assoc]; rfl]
            exact hs2
          · rw [e2]
            omega
        · exfalso; omega
      · refine xr_if_ne rfl (by omega) (fun z34 => ?_) (fun z34 => ?_)
        · exfalso; omega
        · refine xr_steps (pc' := 28) (L' := [(2, .int (Int32.ofInt (i : Int))), (0, .ref 64), (1, .ref x)]) (st' := [.int (Int32.ofInt (i : Int)), .ref x, .ref 64]) 3 rfl ?_
          refine xr_call (q := (.invokevirtual 127, 3, 171, 3)) (av := [.ref 64, .ref x, .int (Int32.ofInt (i : Int))]) (rest := []) rfl rfl (by decide) rfl (xr_rcv rfl h64b) (Nat.le_of_ble_eq_true rfl) (ms_171 (k := i) h64b hi1 h1 hP hs1 (by omega) (by rw [List.length_append, List.length_singleton]; omega)) ?_
          rintro _ A2 ⟨rfl, hs2, fr2, n2⟩
          refine xr_steps (pc' := 32) (L' := [(2, .int (Int32.ofInt (i : Int))), (0, .ref 64), (1, .ref x)]) (st' := [.int (Int32.ofInt 0)]) 1 rfl ?_
          obtain ⟨e1, e2⟩ := (xsu_drop hd (show i < ns.length by omega)).2 yg
          refine xr_retZ rfl rfl (by omega) (hQ A2 0 ?_ (Or.inr ⟨rfl, by omega⟩) (yfr_trans fr1 fr2 (fun z hz => Or.inl hz)) (by omega))
          rw [e1, e2, if_neg (by omega), Nat.add_zero]
          exact hs2
theorem ms_165 {A : xb_H} {es : List Int} (h64 : xb_get A 64 = some (.inr (0, [.ref 65, .ref 67, .int (Int32.ofInt dn), .ref 68, .ref 71]))) (hi : yin A P x rr sr st rs ns ex) (h1 : 194 ≤ x ∧ 194 ≤ rr ∧ 194 ≤ sr) (hP : ∀ y, P y → y < 64 ∨ 194 ≤ y) (hs : yse A hd es) (hle : es.length + 6 ≤ 3072) : xr_ok (xt_G w) (d + 1 + 1 + 1 + 1) 165 0 [(0, .ref 64), (1, .ref x)] [] A (fun o A' => ∃ v0, o = .inl v0 ∧ ∃ b : Int, v0 = some (.int (Int32.ofInt b)) ∧ yse A' hd (es ++ xsu hd ns ++ (if xsc hd ns = ns.length then [] else xtd hd (ns.take (xsc hd ns)))) ∧ ((b = 1 ∧ xsc hd ns = ns.length) ∨ (b = 0 ∧ ¬ xsc hd ns = ns.length)) ∧ yfr A A' [68, 70] 0 0 ∧ A'.1 = A.1) := by
  refine xr_steps (pc' := 2) (L' := [(2, .int (Int32.ofInt 0)), (0, .ref 64), (1, .ref x)]) (st' := []) 2 rfl ?_
  refine ms_165l h1 hP ns.length 0 A es (by omega) h64 hi hs (by omega) (fun A2 b e1 e2 e3 e4 => ⟨_, rfl, b, rfl, ?_, ?_, e3, e4⟩)
  · rw [List.drop_zero, Nat.zero_add, Nat.add_zero] at e1
    exact e1
  · rw [List.drop_zero, Nat.add_zero] at e2
    exact e2
end SU
