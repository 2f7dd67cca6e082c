/-! ... and the law comes to its loop -/
theorem xd_m1 (w : Value) (hw : w = .null ∨ w = .ref 19) : ∃ A1 : xb_H, xd_1 w = some (.inl none, A1) ∧ xd_A1 w = A1 ∧ A1.1 = 165 := by
  have h : (xd_1 w).map (fun r => (r.1, r.2.1)) = some (.inl none, 165) := by
    rcases hw with rfl | rfl
    · exact xd_n1
    · exact xd_n1'
  unfold xd_A1
  generalize xd_1 w = e at h ⊢
  cases e with
  | none => cases h
  | some r =>
    obtain ⟨o, A⟩ := r
    simp only [Option.map_some, Option.some.injEq, Prod.mk.injEq] at h
    obtain ⟨h1, h2⟩ := h
    exact ⟨A, by rw [h1], rfl, h2⟩
theorem xd_s2 : (xd_2 .null).map (fun r => (r.1, r.2.1, r.2.2.1)) = some (.inl none, 193, 14430) := by decide +kernel
theorem xd_s2' : (xd_2 (.ref 19)).map (fun r => (r.1, r.2.1, r.2.2.1)) = some (.inl none, 193, 14430) := by decide +kernel
theorem xd_m2 (w : Value) (hw : w = .null ∨ w = .ref 19) : ∃ A2 : xb_H, xd_2 w = some (.inl none, A2) ∧ xd_A2 w = A2 ∧ A2.1 = 193 ∧ A2.2.1 = 14430 := by
  have h : (xd_2 w).map (fun r => (r.1, r.2.1, r.2.2.1)) = some (.inl none, 193, 14430) := by
    rcases hw with rfl | rfl
    · exact xd_s2
    · exact xd_s2'
  unfold xd_A2
  generalize xd_2 w = e at h ⊢
  cases e with
  | none => cases h
  | some r =>
    obtain ⟨o, A⟩ := r
    simp only [Option.map_some, Option.some.injEq, Prod.mk.injEq] at h
    obtain ⟨h1, h2, h3⟩ := h
    exact ⟨A, by rw [h1], rfl, h2, h3⟩
/-- the heap at the loop's first turn -/
def xd_B (A2 : xb_H) (L : Nat) (xs : Nat → Int32) : xb_H := xb_ov (xb_new A2 1 (.inl (.long, 1, .inr (.inl fun _ => 0)))) (xd_X L xs)
def xd_D : xb_O := .inr (0, (xt_ty 0).map defaultValue)
def xd_M : xb_O := .inr (10, (xt_ty 10).map defaultValue)
set_option maxHeartbeats 200000 in
theorem xd_lawG (w : Value) (L : Nat) (xs : Nat → Int32) (A1 A2 : xb_H) (r1 : xb_run (xt_G w) 5000 xl_d 1 0 [(0, .ref 64)] [] (xb_new xd_A0 5 (.inr (0, (xt_ty 0).map defaultValue))) = some (.inl none, A1)) (n1 : A1.1 = 165)
    (r2 : xb_run (xt_G w) 5000 xl_d 203 0 [(0, .ref 165)] [] (xb_new A1 35 (.inr (10, (xt_ty 10).map defaultValue))) = some (.inl none, A2)) (n2 : A2.1 = 193) {Q : Int32 → xb_H → Prop} (k : xl_ok (xt_G w) 23 [(4, .int 0), (3, .ref 193), (2, .ref 165), (1, .ref 64), (0, .ref 20)] [] (xd_B A2 L xs) Q) : xl_ok (xt_G w) 0 [(0, .ref 20)] [] (xt_A0 L xs) Q := by
  rw [xd_start]
  refine xl_pure (q := (.new 8, 3, 0, 0)) (r := (3, [(0, .ref 20)], [.ref 64], xb_ov (xb_new xd_A0 5 (.inr (0, (xt_ty 0).map defaultValue))) (xd_X L xs))) rfl (Or.inr ⟨rfl, rfl⟩) ?_ ?_
  · show xb_newx xt_ty 0 0 [(0, .ref 20)] [] (xb_ov xd_A0 (xd_X L xs)) = _
    unfold xb_newx
    rw [xo_new]
    rfl
  refine xl_steps (pc' := 4) (L' := [(0, .ref 20)]) (st' := [.ref 64, .ref 64]) 1 rfl ?_
  refine xl_call (q := (.invokespecial 27, 3, 1, 1)) (av := [.ref 64]) (rest := [.ref 64]) (R := fun v A => v = none ∧ A = xb_ov A1 (xd_X L xs)) rfl rfl (by decide) rfl rfl (show 1 ≤ 1 by omega) ?_ ?_
  · exact ⟨5000, _, _, xo_run (xd_Xz L xs) _ _ _ _ _ _ _ _ r1 (by show 64 ≤ 64 + 1; omega), none, rfl, rfl, rfl⟩
  rintro v A ⟨rfl, rfl⟩
  refine xl_steps (pc' := 8) (L' := [(1, .ref 64), (0, .ref 20)]) (st' := []) 1 rfl ?_
  refine xl_pure (q := (.new 28, 3, 10, 0)) (r := (11, [(1, .ref 64), (0, .ref 20)], [.ref 165], xb_ov (xb_new A1 35 (.inr (10, (xt_ty 10).map defaultValue))) (xd_X L xs))) rfl (Or.inr ⟨rfl, rfl⟩) ?_ ?_
  · show xb_newx xt_ty 8 10 [(1, .ref 64), (0, .ref 20)] [] (xb_ov A1 (xd_X L xs)) = _
    unfold xb_newx
    rw [xo_new, show (xb_ov A1 (xd_X L xs)).1 = 165 from n1]
    rfl
  refine xl_steps (pc' := 12) (L' := [(1, .ref 64), (0, .ref 20)]) (st' := [.ref 165, .ref 165]) 1 rfl ?_
  refine xl_call (q := (.invokespecial 30, 3, 203, 1)) (av := [.ref 165]) (rest := [.ref 165]) (R := fun v A => v = none ∧ A = xb_ov A2 (xd_X L xs)) rfl rfl (by decide) rfl ?_ (show 1 ≤ 1 by omega) ?_ ?_
  · have hg : xb_get (xb_new A1 35 (.inr (10, (xt_ty 10).map defaultValue))) 165 = some (.inr (10, (xt_ty 10).map defaultValue)) := by
      rw [xb_get_new, if_pos n1.symm]
    exact xo_rcv (by
      show (match xb_get (xb_new A1 35 (.inr (10, (xt_ty 10).map defaultValue))) 165 with | some (.inr (c, _)) => decide (c = 10) | _ => false) = true
      rw [hg]
      rfl)
  · exact ⟨5000, _, _, xo_run (xd_Xz L xs) _ _ _ _ _ _ _ _ r2 (by show 64 ≤ A1.1 + 1; omega), none, rfl, rfl, rfl⟩
  rintro v A ⟨rfl, rfl⟩
  refine xl_steps (pc' := 17) (L' := [(2, .ref 165), (1, .ref 64), (0, .ref 20)]) (st' := [.int 1]) 2 rfl ?_
  refine xl_pure (q := (.newarray .long, 2, 0, 0)) (r := (19, [(2, .ref 165), (1, .ref 64), (0, .ref 20)], [.ref 193], xd_B A2 L xs)) rfl (Or.inl rfl) ?_ ?_
  · show xb_newax .long 17 2 [(2, .ref 165), (1, .ref 64), (0, .ref 20)] (xb_ov A2 (xd_X L xs)) [.int 1] = _
    simp only [xb_newax]
    rw [if_pos ⟨by decide, by decide⟩]
    have e1 : (1 : Int32).toNatClampNeg = 1 := by decide
    rw [e1]
    show some (19, [(2, Value.ref 165), (1, .ref 64), (0, .ref 20)], [Value.ref A2.1], xb_new (xb_ov A2 (xd_X L xs)) 1 (.inl (.long, 1, .inr (.inl fun _ => 0)))) = _
    rw [xo_new, n2]
    rfl
  refine xl_steps (pc' := 23) (L' := [(4, .int 0), (3, .ref 193), (2, .ref 165), (1, .ref 64), (0, .ref 20)]) (st' := []) 3 rfl ?_
  exact k
theorem xd_law (w : Value) (hw : w = .null ∨ w = .ref 19) (L : Nat) (xs : Nat → Int32) {Q : Int32 → xb_H → Prop} (k : xl_ok (xt_G w) 23 [(4, .int 0), (3, .ref 193), (2, .ref 165), (1, .ref 64), (0, .ref 20)] [] (xd_B (xd_A2 w) L xs) Q) : xl_ok (xt_G w) 0 [(0, .ref 20)] [] (xt_A0 L xs) Q := by
  obtain ⟨A1, r1, e1, n1⟩ := xd_m1 w hw
  obtain ⟨A2, r2, e2, n2, -⟩ := xd_m2 w hw
  rw [e2] at k
  unfold xd_1 at r1
  unfold xd_2 at r2
  rw [e1] at r2
  exact xd_lawG w L xs A1 A2 r1 n1 r2 n2 k
