/-! The head of the law's loop -/
def xd_L (i : Int) : xb_L := [(4, .int (Int32.ofInt i)), (3, .ref 193), (2, .ref 165), (1, .ref 64), (0, .ref 20)]
theorem xd_gP (w : Value) (y pc : Nat) : xb_gP (xt_G w) y pc = (xt_l.getD y []).lookup pc := rfl
theorem xd_603 (w : Value) : xb_gP (xt_G w) 260 603 = some (.ireturn, 1, 0, 0) := by
  rw [xd_gP]
  decide +kernel
theorem xd_head {w : Value} {L : Nat} {xs : Nat → Int32} {i : Int} {A : xb_H} {Q : Int32 → xb_H → Prop} (hA : xb_get A 20 = some (.inl (.int, L, .inl xs))) (hL : L ≤ 1536) (hi : 0 ≤ i ∧ i ≤ 2000) (k1 : i + 3 ≤ (L : Int) → xl_ok (xt_G w) 32 (xd_L i) [] A Q) (k2 : ¬ i + 3 ≤ (L : Int) → Q 1 A) : xl_ok (xt_G w) 23 (xd_L i) [] A Q := by
  refine xl_steps (pc' := 26) (L' := xd_L i) (st' := [.ref 20, .int (Int32.ofInt i)]) 2 rfl ?_
  refine xl_pure (q := (.arraylength, 1, 0, 0)) (r := (27, xd_L i, [.int (Int32.ofInt L), .int (Int32.ofInt i)], A)) rfl (Or.inl rfl) ?_ ?_
  · show xb_alenx 26 (xd_L i) A [.ref 20, .int (Int32.ofInt i)] = _
    simp only [xb_alenx, hA]
    rw [Int32.ofInt_eq_ofNat]
  refine xl_steps (pc' := 28) (L' := xd_L i) (st' := [.int (Int32.ofInt 3), .int (Int32.ofInt L), .int (Int32.ofInt i)]) 1 rfl ?_
  refine xl_pure (q := (.isub, 1, 0, 0)) (r := (29, xd_L i, [.int (Int32.ofInt (L - 3)), .int (Int32.ofInt i)], A)) rfl (Or.inl rfl) ?_ ?_
  · rw [Int32.ofInt_sub]
    rfl
  have hlt : Int32.ofInt ((L : Int) - 3) < Int32.ofInt i ↔ (L : Int) - 3 < i := xr_ltI (by omega) (by omega)
  by_cases h : i + 3 ≤ (L : Int)
  · refine xl_pure (q := (.if_icmp .gt 573, 3, 602, 0)) (r := (32, xd_L i, [], A)) rfl (Or.inl rfl) ?_ (k1 h)
    show some (if decide (Int32.ofInt ((L : Int) - 3) < Int32.ofInt i) = true then 602 else 29 + 3, xd_L i, ([] : List Value), A) = _
    rw [if_neg (by rw [decide_eq_true_eq, hlt]; omega)]
  · refine xl_pure (q := (.if_icmp .gt 573, 3, 602, 0)) (r := (602, xd_L i, [], A)) rfl (Or.inl rfl) ?_ ?_
    · show some (if decide (Int32.ofInt ((L : Int) - 3) < Int32.ofInt i) = true then 602 else 29 + 3, xd_L i, ([] : List Value), A) = _
      rw [if_pos (by rw [decide_eq_true_eq, hlt]; omega)]
    · refine xl_steps (pc' := 603) (L' := xd_L i) (st' := [.int 1]) 1 rfl ?_
      exact xl_ret (xd_603 w) rfl (k2 h)
theorem xd_scr1 : (xb_get (xd_A2 .null) 20).isNone = true ∧ (xb_get (xd_A2 (.ref 19)) 20).isNone = true := by decide +kernel
theorem xd_scr {w : Value} (hw : w = .null ∨ w = .ref 19) (L : Nat) (xs : Nat → Int32) : xb_get (xd_B (xd_A2 w) L xs) 20 = some (.inl (.int, L, .inl xs)) := by
  obtain ⟨A2, -, e2, n2, -⟩ := xd_m2 w hw
  have h : (xb_get (xd_A2 w) 20).isNone = true := by
    rcases hw with rfl | rfl
    · exact xd_scr1.1
    · exact xd_scr1.2
  rw [e2] at h ⊢
  have h2 : A2.2.2 20 = none := by
    unfold xb_get at h
    rw [if_pos (by omega)] at h
    exact Option.isNone_iff_eq_none.mp h
  unfold xd_B xb_get
  rw [if_pos (by show 20 < A2.1 + 1; omega)]
  show (match (if 20 = A2.1 then some (Sum.inl (FieldType.long, 1, Sum.inr (Sum.inl fun _ => 0))) else A2.2.2 20) with | some o => some o | none => xd_X L xs 20) = _
  rw [if_neg (by omega), h2]
  rfl
/-- scripts too short for a call -/
theorem xd_short (w : Value) (hw : w = .null ∨ w = .ref 19) (L : Nat) (xs : Nat → Int32) (hL : L < 3) : xl_ok (xt_G w) 0 [(0, .ref 20)] [] (xt_A0 L xs) (fun v A => v = 1 ∧ A.1 ≤ 601088 ∧ A.2.1 ≤ 7293034) := by
  obtain ⟨A2, -, e2, n2, n3⟩ := xd_m2 w hw
  refine xd_law w hw L xs (xd_head (i := 0) (xd_scr hw L xs) (by omega) (by omega) (fun h => by omega) (fun _ => ⟨rfl, ?_, ?_⟩))
  · rw [e2]
    show A2.1 + 1 ≤ 601088
    omega
  · rw [e2]
    show A2.2.1 + 1 ≤ 7293034
    omega
