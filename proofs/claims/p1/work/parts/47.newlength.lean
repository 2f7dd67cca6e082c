/-! ArraysSupport.newLength -/
theorem xr_max {G : xb_G} {d y pc idx : Nat} {L : xb_L} {st : List Value} {A : xb_H} {Q : xb_R → xb_H → Prop} {a b : Int} (hq : xb_gP G y pc = some (.invokestatic idx, 3, 0, 2)) (ha : -2147483648 ≤ a ∧ a ≤ 2147483647) (hb : -2147483648 ≤ b ∧ b ≤ 2147483647) (hd : 1 ≤ d) (hcat : (st.map fun v => v.category).sum ≤ 8) (kk : xr_ok G d y (pc + 3) L (.int (Int32.ofInt (max a b)) :: st) A Q) : xr_ok G d y pc L (.int (Int32.ofInt b) :: .int (Int32.ofInt a) :: st) A Q := by
  refine xr_obj hq rfl rfl ?_ kk
  show xb_mmx true d pc L A (.int (Int32.ofInt b) :: .int (Int32.ofInt a) :: st) = _
  simp only [xb_mmx]
  rw [if_pos ⟨hd, hcat⟩, if_pos trivial]
  by_cases h : a < b
  · rw [if_pos ((xr_ltI ha hb).mpr h), Int.max_eq_right (by omega)]
  · rw [if_neg (fun z => h ((xr_ltI ha hb).mp z)), Int.max_eq_left (by omega)]
theorem mm_19 {w : Value} {d : Nat} {A : xb_H} {o m p : Int} (ho : 0 ≤ o ∧ o ≤ 65536) (hm : 0 ≤ m ∧ m ≤ 65536) (hp : 1 ≤ p ∧ p ≤ 65540) : xr_ok (xt_G w) (d + 1) 19 0 [(0, .int (Int32.ofInt o)), (1, .int (Int32.ofInt m)), (2, .int (Int32.ofInt p))] [] A (fun r A' => ∃ v, r = .inl v ∧ v = some (.int (Int32.ofInt (o + max m p))) ∧ A' = A) := by
  refine xr_steps (pc' := 3) (L' := [(0, .int (Int32.ofInt o)), (1, .int (Int32.ofInt m)), (2, .int (Int32.ofInt p))]) (st' := [.int (Int32.ofInt p), .int (Int32.ofInt m), .int (Int32.ofInt o)]) 3 rfl ?_
  refine xr_max rfl (by omega) (by omega) (by omega) (show 1 ≤ 8 by omega) ?_
  refine xr_iadd rfl ?_
  have hx : 1 ≤ o + max m p ∧ o + max m p ≤ 131076 := by omega
  generalize o + max m p = x at hx ⊢
  refine xr_steps (pc' := 10) (L' := [(3, .int (Int32.ofInt x)), (0, .int (Int32.ofInt o)), (1, .int (Int32.ofInt m)), (2, .int (Int32.ofInt p))]) (st' := [.int (Int32.ofInt x), .int (Int32.ofInt 0)]) 3 rfl ?_
  refine xr_icmp_ge rfl (by omega) (by omega) (fun h => absurd h (by omega)) (fun _ => ?_)
  refine xr_steps (pc' := 16) (L' := [(3, .int (Int32.ofInt x)), (0, .int (Int32.ofInt o)), (1, .int (Int32.ofInt m)), (2, .int (Int32.ofInt p))]) (st' := [.int (Int32.ofInt 2147483639), .int (Int32.ofInt x)]) 2 rfl ?_
  refine xr_icmp_gt rfl (by omega) (by omega) (fun h => absurd h (by omega)) (fun _ => ?_)
  refine xr_steps (pc' := 20) (L' := [(3, .int (Int32.ofInt x)), (0, .int (Int32.ofInt o)), (1, .int (Int32.ofInt m)), (2, .int (Int32.ofInt p))]) (st' := [.int (Int32.ofInt x)]) 1 rfl ?_
  exact xr_retB rfl rfl rfl rfl ⟨_, rfl, rfl, rfl⟩
