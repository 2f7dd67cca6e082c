/-! The builder: enough room -/
section XSB
variable {G : xb_G} {d y pc : Nat} {L : xb_L} {st : List Value} {A : xb_H} {Q : xb_R → xb_H → Prop}
theorem xr_alen {a n : Nat} {t : FieldType} {f : (Nat → Int32) ⊕ (Nat → Int64) ⊕ (Nat → Option Nat)} (hq : xb_gP G y pc = some (.arraylength, 1, 0, 0)) (hg : xb_get A a = some (.inl (t, n, f))) (kk : xr_ok G d y (pc + 1) L (.int (Int32.ofInt n) :: st) A Q) : xr_ok G d y pc L (.ref a :: st) A Q := by
  refine xr_pure hq rfl ?_ kk
  show xb_alenx pc L A (.ref a :: st) = _
  unfold xb_alenx
  simp only [hg]
  rw [Int32.ofInt_eq_ofNat]
theorem xr_shr0 (x : Int32) : x >>> ((0 : Int32) &&& 31) = x := by
  have e : ((0 : Int32) &&& 31) = 0 := by decide
  rw [e]
  exact Int32.shiftRight_zero
theorem xr_shl0 (x : Int32) : x <<< ((0 : Int32) &&& 31) = x := by
  have e : ((0 : Int32) &&& 31) = 0 := by decide
  rw [e]
  exact Int32.shiftLeft_zero
end XSB
/-- AbstractStringBuilder.ensureCapacityInternal, where there is room -/
theorem mm_17 {w : Value} {d : Nat} {A : xb_H} {a v n : Nat} {fs : List Value} {f : Nat → Int32} {k : Int} (h : xb_get A a = some (.inr (11, fs))) (h0 : fs[0]? = some (.ref v)) (h1 : fs[1]? = some (.int 0)) (hv : xb_get A v = some (.inl (.byte, n, .inl f))) (hn : n ≤ 65536) (hk : 0 ≤ k ∧ k ≤ n) :
    xr_ok (xt_G w) d 17 0 [(0, .ref a), (1, .int (Int32.ofInt k))] [] A (fun o A' => ∃ v, o = .inl v ∧ v = none ∧ A' = A) := by
  refine xr_steps (pc' := 1) 1 rfl ?_
  refine xr_getf rfl h h0 ?_
  refine xr_alen rfl hv ?_
  refine xr_steps (pc' := 6) 1 rfl ?_
  refine xr_getf rfl h h1 ?_
  refine xr_pure (pc' := 10) (L' := [(0, .ref a), (1, .int (Int32.ofInt k))]) (st' := [.int (Int32.ofInt n)]) (A' := A) (q := (.ishr, 1, 0, 0)) rfl rfl ?_ ?_
  · show some (10, _, [Value.int (Int32.ofInt n >>> ((0 : Int32) &&& 31))], A) = _
    rw [xr_shr0]
  refine xr_steps (pc' := 13) (L' := [(2, .int (Int32.ofInt n)), (0, .ref a), (1, .int (Int32.ofInt k))]) (st' := [.int (Int32.ofInt n), .int (Int32.ofInt k)]) 3 rfl ?_
  refine xr_isub rfl ?_
  refine xr_if_le rfl (by omega) (fun _ => ?_) (fun hh => absurd (show k - (n : Int) ≤ 0 by omega) hh)
  exact xr_retV rfl rfl rfl ⟨_, rfl, rfl, rfl⟩
