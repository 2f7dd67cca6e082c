/-- AbstractStringBuilder.newCapacity -/
theorem mm_18 {w : Value} {d : Nat} {A : xb_H} {a v n : Nat} {fs : List Value} {f : Nat → Int32} {k : Int} (h : xb_get A a = some (.inr (11, fs))) (h0 : fs[0]? = some (.ref v)) (h1 : fs[1]? = some (.int 0)) (hv : xb_get A v = some (.inl (.byte, n, .inl f))) (hn : n ≤ 32000) (hk : (n : Int) < k ∧ k ≤ 65536) :
    xr_ok (xt_G w) (d + 1 + 1) 18 0 [(0, .ref a), (1, .int (Int32.ofInt k))] [] A (fun o A' => ∃ r, o = .inl r ∧ r = some (.int (Int32.ofInt ((n : Int) + max (k - n) ((n : Int) + 2)))) ∧ A' = A) := by
  refine xr_steps (pc' := 1) 1 rfl ?_
  refine xr_getf rfl h h0 ?_
  refine xr_alen rfl hv ?_
  refine xr_steps (pc' := 8) (L' := [(2, .int (Int32.ofInt n)), (0, .ref a), (1, .int (Int32.ofInt k))]) (st' := [.ref a, .int (Int32.ofInt k)]) 3 rfl ?_
  refine xr_getf rfl h h1 ?_
  refine xr_pure (pc' := 12) (L' := [(2, .int (Int32.ofInt n)), (0, .ref a), (1, .int (Int32.ofInt k))]) (st' := [.int (Int32.ofInt k)]) (A' := A) (q := (.ishl, 1, 0, 0)) rfl rfl ?_ ?_
  · show some (12, _, [Value.int (Int32.ofInt k <<< ((0 : Int32) &&& 31))], A) = _
    rw [xr_shl0]
  refine xr_steps (pc' := 15) (L' := [(3, .int (Int32.ofInt k)), (2, .int (Int32.ofInt n)), (0, .ref a), (1, .int (Int32.ofInt k))]) (st' := [.int (Int32.ofInt n), .int (Int32.ofInt k)]) 3 rfl ?_
  refine xr_isub rfl ?_
  refine xr_steps (pc' := 24) (L' := [(4, .int (Int32.ofInt (k - n))), (3, .int (Int32.ofInt k)), (2, .int (Int32.ofInt n)), (0, .ref a), (1, .int (Int32.ofInt k))]) (st' := [.ref a, .int (Int32.ofInt 2), .int (Int32.ofInt n), .int (Int32.ofInt (k - n)), .int (Int32.ofInt n)]) 6 rfl ?_
  refine xr_getf rfl h h1 ?_
  refine xr_pure (pc' := 28) (L' := [(4, .int (Int32.ofInt (k - n))), (3, .int (Int32.ofInt k)), (2, .int (Int32.ofInt n)), (0, .ref a), (1, .int (Int32.ofInt k))]) (st' := [.int (Int32.ofInt 2), .int (Int32.ofInt n), .int (Int32.ofInt (k - n)), .int (Int32.ofInt n)]) (A' := A) (q := (.ishl, 1, 0, 0)) rfl rfl ?_ ?_
  · show some (28, _, [Value.int (Int32.ofInt 2 <<< ((0 : Int32) &&& 31)), .int (Int32.ofInt n), .int (Int32.ofInt (k - n)), .int (Int32.ofInt n)], A) = _
    rw [xr_shl0]
  refine xr_iadd rfl ?_
  refine xr_call (q := (.invokestatic 114, 3, 19, 3)) (av := [.int (Int32.ofInt n), .int (Int32.ofInt (k - n)), .int (Int32.ofInt ((n : Int) + 2))]) (rest := []) rfl rfl (by decide) rfl rfl (show 3 ≤ 4 by omega) (mm_19 (by omega) (by omega) (by omega)) ?_
  rintro _ _ ⟨rfl, eA⟩
  rw [eA]
  clear eA
  have hx : 1 ≤ (n : Int) + max (k - n) ((n : Int) + 2) ∧ (n : Int) + max (k - n) ((n : Int) + 2) ≤ 131076 := by omega
  generalize (n : Int) + max (k - n) ((n : Int) + 2) = x at hx ⊢
  refine xr_steps (pc' := 38) (L' := [(5, .int (Int32.ofInt x)), (4, .int (Int32.ofInt (k - n))), (3, .int (Int32.ofInt k)), (2, .int (Int32.ofInt n)), (0, .ref a), (1, .int (Int32.ofInt k))]) (st' := [.int (Int32.ofInt 2147483647), .int (Int32.ofInt x)]) 3 rfl ?_
  refine xr_icmp_ne rfl (by omega) (by omega) (fun _ => ?_) (fun hh => absurd hh (by omega))
  refine xr_steps (pc' := 54) (L' := [(5, .int (Int32.ofInt x)), (4, .int (Int32.ofInt (k - n))), (3, .int (Int32.ofInt k)), (2, .int (Int32.ofInt n)), (0, .ref a), (1, .int (Int32.ofInt k))]) (st' := [.ref a, .int (Int32.ofInt x)]) 2 rfl ?_
  refine xr_getf rfl h h1 ?_
  refine xr_pure (pc' := 58) (L' := [(5, .int (Int32.ofInt x)), (4, .int (Int32.ofInt (k - n))), (3, .int (Int32.ofInt k)), (2, .int (Int32.ofInt n)), (0, .ref a), (1, .int (Int32.ofInt k))]) (st' := [.int (Int32.ofInt x)]) (A' := A) (q := (.ishr, 1, 0, 0)) rfl rfl ?_ ?_
  · show some (58, _, [Value.int (Int32.ofInt x >>> ((0 : Int32) &&& 31))], A) = _
    rw [xr_shr0]
  exact xr_retB rfl rfl rfl rfl ⟨_, rfl, rfl, rfl⟩
