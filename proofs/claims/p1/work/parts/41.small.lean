/-! First contracts of the class's and the JDK's small methods -/
theorem xr_rcv {G : xb_G} {y k a : Nat} {fs rest : List Value} {A : xb_H} (hk : xb_gV G y = some k) (h : xb_get A a = some (.inr (k, fs))) : xb_rcv G y (.ref a :: rest) A = true := by
  unfold xb_rcv
  rw [hk]
  dsimp only
  rw [h]
  exact decide_eq_true rfl
/-- AbstractStringBuilder.length -/
theorem mm_14 {w : Value} {d : Nat} {A : xb_H} {a : Nat} {fs : List Value} {c : Int32} (h : xb_get A a = some (.inr (11, fs))) (hv : fs[3]? = some (.int c)) : xr_ok (xt_G w) d 14 0 [(0, .ref a)] [] A (fun o A' => ∃ v, o = .inl v ∧ v = some (.int c) ∧ A' = A) := by
  refine xr_steps (pc' := 1) 1 rfl ?_
  refine xr_getf rfl h hv ?_
  exact xr_retB rfl rfl rfl rfl ⟨_, rfl, rfl, rfl⟩
/-- StringBuilder.length -/
theorem mm_13 {w : Value} {d : Nat} {A : xb_H} {a : Nat} {fs : List Value} {c : Int32} (h : xb_get A a = some (.inr (11, fs))) (hv : fs[3]? = some (.int c)) : xr_ok (xt_G w) (d + 1) 13 0 [(0, .ref a)] [] A (fun o A' => ∃ v, o = .inl v ∧ v = some (.int c) ∧ A' = A) := by
  refine xr_steps (pc' := 1) 1 rfl ?_
  refine xr_call (q := (.invokespecial 343, 3, 14, 1)) (av := [.ref a]) (rest := []) rfl rfl (by decide) rfl (xr_rcv rfl h) (show 1 ≤ 1 by omega) (mm_14 h hv) ?_
  rintro v A' ⟨rfl, rfl⟩
  exact xr_retB rfl rfl rfl rfl ⟨_, rfl, rfl, rfl⟩
/-- ContractDesk.byteOf -/
theorem mm_12 {w : Value} {d : Nat} {A : xb_H} {x : Int64} {s : Int32} : xr_ok (xt_G w) d 12 0 [(0, .long x), (2, .int s)] [] A (fun o A' => ∃ v, o = .inl v ∧ v = some (.int ((x.toUInt64 >>> (s.toInt64.toUInt64 &&& Int64.toUInt64 63)).toInt64.toInt32 &&& Int32.ofInt 255)) ∧ A' = A) := by
  refine xr_steps (pc' := 8) (L' := [(0, .long x), (2, .int s)]) (st' := [.int ((x.toUInt64 >>> (s.toInt64.toUInt64 &&& Int64.toUInt64 63)).toInt64.toInt32 &&& Int32.ofInt 255)]) 6 rfl ?_
  exact xr_retB rfl rfl rfl rfl ⟨_, rfl, rfl, rfl⟩
