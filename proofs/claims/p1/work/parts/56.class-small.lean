/-! The class's small methods -/
theorem mc_40 {w : Value} {d : Nat} {A : xb_H} {k : Int}  (hk : -2147483648 ≤ k ∧ k ≤ 2147483647) {b : Int} (hb : (b = 1 ∧ (0 ≤ k ∧ k ≤ 5)) ∨ (b = 0 ∧ ¬ (0 ≤ k ∧ k ≤ 5))) : xr_ok (xt_G w) d 40 0 [(0, .int (Int32.ofInt k))] [] A (fun o A' => ∃ v, o = .inl v ∧ v = some (.int (Int32.ofInt b)) ∧ A' = A) := by
  refine xr_steps (pc' := 1) (L' := [(0, .int (Int32.ofInt k))]) (st' := [.int (Int32.ofInt k)]) 1 rfl ?_
  refine xr_if_lt rfl (by omega) (fun z1 => ?_) (fun z1 => ?_)
  · refine xr_steps (pc' := 15) (L' := [(0, .int (Int32.ofInt k))]) (st' := [.int (Int32.ofInt 0)]) 1 rfl ?_
    obtain rfl : b = 0 := by omega
    exact xr_retZ rfl rfl (by omega) ⟨_, rfl, rfl, rfl⟩
  · refine xr_steps (pc' := 7) (L' := [(0, .int (Int32.ofInt k))]) (st' := [.int (Int32.ofInt 6), .int (Int32.ofInt k)]) 2 rfl ?_
    refine xr_icmp_ge rfl (by omega) (by omega) (fun z2 => ?_) (fun z2 => ?_)
    · refine xr_steps (pc' := 15) (L' := [(0, .int (Int32.ofInt k))]) (st' := [.int (Int32.ofInt 0)]) 1 rfl ?_
      obtain rfl : b = 0 := by omega
      exact xr_retZ rfl rfl (by omega) ⟨_, rfl, rfl, rfl⟩
    · refine xr_steps (pc' := 15) (L' := [(0, .int (Int32.ofInt k))]) (st' := [.int (Int32.ofInt 1)]) 2 rfl ?_
      obtain rfl : b = 1 := by omega
      exact xr_retZ rfl rfl (by omega) ⟨_, rfl, rfl, rfl⟩
theorem mc_44 {w : Value} {d : Nat} {A : xb_H} {k h ec : Int} {hd : Nat → Int} (h68 : xb_get A 68 = some (.inr (8, [.ref 69, .ref 70, .int (Int32.ofInt ec)]))) (h69 : xb_get A 69 = some (.inl (.int, 6, .inl (fun j => Int32.ofInt (hd j))))) (hk : -2147483648 ≤ k ∧ k ≤ 2147483647) (hh : -2147483648 ≤ h ∧ h ≤ 2147483647) {b : Int} (hb : (b = 1 ∧ ((0 ≤ k ∧ k ≤ 5) ∧ 0 ≤ h ∧ h ≤ 3)) ∨ (b = 0 ∧ ¬ ((0 ≤ k ∧ k ≤ 5) ∧ 0 ≤ h ∧ h ≤ 3))) : xr_ok (xt_G w) (d + 1) 44 0 [(0, .ref 68), (1, .int (Int32.ofInt k)), (2, .int (Int32.ofInt h))] [] A (fun o A' => ∃ v, o = .inl v ∧ v = some (.int (Int32.ofInt b)) ∧ A' = if b = 1 then xb_set A 69 (.inl (.int, 6, .inl fun j => Int32.ofInt (va_up hd k.toNat h j))) else A) := by
  refine xr_steps (pc' := 1) (L' := [(0, .ref 68), (1, .int (Int32.ofInt k)), (2, .int (Int32.ofInt h))]) (st' := [.int (Int32.ofInt k)]) 1 rfl ?_
  obtain ⟨b1, hb1⟩ := mo_bool (0 ≤ k ∧ k ≤ 5)
  refine xr_call (q := (.invokestatic 18, 3, 40, 1)) (av := [.int (Int32.ofInt k)]) (rest := []) rfl rfl (by decide) rfl rfl (Nat.le_of_ble_eq_true rfl) (mc_40 (by omega) hb1) ?_
  rintro _ _ ⟨rfl, eA⟩
  rw [eA]
  clear eA
  refine xr_if_eq rfl (by omega) (fun z2 => ?_) (fun z2 => ?_)
  · refine xr_steps (pc' := 17) (L' := [(0, .ref 68), (1, .int (Int32.ofInt k)), (2, .int (Int32.ofInt h))]) (st' := [.int (Int32.ofInt 0)]) 1 rfl ?_
    obtain rfl : b = 0 := by omega
    exact xr_retZ rfl rfl (by omega) ⟨_, rfl, rfl, (if_neg (by decide)).symm⟩
  · refine xr_steps (pc' := 8) (L' := [(0, .ref 68), (1, .int (Int32.ofInt k)), (2, .int (Int32.ofInt h))]) (st' := [.int (Int32.ofInt h)]) 1 rfl ?_
    refine xr_if_lt rfl (by omega) (fun z3 => ?_) (fun z3 => ?_)
    · refine xr_steps (pc' := 17) (L' := [(0, .ref 68), (1, .int (Int32.ofInt k)), (2, .int (Int32.ofInt h))]) (st' := [.int (Int32.ofInt 0)]) 1 rfl ?_
      obtain rfl : b = 0 := by omega
      exact xr_retZ rfl rfl (by omega) ⟨_, rfl, rfl, (if_neg (by decide)).symm⟩
    · refine xr_steps (pc' := 13) (L' := [(0, .ref 68), (1, .int (Int32.ofInt k)), (2, .int (Int32.ofInt h))]) (st' := [.int (Int32.ofInt 4), .int (Int32.ofInt h)]) 2 rfl ?_
      refine xr_icmp_lt rfl (by omega) (by omega) (fun z4 => ?_) (fun z4 => ?_)
      · refine xr_steps (pc' := 19) (L' := [(0, .ref 68), (1, .int (Int32.ofInt k)), (2, .int (Int32.ofInt h))]) (st' := [.ref 68]) 1 rfl ?_
        refine xr_getf (v := .ref 69) rfl h68 rfl ?_
        refine xr_steps (pc' := 24) (L' := [(0, .ref 68), (1, .int (Int32.ofInt k)), (2, .int (Int32.ofInt h))]) (st' := [.int (Int32.ofInt h), .int (Int32.ofInt k), .ref 69]) 2 rfl ?_
        obtain ⟨A5, eA5⟩ : ∃ A0, xb_set A 69 (.inl (.int, 6, .inl fun j => Int32.ofInt ((va_up hd k.toNat h) j))) = A0 := ⟨_, rfl⟩
        refine xr_iastoreN rfl h69 (by decide) (by omega) (by omega) (by omega) (xr_heap eA5 ?_)
        have g6 := xr_mv eA5 (xb_get_set_ne h69 h68 (by decide))
        have g7 := xr_mv eA5 (xb_get_set_same h69)
        have nA5 : A5.1 = A.1 := by rw [← eA5]; rfl
        refine xr_steps (pc' := 26) (L' := [(0, .ref 68), (1, .int (Int32.ofInt k)), (2, .int (Int32.ofInt h))]) (st' := [.int (Int32.ofInt 1)]) 1 rfl ?_
        obtain rfl : b = 1 := by omega
        exact xr_retZ rfl rfl (by omega) ⟨_, rfl, rfl, (by rw [if_pos rfl]; exact eA5.symm)⟩
      · refine xr_steps (pc' := 17) (L' := [(0, .ref 68), (1, .int (Int32.ofInt k)), (2, .int (Int32.ofInt h))]) (st' := [.int (Int32.ofInt 0)]) 1 rfl ?_
        obtain rfl : b = 0 := by omega
        exact xr_retZ rfl rfl (by omega) ⟨_, rfl, rfl, (if_neg (by decide)).symm⟩
theorem mc_43 {w : Value} {d : Nat} {A : xb_H} {k h ec n : Int} {hd : Nat → Int} (h64 : xb_get A 64 = some (.inr (0, [.ref 65, .ref 67, .int (Int32.ofInt n), .ref 68, .ref 71]))) (h68 : xb_get A 68 = some (.inr (8, [.ref 69, .ref 70, .int (Int32.ofInt ec)]))) (h69 : xb_get A 69 = some (.inl (.int, 6, .inl (fun j => Int32.ofInt (hd j))))) (hk : -2147483648 ≤ k ∧ k ≤ 2147483647) (hh : -2147483648 ≤ h ∧ h ≤ 2147483647) {b : Int} (hb : (b = 1 ∧ ((0 ≤ k ∧ k ≤ 5) ∧ 0 ≤ h ∧ h ≤ 3)) ∨ (b = 0 ∧ ¬ ((0 ≤ k ∧ k ≤ 5) ∧ 0 ≤ h ∧ h ≤ 3))) : xr_ok (xt_G w) (d + 2) 43 0 [(0, .ref 64), (1, .int (Int32.ofInt k)), (2, .int (Int32.ofInt h))] [] A (fun o A' => ∃ v, o = .inl v ∧ v = some (.int (Int32.ofInt b)) ∧ A' = if b = 1 then xb_set A 69 (.inl (.int, 6, .inl fun j => Int32.ofInt (va_up hd k.toNat h j))) else A) := by
  refine xr_steps (pc' := 1) (L' := [(0, .ref 64), (1, .int (Int32.ofInt k)), (2, .int (Int32.ofInt h))]) (st' := [.ref 64]) 1 rfl ?_
  refine xr_getf (v := .ref 68) rfl h64 rfl ?_
  refine xr_steps (pc' := 6) (L' := [(0, .ref 64), (1, .int (Int32.ofInt k)), (2, .int (Int32.ofInt h))]) (st' := [.int (Int32.ofInt h), .int (Int32.ofInt k), .ref 68]) 2 rfl ?_
  refine xr_call (q := (.invokevirtual 98, 3, 44, 3)) (av := [.ref 68, .int (Int32.ofInt k), .int (Int32.ofInt h)]) (rest := []) rfl rfl (by decide) rfl (xr_rcv rfl h68) (Nat.le_of_ble_eq_true rfl) (mc_44 h68 h69 hk hh hb) ?_
  rintro _ A9 ⟨rfl, eA9⟩
  exact xr_retZ rfl rfl (by omega) ⟨_, rfl, rfl, eA9⟩
theorem mc_101 {w : Value} {d : Nat} {A : xb_H} {ec : Int} (h68 : xb_get A 68 = some (.inr (8, [.ref 69, .ref 70, .int (Int32.ofInt ec)])))  : xr_ok (xt_G w) d 101 0 [(0, .ref 68)] [] A (fun o A' => ∃ v, o = .inl v ∧ v = some (.int (Int32.ofInt ec)) ∧ A' = A) := by
  refine xr_steps (pc' := 1) (L' := [(0, .ref 68)]) (st' := [.ref 68]) 1 rfl ?_
  refine xr_getf (v := .int (Int32.ofInt ec)) rfl h68 rfl ?_
  exact xr_retI2 rfl rfl ⟨_, rfl, rfl, rfl⟩
theorem mc_102 {w : Value} {d : Nat} {A : xb_H} {k ec r : Int} {ev : Nat → Int} (h68 : xb_get A 68 = some (.inr (8, [.ref 69, .ref 70, .int (Int32.ofInt ec)]))) (h70 : xb_get A 70 = some (.inl (.int, 3072, .inl (fun j => Int32.ofInt (ev j))))) (hk : -2147483648 ≤ k ∧ k ≤ 2147483647) (he : 0 ≤ ec ∧ ec ≤ 3072) (hr : ((0 ≤ k ∧ k < ec) ∧ r = ev k.toNat) ∨ (¬ (0 ≤ k ∧ k < ec) ∧ r = -1)) : xr_ok (xt_G w) d 102 0 [(0, .ref 68), (1, .int (Int32.ofInt k))] [] A (fun o A' => ∃ v, o = .inl v ∧ v = some (.int (Int32.ofInt r)) ∧ A' = A) := by
  refine xr_steps (pc' := 1) (L' := [(0, .ref 68), (1, .int (Int32.ofInt k))]) (st' := [.int (Int32.ofInt k)]) 1 rfl ?_
  refine xr_if_lt rfl (by omega) (fun z1 => ?_) (fun z1 => ?_)
  · refine xr_steps (pc' := 22) (L' := [(0, .ref 68), (1, .int (Int32.ofInt k))]) (st' := [.int (Int32.ofInt (-1))]) 1 rfl ?_
    obtain rfl : r = -1 := by omega
    exact xr_retI2 rfl rfl ⟨_, rfl, rfl, rfl⟩
  · refine xr_steps (pc' := 6) (L' := [(0, .ref 68), (1, .int (Int32.ofInt k))]) (st' := [.ref 68, .int (Int32.ofInt k)]) 2 rfl ?_
    refine xr_getf (v := .int (Int32.ofInt ec)) rfl h68 rfl ?_
    refine xr_icmp_ge rfl (by omega) (by omega) (fun z2 => ?_) (fun z2 => ?_)
    · refine xr_steps (pc' := 22) (L' := [(0, .ref 68), (1, .int (Int32.ofInt k))]) (st' := [.int (Int32.ofInt (-1))]) 1 rfl ?_
      obtain rfl : r = -1 := by omega
      exact xr_retI2 rfl rfl ⟨_, rfl, rfl, rfl⟩
    · refine xr_steps (pc' := 13) (L' := [(0, .ref 68), (1, .int (Int32.ofInt k))]) (st' := [.ref 68]) 1 rfl ?_
      refine xr_getf (v := .ref 70) rfl h68 rfl ?_
      refine xr_steps (pc' := 17) (L' := [(0, .ref 68), (1, .int (Int32.ofInt k))]) (st' := [.int (Int32.ofInt k), .ref 70]) 1 rfl ?_
      refine xr_iaload rfl h70 (by omega) (by omega) (by omega) ?_
      refine xr_steps (pc' := 22) (L' := [(0, .ref 68), (1, .int (Int32.ofInt k))]) (st' := [.int (Int32.ofInt (ev k.toNat))]) 1 rfl ?_
      obtain rfl : r = ev k.toNat := by omega
      exact xr_retI2 rfl rfl ⟨_, rfl, rfl, rfl⟩
theorem mc_100 {w : Value} {d : Nat} {A : xb_H} {k ec n r : Int} {ev : Nat → Int} (h64 : xb_get A 64 = some (.inr (0, [.ref 65, .ref 67, .int (Int32.ofInt n), .ref 68, .ref 71]))) (h68 : xb_get A 68 = some (.inr (8, [.ref 69, .ref 70, .int (Int32.ofInt ec)]))) (h70 : xb_get A 70 = some (.inl (.int, 3072, .inl (fun j => Int32.ofInt (ev j))))) (hk : -2147483648 ≤ k ∧ k ≤ 2147483647) (he : 0 ≤ ec ∧ ec ≤ 3072) (hr : (k = -1 ∧ r = ec) ∨ (¬ k = -1 ∧ (0 ≤ k ∧ k < ec) ∧ r = ev k.toNat) ∨ (¬ k = -1 ∧ ¬ (0 ≤ k ∧ k < ec) ∧ r = -1)) : xr_ok (xt_G w) (d + 1) 100 0 [(0, .ref 64), (1, .int (Int32.ofInt k))] [] A (fun o A' => ∃ v, o = .inl v ∧ v = some (.int (Int32.ofInt r)) ∧ A' = A) := by
  refine xr_steps (pc' := 2) (L' := [(0, .ref 64), (1, .int (Int32.ofInt k))]) (st' := [.int (Int32.ofInt (-1)), .int (Int32.ofInt k)]) 2 rfl ?_
  refine xr_icmp_ne rfl (by omega) (by omega) (fun z1 => ?_) (fun z1 => ?_)
  · refine xr_steps (pc' := 16) (L' := [(0, .ref 64), (1, .int (Int32.ofInt k))]) (st' := [.ref 64]) 1 rfl ?_
    refine xr_getf (v := .ref 68) rfl h64 rfl ?_
    refine xr_steps (pc' := 20) (L' := [(0, .ref 64), (1, .int (Int32.ofInt k))]) (st' := [.int (Int32.ofInt k), .ref 68]) 1 rfl ?_
    refine xr_call (q := (.invokevirtual 150, 3, 102, 2)) (av := [.ref 68, .int (Int32.ofInt k)]) (rest := []) rfl rfl (by decide) rfl (xr_rcv rfl h68) (Nat.le_of_ble_eq_true rfl) (mc_102 (r := r) h68 h70 hk he (by omega)) ?_
    rintro _ _ ⟨rfl, eA⟩
    rw [eA]
    clear eA
    exact xr_retI2 rfl rfl ⟨_, rfl, rfl, rfl⟩
  · refine xr_steps (pc' := 6) (L' := [(0, .ref 64), (1, .int (Int32.ofInt k))]) (st' := [.ref 64]) 1 rfl ?_
    refine xr_getf (v := .ref 68) rfl h64 rfl ?_
    refine xr_call (q := (.invokevirtual 147, 3, 101, 1)) (av := [.ref 68]) (rest := []) rfl rfl (by decide) rfl (xr_rcv rfl h68) (Nat.le_of_ble_eq_true rfl) (mc_101 h68) ?_
    rintro _ _ ⟨rfl, eA⟩
    rw [eA]
    clear eA
    refine xr_steps (pc' := 23) (L' := [(0, .ref 64), (1, .int (Int32.ofInt k))]) (st' := [.int (Int32.ofInt ec)]) 1 rfl ?_
    obtain rfl : r = ec := by omega
    exact xr_retI2 rfl rfl ⟨_, rfl, rfl, rfl⟩
theorem mc_39a {w : Value} {d : Nat} {A : xb_H} {k n : Int} (h64 : xb_get A 64 = some (.inr (0, [.ref 65, .ref 67, .int (Int32.ofInt n), .ref 68, .ref 71]))) (hk : -2147483648 ≤ k ∧ k ≤ 2147483647) (hn : 0 ≤ n ∧ n ≤ 4) (hx : ¬ (0 ≤ k ∧ k < n)) : xr_ok (xt_G w) d 39 0 [(0, .ref 64), (1, .int (Int32.ofInt k))] [] A (fun o A' => ∃ v, o = .inl v ∧ v = some (.null) ∧ A' = A) := by
  refine xr_steps (pc' := 1) (L' := [(0, .ref 64), (1, .int (Int32.ofInt k))]) (st' := [.int (Int32.ofInt k)]) 1 rfl ?_
  refine xr_if_lt rfl (by omega) (fun z1 => ?_) (fun z1 => ?_)
  · refine xr_steps (pc' := 22) (L' := [(0, .ref 64), (1, .int (Int32.ofInt k))]) (st' := [.null]) 1 rfl ?_
    exact xr_retNull rfl rfl ⟨_, rfl, rfl, rfl⟩
  · refine xr_steps (pc' := 6) (L' := [(0, .ref 64), (1, .int (Int32.ofInt k))]) (st' := [.ref 64, .int (Int32.ofInt k)]) 2 rfl ?_
    refine xr_getf (v := .int (Int32.ofInt n)) rfl h64 rfl ?_
    refine xr_icmp_ge rfl (by omega) (by omega) (fun z2 => ?_) (fun z2 => ?_)
    · refine xr_steps (pc' := 22) (L' := [(0, .ref 64), (1, .int (Int32.ofInt k))]) (st' := [.null]) 1 rfl ?_
      exact xr_retNull rfl rfl ⟨_, rfl, rfl, rfl⟩
    · exfalso; omega
theorem mc_92 {w : Value} {d : Nat} {A : xb_H} {fd r : Int} {ir : Value} (h71 : xb_get A 71 = some (.inr (1, [.ref 72, .ref 74, .int (Int32.ofInt fd), ir]))) (hf : 0 ≤ fd ∧ fd ≤ 100000) (hr : r = if fd < 30 then fd else 30) : xr_ok (xt_G w) d 92 0 [(0, .ref 71)] [] A (fun o A' => ∃ v, o = .inl v ∧ v = some (.int (Int32.ofInt r)) ∧ A' = A) := by
  refine xr_steps (pc' := 1) (L' := [(0, .ref 71)]) (st' := [.ref 71]) 1 rfl ?_
  refine xr_getf (v := .int (Int32.ofInt fd)) rfl h71 rfl ?_
  refine xr_steps (pc' := 6) (L' := [(0, .ref 71)]) (st' := [.int (Int32.ofInt 30), .int (Int32.ofInt fd)]) 1 rfl ?_
  refine xr_icmp_ge rfl (by omega) (by omega) (fun z1 => ?_) (fun z1 => ?_)
  · refine xr_steps (pc' := 18) (L' := [(0, .ref 71)]) (st' := [.int (Int32.ofInt 30)]) 1 rfl ?_
    obtain rfl : r = 30 := by rw [hr]; first | exact if_neg (by omega) | exact if_pos (by omega)
    exact xr_retI2 rfl rfl ⟨_, rfl, rfl, rfl⟩
  · refine xr_steps (pc' := 10) (L' := [(0, .ref 71)]) (st' := [.ref 71]) 1 rfl ?_
    refine xr_getf (v := .int (Int32.ofInt fd)) rfl h71 rfl ?_
    refine xr_steps (pc' := 18) (L' := [(0, .ref 71)]) (st' := [.int (Int32.ofInt fd)]) 1 rfl ?_
    obtain rfl : r = fd := by rw [hr]; first | exact if_neg (by omega) | exact if_pos (by omega)
    exact xr_retI2 rfl rfl ⟨_, rfl, rfl, rfl⟩
theorem mc_91 {w : Value} {d : Nat} {A : xb_H} {fd n r : Int} {ir : Value} (h64 : xb_get A 64 = some (.inr (0, [.ref 65, .ref 67, .int (Int32.ofInt n), .ref 68, .ref 71]))) (h71 : xb_get A 71 = some (.inr (1, [.ref 72, .ref 74, .int (Int32.ofInt fd), ir]))) (hf : 0 ≤ fd ∧ fd ≤ 100000) (hr : r = if fd < 30 then fd else 30) : xr_ok (xt_G w) (d + 1) 91 0 [(0, .ref 64)] [] A (fun o A' => ∃ v, o = .inl v ∧ v = some (.int (Int32.ofInt r)) ∧ A' = A) := by
  refine xr_steps (pc' := 1) (L' := [(0, .ref 64)]) (st' := [.ref 64]) 1 rfl ?_
  refine xr_getf (v := .ref 71) rfl h64 rfl ?_
  refine xr_call (q := (.invokevirtual 131, 3, 92, 1)) (av := [.ref 71]) (rest := []) rfl rfl (by decide) rfl (xr_rcv rfl h71) (Nat.le_of_ble_eq_true rfl) (mc_92 h71 hf hr) ?_
  rintro _ _ ⟨rfl, eA⟩
  rw [eA]
  clear eA
  exact xr_retI2 rfl rfl ⟨_, rfl, rfl, rfl⟩
