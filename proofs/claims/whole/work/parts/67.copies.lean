/-! Strings are made -/
theorem mk_53 {w : Value} {d : Nat} {A : xb_H} {i k : Int} (hr : 0 ≤ i ∧ i ≤ k ∧ k ≤ 100000) : xr_ok (xt_G w) d 53 0 [(0, .int (Int32.ofInt i)), (1, .int (Int32.ofInt k))] [] A (fun o A' => ∃ v0, o = .inl v0 ∧ v0 = none ∧ A' = A) := by
  refine xr_steps (pc' := 2) (L' := [(0, .int (Int32.ofInt i)), (1, .int (Int32.ofInt k))]) (st' := [.int (Int32.ofInt i), .int (Int32.ofInt k)]) 2 rfl ?_
  refine xr_icmp_ge rfl (by omega) (by omega) (fun z31 => ?_) (fun z31 => ?_)
  · exact xr_retN rfl rfl ⟨_, rfl, rfl, rfl⟩
  · exfalso; omega
theorem mk_52 {w : Value} {d : Nat} {A : xb_H} {v n : Nat} {f : Nat → Int} {i k : Int} (hr : 0 ≤ i ∧ i ≤ k ∧ k ≤ n) (hv : xb_get A v = some (.inl (.byte, n, .inl fun j => Int32.ofInt (f j)))) (hf : ∀ j : Nat, j < n → 0 ≤ f j ∧ f j ≤ 127) (hn : n ≤ 1000) (hA : 64 ≤ A.1) : xr_ok (xt_G w) (d + 1) 52 0 [(0, .ref v), (1, .int (Int32.ofInt i)), (2, .int (Int32.ofInt k))] [] A (fun o A' => ∃ v0, o = .inl v0 ∧ ∃ g : Nat → Int, v0 = some (.ref A.1) ∧ xb_get A' A.1 = some (.inl (.byte, (k - i).toNat, .inl fun j => Int32.ofInt (g j))) ∧ (∀ j : Nat, j < (k - i).toNat → g j = f (i.toNat + j)) ∧ yfr A A' [] 1 (k - i).toNat ∧ A'.1 = A.1 + 1) := by
  have hlt := xb_get_lt hv
  have f31 := yfr_refl A [] 0 0
  refine xr_steps (pc' := 2) (L' := [(0, .ref v), (1, .int (Int32.ofInt i)), (2, .int (Int32.ofInt k))]) (st' := [.int (Int32.ofInt k), .int (Int32.ofInt i)]) 2 rfl ?_
  refine xr_call (q := (.invokestatic 343, 3, 53, 2)) (av := [.int (Int32.ofInt i), .int (Int32.ofInt k)]) (rest := []) rfl rfl (by decide) rfl rfl (Nat.le_of_ble_eq_true rfl) (mk_53 (by omega)) ?_
  rintro _ _ ⟨rfl, eA⟩
  rw [eA]
  clear eA
  refine xr_steps (pc' := 7) (L' := [(0, .ref v), (1, .int (Int32.ofInt i)), (2, .int (Int32.ofInt k))]) (st' := [.int (Int32.ofInt i), .int (Int32.ofInt k)]) 2 rfl ?_
  refine xr_isub rfl ?_
  refine xr_steps (pc' := 10) (L' := [(3, .int (Int32.ofInt (k - i))), (0, .ref v), (1, .int (Int32.ofInt i)), (2, .int (Int32.ofInt k))]) (st' := [.int (Int32.ofInt (k - i))]) 2 rfl ?_
  obtain ⟨A32, eA32⟩ : ∃ A0, xb_new A ((k - i).toNat) (.inl (.byte, (k - i).toNat, .inl fun _ => Int32.ofInt 0)) = A0 := ⟨_, rfl⟩
  refine xr_newA rfl (by omega) rfl (xr_heap eA32 ?_)
  have g33 := xr_mv eA32 (xb_get_new_old hv)
  have g34 := xr_mv eA32 xb_get_new_same
  have nA32 : A32.1 = A.1 + 1 := by rw [← eA32]; rfl
  have f35 := yfr_mv eA32 (yfr_step_new f31)
  refine xr_steps (pc' := 20) (L' := [(4, .ref A.1), (3, .int (Int32.ofInt (k - i))), (0, .ref v), (1, .int (Int32.ofInt i)), (2, .int (Int32.ofInt k))]) (st' := [.ref v, .int (Int32.ofInt 0), .ref A.1, .int (Int32.ofInt i), .ref v]) 6 rfl ?_
  refine xr_alen rfl g33 ?_
  refine xr_steps (pc' := 22) (L' := [(4, .ref A.1), (3, .int (Int32.ofInt (k - i))), (0, .ref v), (1, .int (Int32.ofInt i)), (2, .int (Int32.ofInt k))]) (st' := [.int (Int32.ofInt i), .int (Int32.ofInt (n : Int)), .int (Int32.ofInt 0), .ref A.1, .int (Int32.ofInt i), .ref v]) 1 rfl ?_
  refine xr_isub rfl ?_
  refine xr_steps (pc' := 24) (L' := [(4, .ref A.1), (3, .int (Int32.ofInt (k - i))), (0, .ref v), (1, .int (Int32.ofInt i)), (2, .int (Int32.ofInt k))]) (st' := [.int (Int32.ofInt (k - i)), .int (Int32.ofInt ((n : Int) - i)), .int (Int32.ofInt 0), .ref A.1, .int (Int32.ofInt i), .ref v]) 1 rfl ?_
  refine xr_min rfl (by omega) (by omega) (by omega) (Nat.le_of_ble_eq_true rfl) ?_
  rw [Int.min_eq_right (by omega)]
  obtain ⟨A36, eA36⟩ : ∃ A0, xb_set A32 A.1 (.inl (.byte, (k - i).toNat, .inl fun j => Int32.ofInt (va_cpy f (fun _ => (0 : Int)) i.toNat (0 : Int).toNat (k - i).toNat j))) = A0 := ⟨_, rfl⟩
  refine xr_cpy (g := fun _ => (0 : Int)) rfl g33 g34 (show 64 ≤ A.1 by omega) (by omega) (by omega) (by omega) (by omega) (by omega) (by omega) (by omega) (Nat.le_of_ble_eq_true rfl) hf (xr_heap eA36 ?_)
  have g37 := xr_mv eA36 (xb_get_set_ne g34 g33 (by omega))
  have g38 := xr_mv eA36 (xb_get_set_same g34)
  have nA36 : A36.1 = A32.1 := by rw [← eA36]; rfl
  have f39 := yfr_mv eA36 (yfr_step_set f35 g34 (Or.inr (by omega)))
  refine xr_steps (pc' := 32) (L' := [(4, .ref A.1), (3, .int (Int32.ofInt (k - i))), (0, .ref v), (1, .int (Int32.ofInt i)), (2, .int (Int32.ofInt k))]) (st' := [.ref A.1]) 1 rfl ?_
  refine xr_retR rfl rfl ⟨_, rfl, _, rfl, g38, fun j hj => ?_, yfr_mono f39 (fun z hz => Or.inl hz) (by omega) (by omega), by omega⟩
  unfold va_cpy
  rw [if_pos (by omega)]
  first | rfl | (congr 1; omega)
theorem mk_51 {w : Value} {d : Nat} {A : xb_H} {v n : Nat} {f : Nat → Int} {i k : Int} (hr : 0 ≤ i ∧ i ≤ k ∧ k ≤ n) (hv : xb_get A v = some (.inl (.byte, n, .inl fun j => Int32.ofInt (f j)))) (hf : ∀ j : Nat, j < n → 0 ≤ f j ∧ f j ≤ 127) (hn : n ≤ 1000) (hA : 64 ≤ A.1) (hvz : i = 0 ∧ k = n → 64 ≤ v) : xr_ok (xt_G w) (d + 1 + 1) 51 0 [(0, .ref v), (1, .int (Int32.ofInt i)), (2, .int (Int32.ofInt k))] [] A (fun o A' => ∃ v0, o = .inl v0 ∧ ∃ g : Nat → Int, v0 = some (.ref A.1) ∧ xb_get A' A.1 = some (.inl (.byte, (k - i).toNat, .inl fun j => Int32.ofInt (g j))) ∧ (∀ j : Nat, j < (k - i).toNat → g j = f (i.toNat + j)) ∧ yfr A A' [] 1 (k - i).toNat ∧ A'.1 = A.1 + 1) := by
  have f31 := yfr_refl A [] 0 0
  refine xr_steps (pc' := 1) (L' := [(0, .ref v), (1, .int (Int32.ofInt i)), (2, .int (Int32.ofInt k))]) (st' := [.int (Int32.ofInt i)]) 1 rfl ?_
  refine xr_if_ne rfl (by omega) (fun z32 => ?_) (fun z32 => ?_)
  · refine xr_steps (pc' := 13) (L' := [(0, .ref v), (1, .int (Int32.ofInt i)), (2, .int (Int32.ofInt k))]) (st' := [.int (Int32.ofInt k), .int (Int32.ofInt i), .ref v]) 3 rfl ?_
    refine xr_call (q := (.invokestatic 339, 3, 52, 3)) (av := [.ref v, .int (Int32.ofInt i), .int (Int32.ofInt k)]) (rest := []) rfl rfl (by decide) rfl rfl (Nat.le_of_ble_eq_true rfl) (mk_52 hr hv hf hn hA) ?_
    rintro _ A9 ⟨g, rfl, k1, k2, k3, k4⟩
    exact xr_retR rfl rfl ⟨_, rfl, g, rfl, k1, k2, k3, k4⟩
  · refine xr_steps (pc' := 6) (L' := [(0, .ref v), (1, .int (Int32.ofInt i)), (2, .int (Int32.ofInt k))]) (st' := [.ref v, .int (Int32.ofInt k)]) 2 rfl ?_
    refine xr_alen rfl hv ?_
    refine xr_icmp_eq rfl (by omega) (by omega) (fun z33 => ?_) (fun z33 => ?_)
    · have hvz2 := hvz ⟨by omega, by omega⟩
      refine xr_steps (pc' := 18) (L' := [(0, .ref v), (1, .int (Int32.ofInt i)), (2, .int (Int32.ofInt k))]) (st' := [.ref v]) 1 rfl ?_
      obtain ⟨A34, eA34⟩ : ∃ A0, xb_new A n (.inl (.byte, n, .inl fun j => Int32.ofInt (f j))) = A0 := ⟨_, rfl⟩
      refine xr_clone rfl hv (show 64 ≤ v by omega) (by omega) (Nat.le_of_ble_eq_true rfl) hf (xr_heap eA34 ?_)
      have g35 := xr_mv eA34 (xb_get_new_old hv)
      have g36 := xr_mv eA34 xb_get_new_same
      have nA34 : A34.1 = A.1 + 1 := by rw [← eA34]; rfl
      have f37 := yfr_mv eA34 (yfr_step_new f31)
      refine xr_castB rfl g36 (show 64 ≤ A.1 by omega) rfl ?_
      have ek : (k - i).toNat = n := by omega
      rw [ek]
      exact xr_retR rfl rfl ⟨_, rfl, f, rfl, g36, fun j _ => by rw [show i.toNat + j = j by omega], yfr_mono f37 (fun z hz => Or.inl hz) (by omega) (by omega), by omega⟩
    · refine xr_steps (pc' := 13) (L' := [(0, .ref v), (1, .int (Int32.ofInt i)), (2, .int (Int32.ofInt k))]) (st' := [.int (Int32.ofInt k), .int (Int32.ofInt i), .ref v]) 3 rfl ?_
      refine xr_call (q := (.invokestatic 339, 3, 52, 3)) (av := [.ref v, .int (Int32.ofInt i), .int (Int32.ofInt k)]) (rest := []) rfl rfl (by decide) rfl rfl (Nat.le_of_ble_eq_true rfl) (mk_52 hr hv hf hn hA) ?_
      rintro _ A9 ⟨g, rfl, k1, k2, k3, k4⟩
      exact xr_retR rfl rfl ⟨_, rfl, g, rfl, k1, k2, k3, k4⟩
theorem mk_138 {w : Value} {d : Nat} {A : xb_H} {a v : Nat} (ha : xb_get A a = some (.inr (12, [.null, .int (Int32.ofInt 0), .int (Int32.ofInt 0), .int (Int32.ofInt 0)]))) (hz : 64 ≤ a) : xr_ok (xt_G w) (d + 1) 138 0 [(0, .ref a), (1, .ref v), (2, .int (Int32.ofInt 0))] [] A (fun o A' => ∃ v0, o = .inl v0 ∧ v0 = none ∧ xb_get A' a = some (.inr (12, [.ref v, .int (Int32.ofInt 0), .int (Int32.ofInt 0), .int (Int32.ofInt 0)])) ∧ yfr A A' [a] 0 0 ∧ A'.1 = A.1) := by
  have f31 := yfr_refl A [a] 0 0
  refine xr_steps (pc' := 1) (L' := [(0, .ref a), (1, .ref v), (2, .int (Int32.ofInt 0))]) (st' := [.ref a]) 1 rfl ?_
  refine xr_objI rfl (by omega) (by decide) ?_
  refine xr_steps (pc' := 6) (L' := [(0, .ref a), (1, .ref v), (2, .int (Int32.ofInt 0))]) (st' := [.ref v, .ref a]) 2 rfl ?_
  obtain ⟨A32, eA32⟩ : ∃ A0, xb_set A a (.inr (12, [.ref v, .int (Int32.ofInt 0), .int (Int32.ofInt 0), .int (Int32.ofInt 0)])) = A0 := ⟨_, rfl⟩
  refine xr_putf (t := .array (.byte)) rfl ha (show 64 ≤ a by omega) (Nat.le_of_ble_eq_true rfl) rfl (xr_fitR _ rfl) (xr_heap eA32 ?_)
  have g33 := xr_mv eA32 (xb_get_set_same ha)
  have nA32 : A32.1 = A.1 := by rw [← eA32]; rfl
  have f34 := yfr_mv eA32 (yfr_step_set f31 ha (Or.inl (by simp)))
  refine xr_steps (pc' := 11) (L' := [(0, .ref a), (1, .ref v), (2, .int (Int32.ofInt 0))]) (st' := [.int (Int32.ofInt 0), .ref a]) 2 rfl ?_
  obtain ⟨A35, eA35⟩ : ∃ A0, xb_set A32 a (.inr (12, [.ref v, .int (Int32.ofInt 0), .int (Int32.ofInt 0), .int (Int32.ofInt 0)])) = A0 := ⟨_, rfl⟩
  refine xr_putf (t := .byte) rfl g33 (show 64 ≤ a by omega) (Nat.le_of_ble_eq_true rfl) rfl rfl (xr_heap eA35 ?_)
  have g36 := xr_mv eA35 (xb_get_set_same g33)
  have nA35 : A35.1 = A32.1 := by rw [← eA35]; rfl
  have f37 := yfr_mv eA35 (yfr_step_set f34 g33 (Or.inl (by simp)))
  exact xr_retN rfl rfl ⟨_, rfl, rfl, g36, f37, by omega⟩
theorem mk_137 {w : Value} {d : Nat} {A : xb_H} {v n : Nat} {f : Nat → Int} {i l : Int} (hr : 0 ≤ i ∧ 1 ≤ l ∧ i + l ≤ n) (hx : ¬ (i = 0 ∧ l = n)) (hv : xb_get A v = some (.inl (.byte, n, .inl fun j => Int32.ofInt (f j)))) (hf : ∀ j : Nat, j < n → 0 ≤ f j ∧ f j ≤ 127) (hn : n ≤ 1000) (hA : 64 ≤ A.1) : xr_ok (xt_G w) (d + 1 + 1 + 1) 137 0 [(0, .ref v), (1, .int (Int32.ofInt i)), (2, .int (Int32.ofInt l))] [] A (fun o A' => ∃ v0, o = .inl v0 ∧ ∃ g : Nat → Int, v0 = some (.ref A.1) ∧ xb_get A' A.1 = some (.inr (12, [.ref (A.1 + 1), .int (Int32.ofInt 0), .int (Int32.ofInt 0), .int (Int32.ofInt 0)])) ∧ xb_get A' (A.1 + 1) = some (.inl (.byte, l.toNat, .inl fun j => Int32.ofInt (g j))) ∧ (∀ j : Nat, j < l.toNat → g j = f (i.toNat + j)) ∧ yfr A A' [] 2 (4 + l.toNat) ∧ A'.1 = A.1 + 2) := by
  have hlt := xb_get_lt hv
  have f31 := yfr_refl A [] 0 0
  refine xr_steps (pc' := 1) (L' := [(0, .ref v), (1, .int (Int32.ofInt i)), (2, .int (Int32.ofInt l))]) (st' := [.int (Int32.ofInt l)]) 1 rfl ?_
  refine xr_if_ne rfl (by omega) (fun z32 => ?_) (fun z32 => ?_)
  · obtain ⟨A33, eA33⟩ : ∃ A0, xb_new A 4 (.inr (12, [.null, .int (Int32.ofInt 0), .int (Int32.ofInt 0), .int (Int32.ofInt 0)])) = A0 := ⟨_, rfl⟩
    refine xr_newO rfl (xr_heap eA33 ?_)
    have g34 := xr_mv eA33 (xb_get_new_old hv)
    have g35 := xr_mv eA33 xb_get_new_same
    have nA33 : A33.1 = A.1 + 1 := by rw [← eA33]; rfl
    have f36 := yfr_mv eA33 (yfr_step_new f31)
    refine xr_steps (pc' := 15) (L' := [(0, .ref v), (1, .int (Int32.ofInt i)), (2, .int (Int32.ofInt l))]) (st' := [.int (Int32.ofInt l), .int (Int32.ofInt i), .int (Int32.ofInt i), .ref v, .ref A.1, .ref A.1]) 5 rfl ?_
    refine xr_iadd rfl ?_
    refine xr_call (q := (.invokestatic 232, 3, 51, 3)) (av := [.ref v, .int (Int32.ofInt i), .int (Int32.ofInt (i + l))]) (rest := [.ref A.1, .ref A.1]) rfl rfl (by decide) rfl rfl (Nat.le_of_ble_eq_true rfl) (mk_51 (by omega) g34 hf hn (by omega) (fun h => absurd h (by omega))) ?_
    rintro _ A8 ⟨g, rfl, k1, k2, k3, k4⟩
    have jv := yfr_get k3 g34 List.not_mem_nil
    have jA_1 := yfr_get k3 g35 List.not_mem_nil
    have k6 := yfr_trans f36 k3 (fun z hz => absurd hz List.not_mem_nil)
    refine xr_steps (pc' := 20) (L' := [(0, .ref v), (1, .int (Int32.ofInt i)), (2, .int (Int32.ofInt l))]) (st' := [.int (Int32.ofInt 0), .ref A33.1, .ref A.1, .ref A.1]) 1 rfl ?_
    refine xr_call (q := (.invokespecial 112, 3, 138, 3)) (av := [.ref A.1, .ref A33.1, .int (Int32.ofInt 0)]) (rest := [.ref A.1]) rfl rfl (by decide) rfl (xr_rcv rfl jA_1) (Nat.le_of_ble_eq_true rfl) (mk_138 jA_1 (by omega)) ?_
    rintro _ A7 ⟨rfl, l1, l2, l3⟩
    have mv := yfr_get l2 jv (by rw [List.mem_singleton]; omega)
    have mA33_1 := yfr_get l2 k1 (by rw [List.mem_singleton]; omega)
    have k7 := yfr_trans k6 l2 (fun z hz => Or.inr (by rw [List.mem_singleton] at hz; omega))
    have ea : A33.1 = A.1 + 1 := by omega
    have el : i + l - i = l := by omega
    rw [el] at k2 mA33_1
    rw [ea] at mA33_1 l1
    exact xr_retR rfl rfl ⟨_, rfl, g, rfl, l1, mA33_1, k2, yfr_mono k7 (fun z hz => Or.inl hz) (by omega) (by omega), by omega⟩
  · exfalso; omega
