/-! The class where there is no such interaction; make; questions about what is not listed -/
theorem xr_throw {G : xb_G} {d y pc idx k : Nat} {L : xb_L} {A : xb_H} {Q : xb_R → xb_H → Prop} (hq : xb_gP G y pc = some (.new idx, 3, k, 1)) (hd : 8 ≤ d) (hQ : Q (.inr k) (xb_thr A)) : xr_ok G d y pc L [] A Q := by
  refine ⟨1, .inr k, xb_thr A, ?_, hQ⟩
  rw [xb_run, hq]
  show (if (1 : Nat) = 0 then _ else if 8 ≤ d ∧ ([] : List Value) = [] then some (Sum.inr k, xb_thr A) else none) = _
  rw [if_neg (by decide), if_pos ⟨hd, rfl⟩]
theorem mc_109n {w : Value} {d : Nat} {A : xb_H} {k n : Int} (h64 : xb_get A 64 = some (.inr (0, [.ref 65, .ref 67, .int (Int32.ofInt n), .ref 68, .ref 71]))) (hk : -2147483648 ≤ k ∧ k ≤ 2147483647) (hn : 0 ≤ n ∧ n ≤ 4) (hx : ¬ (0 ≤ k ∧ k < n)) {cu : Nat} {A1 A2 : xb_H} (hT : xr_ok (xt_G w) (d + 8) 46 0 [(0, .ref 64)] [] A (fun o A' => ∃ v, o = .inl v ∧ v = some (.ref cu) ∧ A' = A1)) (hR : xr_ok (xt_G w) (d + 8) 110 0 [(0, .ref cu)] [] A1 (fun o A' => ∃ v, o = .inl v ∧ v = some .null ∧ A' = A2)) : xr_ok (xt_G w) (d + 8 + 1) 109 0 [(0, .ref 64), (1, .int (Int32.ofInt k))] [] A (fun o A' => o = .inr 1 ∧ A' = xb_thr A2) := by
  refine xr_steps (pc' := 2) (L' := [(0, .ref 64), (1, .int (Int32.ofInt k))]) (st' := [.int (Int32.ofInt k), .ref 64]) 2 rfl ?_
  refine xr_call (q := (.invokevirtual 58, 3, 39, 2)) (av := [.ref 64, .int (Int32.ofInt k)]) (rest := []) rfl rfl (by decide) rfl (xr_rcv rfl h64) (Nat.le_of_ble_eq_true rfl) (mc_39a h64 hk hn hx) ?_
  rintro _ _ ⟨rfl, eA⟩
  rw [eA]
  clear eA
  refine xr_steps (pc' := 7) (L' := [(2, .null), (0, .ref 64), (1, .int (Int32.ofInt k))]) (st' := [.ref 64]) 2 rfl ?_
  refine xr_call (q := (.invokevirtual 62, 3, 46, 1)) (av := [.ref 64]) (rest := []) rfl rfl (by decide) rfl (xr_rcv rfl h64) (Nat.le_of_ble_eq_true rfl) hT ?_
  rintro _ _ ⟨rfl, eA⟩
  rw [eA]
  clear eA
  refine xr_call (q := (.invokestatic 66, 3, 110, 1)) (av := [.ref cu]) (rest := []) rfl rfl (by decide) rfl rfl (Nat.le_of_ble_eq_true rfl) hR ?_
  rintro _ _ ⟨rfl, eA⟩
  rw [eA]
  clear eA
  refine xr_steps (pc' := 22) (L' := [(3, .null), (2, .null), (0, .ref 64), (1, .int (Int32.ofInt k))]) (st' := []) 3 rfl ?_
  exact xr_throw rfl (by omega) ⟨rfl, rfl⟩
theorem mc_152n {w : Value} {d : Nat} {A : xb_H} {k n : Int} (h64 : xb_get A 64 = some (.inr (0, [.ref 65, .ref 67, .int (Int32.ofInt n), .ref 68, .ref 71]))) (hk : -2147483648 ≤ k ∧ k ≤ 2147483647) (hn : 0 ≤ n ∧ n ≤ 4) (hx : ¬ (0 ≤ k ∧ k < n)) {cu : Nat} {A1 A2 : xb_H} (hT : xr_ok (xt_G w) (d + 8) 46 0 [(0, .ref 64)] [] A (fun o A' => ∃ v, o = .inl v ∧ v = some (.ref cu) ∧ A' = A1)) (hR : xr_ok (xt_G w) (d + 8) 153 0 [(0, .ref cu)] [] A1 (fun o A' => ∃ v, o = .inl v ∧ v = some .null ∧ A' = A2)) : xr_ok (xt_G w) (d + 8 + 1) 152 0 [(0, .ref 64), (1, .int (Int32.ofInt k))] [] A (fun o A' => o = .inr 1 ∧ A' = xb_thr A2) := by
  refine xr_steps (pc' := 2) (L' := [(0, .ref 64), (1, .int (Int32.ofInt k))]) (st' := [.int (Int32.ofInt k), .ref 64]) 2 rfl ?_
  refine xr_call (q := (.invokevirtual 58, 3, 39, 2)) (av := [.ref 64, .int (Int32.ofInt k)]) (rest := []) rfl rfl (by decide) rfl (xr_rcv rfl h64) (Nat.le_of_ble_eq_true rfl) (mc_39a h64 hk hn hx) ?_
  rintro _ _ ⟨rfl, eA⟩
  rw [eA]
  clear eA
  refine xr_steps (pc' := 7) (L' := [(2, .null), (0, .ref 64), (1, .int (Int32.ofInt k))]) (st' := [.ref 64]) 2 rfl ?_
  refine xr_call (q := (.invokevirtual 62, 3, 46, 1)) (av := [.ref 64]) (rest := []) rfl rfl (by decide) rfl (xr_rcv rfl h64) (Nat.le_of_ble_eq_true rfl) hT ?_
  rintro _ _ ⟨rfl, eA⟩
  rw [eA]
  clear eA
  refine xr_call (q := (.invokestatic 82, 3, 153, 1)) (av := [.ref cu]) (rest := []) rfl rfl (by decide) rfl rfl (Nat.le_of_ble_eq_true rfl) hR ?_
  rintro _ _ ⟨rfl, eA⟩
  rw [eA]
  clear eA
  refine xr_steps (pc' := 22) (L' := [(3, .null), (2, .null), (0, .ref 64), (1, .int (Int32.ofInt k))]) (st' := []) 3 rfl ?_
  exact xr_throw rfl (by omega) ⟨rfl, rfl⟩
theorem mc_163n {w : Value} {d : Nat} {A : xb_H} {k n : Int} (h64 : xb_get A 64 = some (.inr (0, [.ref 65, .ref 67, .int (Int32.ofInt n), .ref 68, .ref 71]))) (hk : -2147483648 ≤ k ∧ k ≤ 2147483647) (hn : 0 ≤ n ∧ n ≤ 4) (hx : ¬ (0 ≤ k ∧ k < n)) {cu : Nat} {A1 A2 : xb_H} (hT : xr_ok (xt_G w) (d + 8) 46 0 [(0, .ref 64)] [] A (fun o A' => ∃ v, o = .inl v ∧ v = some (.ref cu) ∧ A' = A1)) (hR : xr_ok (xt_G w) (d + 8) 110 0 [(0, .ref cu)] [] A1 (fun o A' => ∃ v, o = .inl v ∧ v = some .null ∧ A' = A2)) : xr_ok (xt_G w) (d + 8 + 1) 163 0 [(0, .ref 64), (1, .int (Int32.ofInt k))] [] A (fun o A' => o = .inr 1 ∧ A' = xb_thr A2) := by
  refine xr_steps (pc' := 2) (L' := [(0, .ref 64), (1, .int (Int32.ofInt k))]) (st' := [.int (Int32.ofInt k), .ref 64]) 2 rfl ?_
  refine xr_call (q := (.invokevirtual 58, 3, 39, 2)) (av := [.ref 64, .int (Int32.ofInt k)]) (rest := []) rfl rfl (by decide) rfl (xr_rcv rfl h64) (Nat.le_of_ble_eq_true rfl) (mc_39a h64 hk hn hx) ?_
  rintro _ _ ⟨rfl, eA⟩
  rw [eA]
  clear eA
  refine xr_steps (pc' := 7) (L' := [(2, .null), (0, .ref 64), (1, .int (Int32.ofInt k))]) (st' := [.ref 64]) 2 rfl ?_
  refine xr_call (q := (.invokevirtual 62, 3, 46, 1)) (av := [.ref 64]) (rest := []) rfl rfl (by decide) rfl (xr_rcv rfl h64) (Nat.le_of_ble_eq_true rfl) hT ?_
  rintro _ _ ⟨rfl, eA⟩
  rw [eA]
  clear eA
  refine xr_call (q := (.invokestatic 66, 3, 110, 1)) (av := [.ref cu]) (rest := []) rfl rfl (by decide) rfl rfl (Nat.le_of_ble_eq_true rfl) hR ?_
  rintro _ _ ⟨rfl, eA⟩
  rw [eA]
  clear eA
  refine xr_steps (pc' := 22) (L' := [(3, .null), (2, .null), (0, .ref 64), (1, .int (Int32.ofInt k))]) (st' := []) 3 rfl ?_
  exact xr_throw rfl (by omega) ⟨rfl, rfl⟩
theorem mc_45n {w : Value} {d : Nat} {A : xb_H} {k n : Int} (h64 : xb_get A 64 = some (.inr (0, [.ref 65, .ref 67, .int (Int32.ofInt n), .ref 68, .ref 71]))) (hk : -2147483648 ≤ k ∧ k ≤ 2147483647) (hn : 0 ≤ n ∧ n ≤ 4) (hx : ¬ (0 ≤ k ∧ k < n)) {cu : Nat} {A1 A2 : xb_H} (hT : xr_ok (xt_G w) (d + 8) 46 0 [(0, .ref 64)] [] A (fun o A' => ∃ v, o = .inl v ∧ v = some (.ref cu) ∧ A' = A1)) (hR : xr_ok (xt_G w) (d + 8) 65 0 [(0, .ref cu)] [] A1 (fun o A' => ∃ v, o = .inl v ∧ v = some .null ∧ A' = A2)) : xr_ok (xt_G w) (d + 8 + 1) 45 0 [(0, .ref 64), (1, .int (Int32.ofInt k))] [] A (fun o A' => ∃ v, o = .inl v ∧ v = some (.int (Int32.ofInt (-1))) ∧ A' = A2) := by
  refine xr_steps (pc' := 2) (L' := [(0, .ref 64), (1, .int (Int32.ofInt k))]) (st' := [.int (Int32.ofInt k), .ref 64]) 2 rfl ?_
  refine xr_call (q := (.invokevirtual 58, 3, 39, 2)) (av := [.ref 64, .int (Int32.ofInt k)]) (rest := []) rfl rfl (by decide) rfl (xr_rcv rfl h64) (Nat.le_of_ble_eq_true rfl) (mc_39a h64 hk hn hx) ?_
  rintro _ _ ⟨rfl, eA⟩
  rw [eA]
  clear eA
  refine xr_steps (pc' := 7) (L' := [(2, .null), (0, .ref 64), (1, .int (Int32.ofInt k))]) (st' := [.ref 64]) 2 rfl ?_
  refine xr_call (q := (.invokevirtual 62, 3, 46, 1)) (av := [.ref 64]) (rest := []) rfl rfl (by decide) rfl (xr_rcv rfl h64) (Nat.le_of_ble_eq_true rfl) hT ?_
  rintro _ _ ⟨rfl, eA⟩
  rw [eA]
  clear eA
  refine xr_call (q := (.invokestatic 102, 3, 65, 1)) (av := [.ref cu]) (rest := []) rfl rfl (by decide) rfl rfl (Nat.le_of_ble_eq_true rfl) hR ?_
  rintro _ _ ⟨rfl, eA⟩
  rw [eA]
  clear eA
  refine xr_steps (pc' := 23) (L' := [(3, .null), (2, .null), (0, .ref 64), (1, .int (Int32.ofInt k))]) (st' := [.int (Int32.ofInt (-1))]) 4 rfl ?_
  exact xr_retI2 rfl rfl ⟨_, rfl, rfl, rfl⟩
theorem mc_38n {w : Value} {d : Nat} {A : xb_H} {k n z : Int} (h64 : xb_get A 64 = some (.inr (0, [.ref 65, .ref 67, .int (Int32.ofInt n), .ref 68, .ref 71]))) (hk : -2147483648 ≤ k ∧ k ≤ 2147483647) (hz : -2147483648 ≤ z ∧ z ≤ 2147483647) (hn : 0 ≤ n ∧ n ≤ 4) (hx : ¬ (0 ≤ k ∧ k < n)) : xr_ok (xt_G w) (d + 1) 38 0 [(0, .ref 64), (1, .int (Int32.ofInt k)), (2, .int (Int32.ofInt z))] [] A (fun o A' => ∃ v, o = .inl v ∧ v = some (.int (Int32.ofInt 0)) ∧ A' = A) := by
  refine xr_steps (pc' := 2) (L' := [(0, .ref 64), (1, .int (Int32.ofInt k)), (2, .int (Int32.ofInt z))]) (st' := [.int (Int32.ofInt k), .ref 64]) 2 rfl ?_
  refine xr_call (q := (.invokevirtual 58, 3, 39, 2)) (av := [.ref 64, .int (Int32.ofInt k)]) (rest := []) rfl rfl (by decide) rfl (xr_rcv rfl h64) (Nat.le_of_ble_eq_true rfl) (mc_39a h64 hk hn hx) ?_
  rintro _ _ ⟨rfl, eA⟩
  rw [eA]
  clear eA
  refine xr_steps (pc' := 30) (L' := [(3, .null), (0, .ref 64), (1, .int (Int32.ofInt k)), (2, .int (Int32.ofInt z))]) (st' := [.int (Int32.ofInt 0)]) 4 rfl ?_
  exact xr_retZ rfl rfl (by omega) ⟨_, rfl, rfl, rfl⟩
theorem mc_94n {w : Value} {d : Nat} {A : xb_H} {k fd : Int} {ir : Value} (h71 : xb_get A 71 = some (.inr (1, [.ref 72, .ref 74, .int (Int32.ofInt fd), ir]))) (hk : -2147483648 ≤ k ∧ k ≤ 2147483647) (hf : 0 ≤ fd ∧ fd ≤ 100000) (hx : ¬ (0 ≤ k ∧ k < fd)) : xr_ok (xt_G w) (d + 1) 94 0 [(0, .ref 71), (1, .int (Int32.ofInt k))] [] A (fun o A' => ∃ v, o = .inl v ∧ v = some (.null) ∧ A' = A) := by
  refine xr_steps (pc' := 1) (L' := [(0, .ref 71), (1, .int (Int32.ofInt k))]) (st' := [.int (Int32.ofInt k)]) 1 rfl ?_
  refine xr_if_lt rfl (by omega) (fun z1 => ?_) (fun z1 => ?_)
  · refine xr_steps (pc' := 22) (L' := [(0, .ref 71), (1, .int (Int32.ofInt k))]) (st' := [.null]) 1 rfl ?_
    exact xr_retNull rfl rfl ⟨_, rfl, rfl, rfl⟩
  · refine xr_steps (pc' := 6) (L' := [(0, .ref 71), (1, .int (Int32.ofInt k))]) (st' := [.ref 71, .int (Int32.ofInt k)]) 2 rfl ?_
    obtain ⟨lc, hlc⟩ : ∃ lc : Int, lc = if fd < 30 then fd else 30 := ⟨_, rfl⟩
    have hlc2 : lc ≤ fd ∧ 0 ≤ lc := by rw [hlc]; split <;> omega
    refine xr_call (q := (.invokevirtual 48, 3, 92, 1)) (av := [.ref 71]) (rest := [.int (Int32.ofInt k)]) rfl rfl (by decide) rfl (xr_rcv rfl h71) (Nat.le_of_ble_eq_true rfl) (mc_92 (r := lc) h71 hf hlc) ?_
    rintro _ _ ⟨rfl, eA⟩
    rw [eA]
    clear eA
    refine xr_icmp_ge rfl (by omega) (by omega) (fun z2 => ?_) (fun z2 => ?_)
    · refine xr_steps (pc' := 22) (L' := [(0, .ref 71), (1, .int (Int32.ofInt k))]) (st' := [.null]) 1 rfl ?_
      exact xr_retNull rfl rfl ⟨_, rfl, rfl, rfl⟩
    · exfalso; omega
theorem mc_93n {w : Value} {d : Nat} {A : xb_H} {k n fd : Int} {ir : Value} (h64 : xb_get A 64 = some (.inr (0, [.ref 65, .ref 67, .int (Int32.ofInt n), .ref 68, .ref 71]))) (h71 : xb_get A 71 = some (.inr (1, [.ref 72, .ref 74, .int (Int32.ofInt fd), ir]))) (hk : -2147483648 ≤ k ∧ k ≤ 2147483647) (hf : 0 ≤ fd ∧ fd ≤ 100000) (hx : ¬ (0 ≤ k ∧ k < fd)) : xr_ok (xt_G w) (d + 1 + 1) 93 0 [(0, .ref 64), (1, .int (Int32.ofInt k))] [] A (fun o A' => ∃ v, o = .inl v ∧ v = some (.int (Int32.ofInt (-1))) ∧ A' = A) := by
  refine xr_steps (pc' := 1) (L' := [(0, .ref 64), (1, .int (Int32.ofInt k))]) (st' := [.ref 64]) 1 rfl ?_
  refine xr_getf (v := .ref 71) rfl h64 rfl ?_
  refine xr_steps (pc' := 5) (L' := [(0, .ref 64), (1, .int (Int32.ofInt k))]) (st' := [.int (Int32.ofInt k), .ref 71]) 1 rfl ?_
  refine xr_call (q := (.invokevirtual 134, 3, 94, 2)) (av := [.ref 71, .int (Int32.ofInt k)]) (rest := []) rfl rfl (by decide) rfl (xr_rcv rfl h71) (Nat.le_of_ble_eq_true rfl) (mc_94n h71 hk hf hx) ?_
  rintro _ _ ⟨rfl, eA⟩
  rw [eA]
  clear eA
  refine xr_steps (pc' := 21) (L' := [(2, .null), (0, .ref 64), (1, .int (Int32.ofInt k))]) (st' := [.int (Int32.ofInt (-1))]) 5 rfl ?_
  exact xr_retI2 rfl rfl ⟨_, rfl, rfl, rfl⟩
theorem mc_96n {w : Value} {d : Nat} {A : xb_H} {k n z fd : Int} {ir : Value} (h64 : xb_get A 64 = some (.inr (0, [.ref 65, .ref 67, .int (Int32.ofInt n), .ref 68, .ref 71]))) (h71 : xb_get A 71 = some (.inr (1, [.ref 72, .ref 74, .int (Int32.ofInt fd), ir]))) (hk : -2147483648 ≤ k ∧ k ≤ 2147483647) (hf : 0 ≤ fd ∧ fd ≤ 100000) (hx : ¬ (0 ≤ k ∧ k < fd)) : xr_ok (xt_G w) (d + 1 + 1) 96 0 [(0, .ref 64), (1, .int (Int32.ofInt k)), (2, .int (Int32.ofInt z))] [] A (fun o A' => ∃ v, o = .inl v ∧ v = some (.int (Int32.ofInt (-1))) ∧ A' = A) := by
  refine xr_steps (pc' := 1) (L' := [(0, .ref 64), (1, .int (Int32.ofInt k)), (2, .int (Int32.ofInt z))]) (st' := [.ref 64]) 1 rfl ?_
  refine xr_getf (v := .ref 71) rfl h64 rfl ?_
  refine xr_steps (pc' := 5) (L' := [(0, .ref 64), (1, .int (Int32.ofInt k)), (2, .int (Int32.ofInt z))]) (st' := [.int (Int32.ofInt k), .ref 71]) 1 rfl ?_
  refine xr_call (q := (.invokevirtual 134, 3, 94, 2)) (av := [.ref 71, .int (Int32.ofInt k)]) (rest := []) rfl rfl (by decide) rfl (xr_rcv rfl h71) (Nat.le_of_ble_eq_true rfl) (mc_94n h71 hk hf hx) ?_
  rintro _ _ ⟨rfl, eA⟩
  rw [eA]
  clear eA
  refine xr_steps (pc' := 22) (L' := [(3, .null), (0, .ref 64), (1, .int (Int32.ofInt k)), (2, .int (Int32.ofInt z))]) (st' := [.int (Int32.ofInt (-1))]) 5 rfl ?_
  exact xr_retI2 rfl rfl ⟨_, rfl, rfl, rfl⟩
theorem yfr_mv {A B C : xb_H} {M : List Nat} {p q : Nat} (e : B = C) (h : yfr A B M p q) : yfr A C M p q := by
  rw [← e]
  exact h
theorem yfr_step_set {A B : xb_H} {a : Nat} {o o' : xb_O} {M : List Nat} {p q : Nat} (h : yfr A B M p q) (hc : xb_get B a = some o') (ha : a ∈ M ∨ A.1 ≤ a) : yfr A (xb_set B a o) M p q :=
  yfr_trans h (yfr_set hc (List.mem_singleton.mpr rfl) 0 0) (fun x hx => by rw [List.mem_singleton] at hx; rw [hx]; exact ha)
theorem yfr_step_new {A B : xb_H} {n : Nat} {o : xb_O} {M : List Nat} {p q : Nat} (h : yfr A B M p q) : yfr A (xb_new B n o) M (p + 1) (q + n) :=
  yfr_trans h (yfr_new [] (Nat.le_refl 1) (Nat.le_refl n)) (fun x hx => absurd hx List.not_mem_nil)
theorem mc_108 {w : Value} {d : Nat} {A : xb_H} {a : Nat} {x : Int} (ha : xb_get A a = some (.inr (3, [.int (Int32.ofInt 0), .null, .int (Int32.ofInt 0), .null, .int (Int32.ofInt 0), .null]))) (hz : 64 ≤ a) (hx : 0 ≤ x ∧ x ≤ 1) : xr_ok (xt_G w) (d + 1) 108 0 [(0, .ref a), (1, .int (Int32.ofInt x))] [] A (fun o A' => ∃ v, o = .inl v ∧ v = none ∧ xb_get A' a = some (.inr (3, [.int (Int32.ofInt x), .ref A.1, .int (Int32.ofInt 0), .ref (A.1 + 1), .int (Int32.ofInt 0), .null])) ∧ xb_get A' A.1 = some (.inl (.object "ContractDesk$Rule", 8, .inr (.inr fun _ => none))) ∧ xb_get A' (A.1 + 1) = some (.inl (.int, 3, .inl fun _ => Int32.ofInt 0)) ∧ yfr A A' [a] (0 + 1 + 1) (0 + 8 + 3) ∧ A'.1 = A.1 + 2) := by
  have hlt := xb_get_lt ha
  have f11 := yfr_refl A [a] 0 0
  refine xr_steps (pc' := 1) (L' := [(0, .ref a), (1, .int (Int32.ofInt x))]) (st' := [.ref a]) 1 rfl ?_
  refine xr_objI rfl (by omega) (by decide) ?_
  refine xr_steps (pc' := 6) (L' := [(0, .ref a), (1, .int (Int32.ofInt x))]) (st' := [.int (Int32.ofInt x), .ref a]) 2 rfl ?_
  obtain ⟨A12, eA12⟩ : ∃ A0, xb_set A a (.inr (3, [.int (Int32.ofInt x), .null, .int (Int32.ofInt 0), .null, .int (Int32.ofInt 0), .null])) = A0 := ⟨_, rfl⟩
  refine xr_putf (t := .boolean) rfl ha (show 64 ≤ a by omega) (Nat.le_of_ble_eq_true rfl) rfl (xr_fitZ (by omega)) (xr_heap eA12 ?_)
  have g13 := xr_mv eA12 (xb_get_set_same ha)
  have nA12 : A12.1 = A.1 := by rw [← eA12]; rfl
  have f14 := yfr_mv eA12 (yfr_step_set f11 ha (Or.inl (by simp)))
  refine xr_steps (pc' := 12) (L' := [(0, .ref a), (1, .int (Int32.ofInt x))]) (st' := [.int (Int32.ofInt 8), .ref a]) 2 rfl ?_
  obtain ⟨A15, eA15⟩ : ∃ A0, xb_new A12 8 (.inl (.object "ContractDesk$Rule", 8, .inr (.inr fun _ => none))) = A0 := ⟨_, rfl⟩
  refine xr_newAA rfl (by omega) rfl (xr_heap eA15 ?_)
  have g16 := xr_mv eA15 (xb_get_new_old g13)
  have g17 := xr_mv eA15 xb_get_new_same
  have nA15 : A15.1 = A12.1 + 1 := by rw [← eA15]; rfl
  have f18 := yfr_mv eA15 (yfr_step_new f14)
  obtain ⟨A19, eA19⟩ : ∃ A0, xb_set A15 a (.inr (3, [.int (Int32.ofInt x), .ref A12.1, .int (Int32.ofInt 0), .null, .int (Int32.ofInt 0), .null])) = A0 := ⟨_, rfl⟩
  refine xr_putf (t := .array (.object "ContractDesk$Rule")) rfl g16 (show 64 ≤ a by omega) (Nat.le_of_ble_eq_true rfl) rfl (xr_fitR _ rfl) (xr_heap eA19 ?_)
  have g20 := xr_mv eA19 (xb_get_set_same g16)
  have g21 := xr_mv eA19 (xb_get_set_ne g16 g17 (by omega))
  have nA19 : A19.1 = A15.1 := by rw [← eA19]; rfl
  have f22 := yfr_mv eA19 (yfr_step_set f18 g16 (Or.inl (by simp)))
  refine xr_steps (pc' := 20) (L' := [(0, .ref a), (1, .int (Int32.ofInt x))]) (st' := [.int (Int32.ofInt 3), .ref a]) 2 rfl ?_
  obtain ⟨A23, eA23⟩ : ∃ A0, xb_new A19 3 (.inl (.int, 3, .inl fun _ => Int32.ofInt 0)) = A0 := ⟨_, rfl⟩
  refine xr_newA rfl (by omega) rfl (xr_heap eA23 ?_)
  have g24 := xr_mv eA23 (xb_get_new_old g20)
  have g25 := xr_mv eA23 (xb_get_new_old g21)
  have g26 := xr_mv eA23 xb_get_new_same
  have nA23 : A23.1 = A19.1 + 1 := by rw [← eA23]; rfl
  have f27 := yfr_mv eA23 (yfr_step_new f22)
  obtain ⟨A28, eA28⟩ : ∃ A0, xb_set A23 a (.inr (3, [.int (Int32.ofInt x), .ref A12.1, .int (Int32.ofInt 0), .ref A19.1, .int (Int32.ofInt 0), .null])) = A0 := ⟨_, rfl⟩
  refine xr_putf (t := .array (.int)) rfl g24 (show 64 ≤ a by omega) (Nat.le_of_ble_eq_true rfl) rfl (xr_fitR _ rfl) (xr_heap eA28 ?_)
  have g29 := xr_mv eA28 (xb_get_set_same g24)
  have g30 := xr_mv eA28 (xb_get_set_ne g24 g25 (by omega))
  have g31 := xr_mv eA28 (xb_get_set_ne g24 g26 (by omega))
  have nA28 : A28.1 = A23.1 := by rw [← eA28]; rfl
  have f32 := yfr_mv eA28 (yfr_step_set f27 g24 (Or.inl (by simp)))
  have e1 : A12.1 = A.1 := by omega
  have e2 : A19.1 = A.1 + 1 := by omega
  rw [e1, e2] at g29
  rw [e1] at g30
  rw [e2] at g31
  exact xr_retN rfl rfl ⟨_, rfl, rfl, g29, g30, g31, f32, by omega⟩
/-- make, where there is room -/
theorem mc_103 {w : Value} {d : Nat} {A : xb_H} {n x : Int} {ia : Nat → Option Nat} (h64 : xb_get A 64 = some (.inr (0, [.ref 65, .ref 67, .int (Int32.ofInt n), .ref 68, .ref 71]))) (h67 : xb_get A 67 = some (.inl ((.object "ContractDesk$Interaction"), 4, .inr (.inr ia)))) (hn : 0 ≤ n ∧ n ≤ 3) (hx : 0 ≤ x ∧ x ≤ 1) : xr_ok (xt_G w) (d + 1 + 1) 103 0 [(0, .ref 64), (1, .int (Int32.ofInt x))] [] A (fun o A' => ∃ v, o = .inl v ∧ v = some (.int (Int32.ofInt n)) ∧ xb_get A' 64 = some (.inr (0, [.ref 65, .ref 67, .int (Int32.ofInt (n + 1)), .ref 68, .ref 71])) ∧ xb_get A' 67 = some (.inl (.object "ContractDesk$Interaction", 4, .inr (.inr (va_up ia n.toNat (some A.1))))) ∧ xb_get A' A.1 = some (.inr (3, [.int (Int32.ofInt x), .ref (A.1 + 1), .int (Int32.ofInt 0), .ref (A.1 + 1 + 1), .int (Int32.ofInt 0), .null])) ∧ xb_get A' (A.1 + 1) = some (.inl (.object "ContractDesk$Rule", 8, .inr (.inr fun _ => none))) ∧ xb_get A' (A.1 + 1 + 1) = some (.inl (.int, 3, .inl fun _ => Int32.ofInt 0)) ∧ yfr A A' [64, 67] 3 17 ∧ A'.1 = A.1 + 3) := by
  have hlt := xb_get_lt h67
  have f11 := yfr_refl A [64, 67] 0 0
  refine xr_steps (pc' := 1) (L' := [(0, .ref 64), (1, .int (Int32.ofInt x))]) (st' := [.ref 64]) 1 rfl ?_
  refine xr_getf (v := .int (Int32.ofInt n)) rfl h64 rfl ?_
  refine xr_steps (pc' := 5) (L' := [(0, .ref 64), (1, .int (Int32.ofInt x))]) (st' := [.int (Int32.ofInt 4), .int (Int32.ofInt n)]) 1 rfl ?_
  refine xr_icmp_lt rfl (by omega) (by omega) (fun z12 => ?_) (fun z12 => ?_)
  · refine xr_steps (pc' := 17) (L' := [(0, .ref 64), (1, .int (Int32.ofInt x))]) (st' := [.ref 64]) 1 rfl ?_
    refine xr_getf (v := .ref 67) rfl h64 rfl ?_
    refine xr_steps (pc' := 21) (L' := [(0, .ref 64), (1, .int (Int32.ofInt x))]) (st' := [.ref 64, .ref 67]) 1 rfl ?_
    refine xr_getf (v := .int (Int32.ofInt n)) rfl h64 rfl ?_
    obtain ⟨A13, eA13⟩ : ∃ A0, xb_new A 6 (.inr (3, [.int (Int32.ofInt 0), .null, .int (Int32.ofInt 0), .null, .int (Int32.ofInt 0), .null])) = A0 := ⟨_, rfl⟩
    refine xr_newO rfl (xr_heap eA13 ?_)
    have g14 := xr_mv eA13 (xb_get_new_old h64)
    have g15 := xr_mv eA13 (xb_get_new_old h67)
    have g16 := xr_mv eA13 xb_get_new_same
    have nA13 : A13.1 = A.1 + 1 := by rw [← eA13]; rfl
    have f17 := yfr_mv eA13 (yfr_step_new f11)
    refine xr_steps (pc' := 29) (L' := [(0, .ref 64), (1, .int (Int32.ofInt x))]) (st' := [.int (Int32.ofInt x), .ref A.1, .ref A.1, .int (Int32.ofInt n), .ref 67]) 2 rfl ?_
    refine xr_call (q := (.invokespecial 55, 3, 108, 2)) (av := [.ref A.1, .int (Int32.ofInt x)]) (rest := [.ref A.1, .int (Int32.ofInt n), .ref 67]) rfl rfl (by decide) rfl (xr_rcv rfl g16) (Nat.le_of_ble_eq_true rfl) (mc_108 g16 (by omega) hx) ?_
    rintro _ A8 ⟨rfl, k1, k2, k3, k4, k5⟩
    have k64 := yfr_get k4 g14 (by simp only [List.mem_singleton]; omega)
    have k67 := yfr_get k4 g15 (by simp only [List.mem_singleton]; omega)
    have ea1 : A13.1 = A.1 + 1 := by omega
    rw [ea1] at k1 k2 k3
    have k6 := yfr_trans f17 k4 (fun z hz => Or.inr (by rw [List.mem_singleton] at hz; omega))
    obtain ⟨A18, eA18⟩ : ∃ A0, xb_set A8 67 (.inl ((.object "ContractDesk$Interaction"), 4, .inr (.inr (va_up ia n.toNat (some A.1))))) = A0 := ⟨_, rfl⟩
    refine xr_aastore rfl k67 k1 rfl (by decide) (by omega) (by omega) (by omega) (xr_heap eA18 ?_)
    have g19 := xr_mv eA18 (xb_get_set_ne k67 k64 (by decide))
    have g20 := xr_mv eA18 (xb_get_set_same k67)
    have g21 := xr_mv eA18 (xb_get_set_ne k67 k1 (by omega))
    have g22 := xr_mv eA18 (xb_get_set_ne k67 k2 (by omega))
    have g23 := xr_mv eA18 (xb_get_set_ne k67 k3 (by omega))
    have nA18 : A18.1 = A8.1 := by rw [← eA18]; rfl
    have f24 := yfr_mv eA18 (yfr_step_set k6 k67 (Or.inl (by simp)))
    refine xr_steps (pc' := 35) (L' := [(0, .ref 64), (1, .int (Int32.ofInt x))]) (st' := [.ref 64, .ref 64]) 2 rfl ?_
    refine xr_getf (v := .int (Int32.ofInt n)) rfl g19 rfl ?_
    refine xr_steps (pc' := 40) (L' := [(0, .ref 64), (1, .int (Int32.ofInt x))]) (st' := [.int (Int32.ofInt 1), .int (Int32.ofInt n), .ref 64, .int (Int32.ofInt n)]) 2 rfl ?_
    refine xr_iadd rfl ?_
    obtain ⟨A25, eA25⟩ : ∃ A0, xb_set A18 64 (.inr (0, [.ref 65, .ref 67, .int (Int32.ofInt (n + 1)), .ref 68, .ref 71])) = A0 := ⟨_, rfl⟩
    refine xr_putf (t := .int) rfl g19 (by decide) (Nat.le_of_ble_eq_true rfl) rfl (xr_fitI _) (xr_heap eA25 ?_)
    have g26 := xr_mv eA25 (xb_get_set_same g19)
    have g27 := xr_mv eA25 (xb_get_set_ne g19 g20 (by decide))
    have g28 := xr_mv eA25 (xb_get_set_ne g19 g21 (by omega))
    have g29 := xr_mv eA25 (xb_get_set_ne g19 g22 (by omega))
    have g30 := xr_mv eA25 (xb_get_set_ne g19 g23 (by omega))
    have nA25 : A25.1 = A18.1 := by rw [← eA25]; rfl
    have f31 := yfr_mv eA25 (yfr_step_set f24 g19 (Or.inl (by simp)))
    exact xr_retI2 rfl rfl ⟨_, rfl, rfl, g26, g27, g28, g29, g30, yfr_mono f31 (fun z hz => Or.inl hz) (by omega) (by omega), by omega⟩
  · exfalso; omega
