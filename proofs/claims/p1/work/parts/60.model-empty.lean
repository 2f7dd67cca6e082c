/-! The reference on an empty text, without interactions -/
theorem mo_209z {w : Value} {d : Nat} {A : xb_H} {s : Nat → Int} {t : Nat → Nat → Int} {p : Int} (hA : 194 ≤ A.1) (hp : -2147483648 ≤ p ∧ p ≤ 2147483647) (h2 : s 2 = 0) : xr_ok (xt_G w) d 209 0 [(0, .ref 165), (1, .int (Int32.ofInt p))] [] (ym A s t) (fun o A' => ∃ v, o = .inl v ∧ v = some (.int (Int32.ofInt 32)) ∧ A' = ym A s t) := by
  refine xr_steps (pc' := 4) (L' := [(0, .ref 165), (1, .int (Int32.ofInt p))]) (st' := [.int (Int32.ofInt 400), .int (Int32.ofInt p)]) 2 rfl ?_
  refine xr_icmp_lt rfl (by omega) (by omega) (fun z1 => ?_) (fun z1 => ?_)
  · refine xr_steps (pc' := 30) (L' := [(0, .ref 165), (1, .int (Int32.ofInt p))]) (st' := [.int (Int32.ofInt 32)]) 1 rfl ?_
    exact xr_retCh rfl rfl (by omega) ⟨_, rfl, rfl, rfl⟩
  · refine xr_steps (pc' := 12) (L' := [(0, .ref 165), (1, .int (Int32.ofInt p))]) (st' := [.ref 165, .int (Int32.ofInt 400), .int (Int32.ofInt p)]) 3 rfl ?_
    refine xr_getf (v := .int (Int32.ofInt (s 2))) rfl (ym_165 hA) rfl ?_
    refine xr_iadd rfl ?_
    refine xr_icmp_ge rfl (by omega) (by omega) (fun z2 => ?_) (fun z2 => ?_)
    · refine xr_steps (pc' := 30) (L' := [(0, .ref 165), (1, .int (Int32.ofInt p))]) (st' := [.int (Int32.ofInt 32)]) 1 rfl ?_
      exact xr_retCh rfl rfl (by omega) ⟨_, rfl, rfl, rfl⟩
    · exfalso; omega
theorem mo_208z {w : Value} {d : Nat} {A : xb_H} {s : Nat → Int} {t : Nat → Nat → Int}  (hA : 194 ≤ A.1) (h2 : s 2 = 0) : xr_ok (xt_G w) d 208 0 [(0, .ref 165)] [] (ym A s t) (fun o A' => ∃ v, o = .inl v ∧ v = some (.int (Int32.ofInt (-1))) ∧ A' = ym A s t) := by
  refine xr_steps (pc' := 15) (L' := [(4, .int (Int32.ofInt 400)), (3, .int (Int32.ofInt 0)), (2, .int (Int32.ofInt 0)), (1, .int (Int32.ofInt 0)), (0, .ref 165)]) (st' := [.ref 165, .int (Int32.ofInt 400)]) 10 rfl ?_
  refine xr_getf (v := .int (Int32.ofInt (s 2))) rfl (ym_165 hA) rfl ?_
  refine xr_iadd rfl ?_
  refine xr_steps (pc' := 25) (L' := [(5, .int (Int32.ofInt (400 + (s 2)))), (4, .int (Int32.ofInt 400)), (3, .int (Int32.ofInt 0)), (2, .int (Int32.ofInt 0)), (1, .int (Int32.ofInt 0)), (0, .ref 165)]) (st' := [.int (Int32.ofInt (400 + (s 2))), .int (Int32.ofInt 400)]) 3 rfl ?_
  refine xr_icmp_ge rfl (by omega) (by omega) (fun z1 => ?_) (fun z1 => ?_)
  · refine xr_steps (pc' := 350) (L' := [(5, .int (Int32.ofInt (400 + (s 2)))), (4, .int (Int32.ofInt 400)), (3, .int (Int32.ofInt 0)), (2, .int (Int32.ofInt 0)), (1, .int (Int32.ofInt 0)), (0, .ref 165)]) (st' := [.int (Int32.ofInt 0)]) 1 rfl ?_
    refine xr_if_ne rfl (by omega) (fun z2 => ?_) (fun z2 => ?_)
    · exfalso; omega
    · refine xr_steps (pc' := 355) (L' := [(5, .int (Int32.ofInt (400 + (s 2)))), (4, .int (Int32.ofInt 400)), (3, .int (Int32.ofInt 0)), (2, .int (Int32.ofInt 0)), (1, .int (Int32.ofInt 0)), (0, .ref 165)]) (st' := [.int (Int32.ofInt 1), .int (Int32.ofInt 0)]) 2 rfl ?_
      refine xr_icmp_ne rfl (by omega) (by omega) (fun z3 => ?_) (fun z3 => ?_)
      · refine xr_steps (pc' := 363) (L' := [(5, .int (Int32.ofInt (400 + (s 2)))), (4, .int (Int32.ofInt 400)), (3, .int (Int32.ofInt 0)), (2, .int (Int32.ofInt 0)), (1, .int (Int32.ofInt 0)), (0, .ref 165)]) (st' := [.int (Int32.ofInt (-1))]) 1 rfl ?_
        exact xr_retI2 rfl rfl ⟨_, rfl, rfl, rfl⟩
      · exfalso; omega
  · exfalso; omega
theorem mo_229z {w : Value} {d : Nat} {A : xb_H} {s : Nat → Int} {t : Nat → Nat → Int} {p : Int} (hA : 194 ≤ A.1) (hp : -2147483648 ≤ p ∧ p ≤ 2147483647) (h2 : s 2 = 0) : xr_ok (xt_G w) (d + 1) 229 0 [(0, .ref 165), (1, .int (Int32.ofInt p))] [] (ym A s t) (fun o A' => ∃ v, o = .inl v ∧ v = some (.int (Int32.ofInt (-1))) ∧ A' = ym A s t) := by
  refine xr_steps (pc' := 2) (L' := [(0, .ref 165), (1, .int (Int32.ofInt p))]) (st' := [.int (Int32.ofInt p), .ref 165]) 2 rfl ?_
  refine xr_call (q := (.invokevirtual 103, 3, 209, 2)) (av := [.ref 165, .int (Int32.ofInt p)]) (rest := []) rfl rfl (by decide) rfl (ym_rcv hA rfl) (Nat.le_of_ble_eq_true rfl) (mo_209z hA (by omega) h2) ?_
  rintro _ _ ⟨rfl, eA⟩
  rw [eA]
  clear eA
  refine xr_steps (pc' := 7) (L' := [(0, .ref 165), (1, .int (Int32.ofInt p))]) (st' := [.int (Int32.ofInt 46), .int (Int32.ofInt 32)]) 1 rfl ?_
  refine xr_icmp_ne rfl (by omega) (by omega) (fun z1 => ?_) (fun z1 => ?_)
  · refine xr_steps (pc' := 45) (L' := [(0, .ref 165), (1, .int (Int32.ofInt p))]) (st' := [.int (Int32.ofInt p), .ref 165]) 2 rfl ?_
    refine xr_call (q := (.invokevirtual 103, 3, 209, 2)) (av := [.ref 165, .int (Int32.ofInt p)]) (rest := []) rfl rfl (by decide) rfl (ym_rcv hA rfl) (Nat.le_of_ble_eq_true rfl) (mo_209z hA (by omega) h2) ?_
    rintro _ _ ⟨rfl, eA⟩
    rw [eA]
    clear eA
    refine xr_steps (pc' := 50) (L' := [(0, .ref 165), (1, .int (Int32.ofInt p))]) (st' := [.int (Int32.ofInt 91), .int (Int32.ofInt 32)]) 1 rfl ?_
    refine xr_icmp_ne rfl (by omega) (by omega) (fun z2 => ?_) (fun z2 => ?_)
    · refine xr_steps (pc' := 97) (L' := [(0, .ref 165), (1, .int (Int32.ofInt p))]) (st' := [.int (Int32.ofInt (-1))]) 1 rfl ?_
      exact xr_retI2 rfl rfl ⟨_, rfl, rfl, rfl⟩
    · exfalso; omega
  · exfalso; omega
theorem mo_228z {w : Value} {d : Nat} {A : xb_H} {s : Nat → Int} {t : Nat → Nat → Int}  (hA : 194 ≤ A.1) (h2 : s 2 = 0) : xr_ok (xt_G w) (d + 1 + 1) 228 0 [(0, .ref 165)] [] (ym A s t) (fun o A' => ∃ v, o = .inl v ∧ v = some (.int (Int32.ofInt 0)) ∧ A' = ym A s t) := by
  refine xr_steps (pc' := 8) (L' := [(2, .int (Int32.ofInt 0)), (1, .int (Int32.ofInt 401)), (0, .ref 165)]) (st' := [.int (Int32.ofInt 401), .ref 165]) 6 rfl ?_
  refine xr_call (q := (.invokevirtual 103, 3, 209, 2)) (av := [.ref 165, .int (Int32.ofInt 401)]) (rest := []) rfl rfl (by decide) rfl (ym_rcv hA rfl) (Nat.le_of_ble_eq_true rfl) (mo_209z hA (by omega) h2) ?_
  rintro _ _ ⟨rfl, eA⟩
  rw [eA]
  clear eA
  refine xr_steps (pc' := 13) (L' := [(2, .int (Int32.ofInt 0)), (1, .int (Int32.ofInt 401)), (0, .ref 165)]) (st' := [.int (Int32.ofInt 58), .int (Int32.ofInt 32)]) 1 rfl ?_
  refine xr_icmp_eq rfl (by omega) (by omega) (fun z1 => ?_) (fun z1 => ?_)
  · exfalso; omega
  · refine xr_steps (pc' := 18) (L' := [(2, .int (Int32.ofInt 0)), (1, .int (Int32.ofInt 401)), (0, .ref 165)]) (st' := [.int (Int32.ofInt 5), .int (Int32.ofInt 0)]) 2 rfl ?_
    refine xr_icmp_ge rfl (by omega) (by omega) (fun z2 => ?_) (fun z2 => ?_)
    · exfalso; omega
    · refine xr_steps (pc' := 23) (L' := [(2, .int (Int32.ofInt 0)), (1, .int (Int32.ofInt 401)), (0, .ref 165)]) (st' := [.int (Int32.ofInt 401), .ref 165]) 2 rfl ?_
      refine xr_call (q := (.invokevirtual 167, 3, 229, 2)) (av := [.ref 165, .int (Int32.ofInt 401)]) (rest := []) rfl rfl (by decide) rfl (ym_rcv hA rfl) (Nat.le_of_ble_eq_true rfl) (mo_229z hA (by omega) h2) ?_
      rintro _ _ ⟨rfl, eA⟩
      rw [eA]
      clear eA
      refine xr_steps (pc' := 32) (L' := [(1, .int (Int32.ofInt (-1))), (2, .int (Int32.ofInt 0)), (0, .ref 165)]) (st' := [.int (Int32.ofInt (-1))]) 3 rfl ?_
      refine xr_if_ge rfl (by omega) (fun z3 => ?_) (fun z3 => ?_)
      · exfalso; omega
      · refine xr_steps (pc' := 36) (L' := [(1, .int (Int32.ofInt (-1))), (2, .int (Int32.ofInt 0)), (0, .ref 165)]) (st' := [.int (Int32.ofInt 0)]) 1 rfl ?_
        exact xr_retZ rfl rfl (by omega) ⟨_, rfl, rfl, rfl⟩
theorem mo_233z {w : Value} {d : Nat} {A : xb_H} {s : Nat → Int} {t : Nat → Nat → Int}  (hA : 194 ≤ A.1) (h2 : s 2 = 0) : xr_ok (xt_G w) (d + 1) 233 0 [(0, .ref 165)] [] (ym A s t) (fun o A' => ∃ v, o = .inl v ∧ v = some (.int (Int32.ofInt 0)) ∧ A' = ym A (va_up s 27 0) t) := by
  refine xr_steps (pc' := 2) (L' := [(0, .ref 165)]) (st' := [.int (Int32.ofInt 0), .ref 165]) 2 rfl ?_
  refine ym_putI hA rfl rfl rfl ?_
  refine xr_steps (pc' := 13) (L' := [(1, .int (Int32.ofInt 401)), (0, .ref 165)]) (st' := [.ref 165, .int (Int32.ofInt 400)]) 4 rfl ?_
  refine xr_getf (v := .int (Int32.ofInt (s 2))) rfl (ym_165 hA) rfl ?_
  refine xr_iadd rfl ?_
  refine xr_steps (pc' := 20) (L' := [(2, .int (Int32.ofInt (400 + (s 2)))), (1, .int (Int32.ofInt 401)), (0, .ref 165)]) (st' := [.int (Int32.ofInt (400 + (s 2))), .int (Int32.ofInt 401)]) 3 rfl ?_
  refine xr_icmp_ge rfl (by omega) (by omega) (fun z1 => ?_) (fun z1 => ?_)
  · refine xr_steps (pc' := 199) (L' := [(2, .int (Int32.ofInt (400 + (s 2)))), (1, .int (Int32.ofInt 401)), (0, .ref 165)]) (st' := [.int (Int32.ofInt 400), .ref 165]) 2 rfl ?_
    refine xr_call (q := (.invokevirtual 103, 3, 209, 2)) (av := [.ref 165, .int (Int32.ofInt 400)]) (rest := []) rfl rfl (by decide) rfl (ym_rcv hA rfl) (Nat.le_of_ble_eq_true rfl) (mo_209z hA (by omega) h2) ?_
    rintro _ _ ⟨rfl, eA⟩
    rw [eA]
    clear eA
    refine xr_steps (pc' := 204) (L' := [(2, .int (Int32.ofInt (400 + (s 2)))), (1, .int (Int32.ofInt 401)), (0, .ref 165)]) (st' := [.int (Int32.ofInt 36), .int (Int32.ofInt 32)]) 1 rfl ?_
    refine xr_icmp_ne rfl (by omega) (by omega) (fun z2 => ?_) (fun z2 => ?_)
    · refine xr_steps (pc' := 212) (L' := [(2, .int (Int32.ofInt (400 + (s 2)))), (1, .int (Int32.ofInt 401)), (0, .ref 165)]) (st' := [.int (Int32.ofInt 0)]) 1 rfl ?_
      exact xr_retZ rfl rfl (by omega) ⟨_, rfl, rfl, rfl⟩
    · exfalso; omega
  · exfalso; omega
theorem mo_207z {w : Value} {d : Nat} {A : xb_H} {s : Nat → Int} {t : Nat → Nat → Int} {k : Int} (hA : 194 ≤ A.1) (hk : -2147483648 ≤ k ∧ k ≤ 2147483647) (h2 : s 2 = 0) (h3 : s 3 = 0) : xr_ok (xt_G w) (d + 1) 207 0 [(0, .ref 165), (1, .int (Int32.ofInt k))] [] (ym A s t) (fun o A' => ∃ v, o = .inl v ∧ v = some (.int (Int32.ofInt 0)) ∧ A' = ym A (va_up (va_up s 0 1) 2 0) (va_up t 166 (va_up (t 166) (400 + s 2).toNat 0))) := by
  refine xr_steps (pc' := 1) (L' := [(0, .ref 165), (1, .int (Int32.ofInt k))]) (st' := [.ref 165]) 1 rfl ?_
  refine xr_call (q := (.invokevirtual 146, 3, 208, 1)) (av := [.ref 165]) (rest := []) rfl rfl (by decide) rfl (ym_rcv hA rfl) (Nat.le_of_ble_eq_true rfl) (mo_208z hA h2) ?_
  rintro _ _ ⟨rfl, eA⟩
  rw [eA]
  clear eA
  refine xr_steps (pc' := 6) (L' := [(2, .int (Int32.ofInt (-1))), (0, .ref 165), (1, .int (Int32.ofInt k))]) (st' := [.ref 165]) 2 rfl ?_
  refine xr_call (q := (.invokevirtual 150, 3, 214, 1)) (av := [.ref 165]) (rest := []) rfl rfl (by decide) rfl (ym_rcv hA rfl) (Nat.le_of_ble_eq_true rfl) (mo_214 hA (by omega)) ?_
  rintro _ _ ⟨rfl, eA⟩
  rw [eA]
  clear eA
  refine xr_steps (pc' := 11) (L' := [(2, .int (Int32.ofInt (-1))), (0, .ref 165), (1, .int (Int32.ofInt k))]) (st' := [.int (Int32.ofInt k), .ref 165]) 2 rfl ?_
  refine xr_call (q := (.invokevirtual 153, 3, 215, 2)) (av := [.ref 165, .int (Int32.ofInt k)]) (rest := []) rfl rfl (by decide) rfl (ym_rcv hA rfl) (Nat.le_of_ble_eq_true rfl) (mo_215 hA hk (by omega) (b := 0) (Or.inr ⟨rfl, by omega⟩)) ?_
  rintro _ _ ⟨rfl, eA⟩
  rw [eA]
  clear eA
  refine xr_if_eq rfl (by omega) (fun z1 => ?_) (fun z1 => ?_)
  · refine xr_steps (pc' := 28) (L' := [(3, .int (Int32.ofInt 0)), (2, .int (Int32.ofInt (-1))), (0, .ref 165), (1, .int (Int32.ofInt k))]) (st' := [.int (Int32.ofInt 0)]) 3 rfl ?_
    refine xr_if_eq rfl (by omega) (fun z2 => ?_) (fun z2 => ?_)
    · refine xr_steps (pc' := 49) (L' := [(4, .int (Int32.ofInt 0)), (3, .int (Int32.ofInt 0)), (2, .int (Int32.ofInt (-1))), (0, .ref 165), (1, .int (Int32.ofInt k))]) (st' := [.int (Int32.ofInt 0), .ref 165]) 4 rfl ?_
      refine xr_if_ne rfl (by omega) (fun z3 => ?_) (fun z3 => ?_)
      · exfalso; omega
      · refine xr_steps (pc' := 80) (L' := [(4, .int (Int32.ofInt 0)), (3, .int (Int32.ofInt 0)), (2, .int (Int32.ofInt (-1))), (0, .ref 165), (1, .int (Int32.ofInt k))]) (st' := [.int (Int32.ofInt 1), .ref 165]) 2 rfl ?_
        refine ym_putI hA rfl rfl rfl ?_
        refine xr_steps (pc' := 84) (L' := [(4, .int (Int32.ofInt 0)), (3, .int (Int32.ofInt 0)), (2, .int (Int32.ofInt (-1))), (0, .ref 165), (1, .int (Int32.ofInt k))]) (st' := [.ref 165]) 1 rfl ?_
        refine xr_getf (v := .int (Int32.ofInt 1)) rfl (ym_165 hA) rfl ?_
        refine xr_if_ne rfl (by omega) (fun z4 => ?_) (fun z4 => ?_)
        · refine xr_steps (pc' := 115) (L' := [(4, .int (Int32.ofInt 0)), (3, .int (Int32.ofInt 0)), (2, .int (Int32.ofInt (-1))), (0, .ref 165), (1, .int (Int32.ofInt k))]) (st' := [.int (Int32.ofInt 0), .ref 165]) 2 rfl ?_
          refine ym_putI hA rfl rfl rfl ?_
          refine xr_steps (pc' := 119) (L' := [(4, .int (Int32.ofInt 0)), (3, .int (Int32.ofInt 0)), (2, .int (Int32.ofInt (-1))), (0, .ref 165), (1, .int (Int32.ofInt k))]) (st' := [.ref 165]) 1 rfl ?_
          refine xr_getf (v := .int (Int32.ofInt 1)) rfl (ym_165 hA) rfl ?_
          refine xr_if_ne rfl (by omega) (fun z5 => ?_) (fun z5 => ?_)
          · refine xr_steps (pc' := 130) (L' := [(4, .int (Int32.ofInt 0)), (3, .int (Int32.ofInt 0)), (2, .int (Int32.ofInt (-1))), (0, .ref 165), (1, .int (Int32.ofInt k))]) (st' := [.int (Int32.ofInt 0)]) 1 rfl ?_
            exact xr_retI2 rfl rfl ⟨_, rfl, rfl, rfl⟩
          · exfalso; omega
        · exfalso; omega
    · exfalso; omega
  · exfalso; omega
theorem mo_227z {w : Value} {d : Nat} {A : xb_H} {s : Nat → Int} {t : Nat → Nat → Int} {k : Int} (hA : 194 ≤ A.1) (hk : -2147483648 ≤ k ∧ k ≤ 2147483647) (h2 : s 2 = 0) (h3 : s 3 = 0) : xr_ok (xt_G w) (d + 1 + 1 + 1) 227 0 [(0, .ref 165), (1, .int (Int32.ofInt k))] [] (ym A s t) (fun o A' => ∃ v, o = .inl v ∧ v = some (.int (Int32.ofInt 0)) ∧ A' = ym A (va_up (va_up s 0 1) 2 0) t) := by
  refine xr_steps (pc' := 1) (L' := [(0, .ref 165), (1, .int (Int32.ofInt k))]) (st' := [.ref 165]) 1 rfl ?_
  refine xr_call (q := (.invokevirtual 173, 3, 228, 1)) (av := [.ref 165]) (rest := []) rfl rfl (by decide) rfl (ym_rcv hA rfl) (Nat.le_of_ble_eq_true rfl) (mo_228z hA h2) ?_
  rintro _ _ ⟨rfl, eA⟩
  rw [eA]
  clear eA
  refine xr_if_eq rfl (by omega) (fun z1 => ?_) (fun z1 => ?_)
  · refine xr_steps (pc' := 23) (L' := [(2, .int (Int32.ofInt 0)), (0, .ref 165), (1, .int (Int32.ofInt k))]) (st' := [.int (Int32.ofInt 0), .ref 165]) 4 rfl ?_
    refine xr_if_ne rfl (by omega) (fun z2 => ?_) (fun z2 => ?_)
    · exfalso; omega
    · refine xr_steps (pc' := 46) (L' := [(2, .int (Int32.ofInt 0)), (0, .ref 165), (1, .int (Int32.ofInt k))]) (st' := [.int (Int32.ofInt 1), .ref 165]) 2 rfl ?_
      refine ym_putI hA rfl rfl rfl ?_
      refine xr_steps (pc' := 52) (L' := [(3, .int (Int32.ofInt 0)), (2, .int (Int32.ofInt 0)), (0, .ref 165), (1, .int (Int32.ofInt k))]) (st' := [.ref 165]) 3 rfl ?_
      refine xr_getf (v := .int (Int32.ofInt 1)) rfl (ym_165 hA) rfl ?_
      refine xr_if_ne rfl (by omega) (fun z3 => ?_) (fun z3 => ?_)
      · refine xr_steps (pc' := 114) (L' := [(3, .int (Int32.ofInt 0)), (2, .int (Int32.ofInt 0)), (0, .ref 165), (1, .int (Int32.ofInt k))]) (st' := [.int (Int32.ofInt 0), .ref 165]) 2 rfl ?_
        refine ym_putI hA rfl rfl rfl ?_
        refine xr_steps (pc' := 118) (L' := [(3, .int (Int32.ofInt 0)), (2, .int (Int32.ofInt 0)), (0, .ref 165), (1, .int (Int32.ofInt k))]) (st' := [.int (Int32.ofInt 0)]) 1 rfl ?_
        exact xr_retI2 rfl rfl ⟨_, rfl, rfl, rfl⟩
      · exfalso; omega
  · exfalso; omega
theorem mo_232z {w : Value} {d : Nat} {A : xb_H} {s : Nat → Int} {t : Nat → Nat → Int} {k : Int} (hA : 194 ≤ A.1) (hk : -2147483648 ≤ k ∧ k ≤ 2147483647) (h2 : s 2 = 0) (h3 : s 3 = 0) : xr_ok (xt_G w) (d + 1 + 1) 232 0 [(0, .ref 165), (1, .int (Int32.ofInt k))] [] (ym A s t) (fun o A' => ∃ v, o = .inl v ∧ v = some (.int (Int32.ofInt (-1))) ∧ A' = ym A (va_up (va_up (va_up s 0 0) 27 0) 2 0) t) := by
  refine xr_steps (pc' := 2) (L' := [(0, .ref 165), (1, .int (Int32.ofInt k))]) (st' := [.int (Int32.ofInt 0), .ref 165]) 2 rfl ?_
  refine ym_putI hA rfl rfl rfl ?_
  refine xr_steps (pc' := 6) (L' := [(0, .ref 165), (1, .int (Int32.ofInt k))]) (st' := [.ref 165]) 1 rfl ?_
  refine xr_call (q := (.invokevirtual 186, 3, 233, 1)) (av := [.ref 165]) (rest := []) rfl rfl (by decide) rfl (ym_rcv hA rfl) (Nat.le_of_ble_eq_true rfl) (mo_233z hA h2) ?_
  rintro _ _ ⟨rfl, eA⟩
  rw [eA]
  clear eA
  refine xr_steps (pc' := 12) (L' := [(2, .int (Int32.ofInt 0)), (0, .ref 165), (1, .int (Int32.ofInt k))]) (st' := [.int (Int32.ofInt 0), .ref 165]) 3 rfl ?_
  refine ym_putI hA rfl rfl rfl ?_
  refine xr_steps (pc' := 16) (L' := [(2, .int (Int32.ofInt 0)), (0, .ref 165), (1, .int (Int32.ofInt k))]) (st' := [.int (Int32.ofInt 0)]) 1 rfl ?_
  refine xr_if_eq rfl (by omega) (fun z1 => ?_) (fun z1 => ?_)
  · refine xr_steps (pc' := 36) (L' := [(2, .int (Int32.ofInt 0)), (0, .ref 165), (1, .int (Int32.ofInt k))]) (st' := [.int (Int32.ofInt (-1))]) 1 rfl ?_
    exact xr_retI2 rfl rfl ⟨_, rfl, rfl, rfl⟩
  · exfalso; omega
theorem mo_237z {w : Value} {d : Nat} {A : xb_H} {s : Nat → Int} {t : Nat → Nat → Int} {k : Int} (hA : 194 ≤ A.1) (hk : -2147483648 ≤ k ∧ k ≤ 2147483647) (h2 : s 2 = 0) (h3 : s 3 = 0) : xr_ok (xt_G w) (d + 1) 237 0 [(0, .ref 165), (1, .int (Int32.ofInt k))] [] (ym A s t) (fun o A' => ∃ v, o = .inl v ∧ v = some (.int (Int32.ofInt 0)) ∧ A' = ym A (va_up (va_up s 0 1) 2 0) (va_up t 166 (va_up (t 166) (400 + s 2).toNat 0))) := by
  refine xr_steps (pc' := 1) (L' := [(0, .ref 165), (1, .int (Int32.ofInt k))]) (st' := [.ref 165]) 1 rfl ?_
  refine xr_call (q := (.invokevirtual 146, 3, 208, 1)) (av := [.ref 165]) (rest := []) rfl rfl (by decide) rfl (ym_rcv hA rfl) (Nat.le_of_ble_eq_true rfl) (mo_208z hA h2) ?_
  rintro _ _ ⟨rfl, eA⟩
  rw [eA]
  clear eA
  refine xr_steps (pc' := 6) (L' := [(2, .int (Int32.ofInt (-1))), (0, .ref 165), (1, .int (Int32.ofInt k))]) (st' := [.ref 165]) 2 rfl ?_
  refine xr_call (q := (.invokevirtual 150, 3, 214, 1)) (av := [.ref 165]) (rest := []) rfl rfl (by decide) rfl (ym_rcv hA rfl) (Nat.le_of_ble_eq_true rfl) (mo_214 hA (by omega)) ?_
  rintro _ _ ⟨rfl, eA⟩
  rw [eA]
  clear eA
  refine xr_steps (pc' := 11) (L' := [(2, .int (Int32.ofInt (-1))), (0, .ref 165), (1, .int (Int32.ofInt k))]) (st' := [.int (Int32.ofInt k), .ref 165]) 2 rfl ?_
  refine xr_call (q := (.invokevirtual 153, 3, 215, 2)) (av := [.ref 165, .int (Int32.ofInt k)]) (rest := []) rfl rfl (by decide) rfl (ym_rcv hA rfl) (Nat.le_of_ble_eq_true rfl) (mo_215 hA hk (by omega) (b := 0) (Or.inr ⟨rfl, by omega⟩)) ?_
  rintro _ _ ⟨rfl, eA⟩
  rw [eA]
  clear eA
  refine xr_if_eq rfl (by omega) (fun z1 => ?_) (fun z1 => ?_)
  · refine xr_steps (pc' := 29) (L' := [(3, .int (Int32.ofInt 0)), (2, .int (Int32.ofInt (-1))), (0, .ref 165), (1, .int (Int32.ofInt k))]) (st' := [.int (Int32.ofInt 0), .ref 165]) 4 rfl ?_
    refine xr_if_ne rfl (by omega) (fun z2 => ?_) (fun z2 => ?_)
    · exfalso; omega
    · refine xr_steps (pc' := 50) (L' := [(3, .int (Int32.ofInt 0)), (2, .int (Int32.ofInt (-1))), (0, .ref 165), (1, .int (Int32.ofInt k))]) (st' := [.int (Int32.ofInt 1), .ref 165]) 2 rfl ?_
      refine ym_putI hA rfl rfl rfl ?_
      refine xr_steps (pc' := 54) (L' := [(3, .int (Int32.ofInt 0)), (2, .int (Int32.ofInt (-1))), (0, .ref 165), (1, .int (Int32.ofInt k))]) (st' := [.ref 165]) 1 rfl ?_
      refine xr_getf (v := .int (Int32.ofInt 1)) rfl (ym_165 hA) rfl ?_
      refine xr_if_ne rfl (by omega) (fun z3 => ?_) (fun z3 => ?_)
      · refine xr_steps (pc' := 73) (L' := [(4, .int (Int32.ofInt 0)), (3, .int (Int32.ofInt 0)), (2, .int (Int32.ofInt (-1))), (0, .ref 165), (1, .int (Int32.ofInt k))]) (st' := [.int (Int32.ofInt 0), .ref 165]) 4 rfl ?_
        refine ym_putI hA rfl rfl rfl ?_
        refine xr_steps (pc' := 78) (L' := [(4, .int (Int32.ofInt 0)), (3, .int (Int32.ofInt 0)), (2, .int (Int32.ofInt (-1))), (0, .ref 165), (1, .int (Int32.ofInt k))]) (st' := [.int (Int32.ofInt 0)]) 1 rfl ?_
        exact xr_retI2 rfl rfl ⟨_, rfl, rfl, rfl⟩
      · exfalso; omega
  · exfalso; omega
