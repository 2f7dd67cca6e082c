/-! The reference's small methods -/
theorem mo_bool (p : Prop) : ∃ b : Int, (b = 1 ∧ p) ∨ (b = 0 ∧ ¬ p) := by
  by_cases h : p
  · exact ⟨1, Or.inl ⟨rfl, h⟩⟩
  · exact ⟨0, Or.inr ⟨rfl, h⟩⟩
theorem mo_215 {w : Value} {d : Nat} {A : xb_H} {s : Nat → Int} {t : Nat → Nat → Int} {k : Int} (hA : 194 ≤ A.1) (hk : -2147483648 ≤ k ∧ k ≤ 2147483647) (hm : 0 ≤ s 3 ∧ s 3 ≤ 4) {b : Int} (hb : (b = 1 ∧ (0 ≤ k ∧ k < s 3)) ∨ (b = 0 ∧ ¬ (0 ≤ k ∧ k < s 3))) : xr_ok (xt_G w) d 215 0 [(0, .ref 165), (1, .int (Int32.ofInt k))] [] (ym A s t) (fun o A' => ∃ v, o = .inl v ∧ v = some (.int (Int32.ofInt b)) ∧ A' = ym A s t) := by
  refine xr_steps (pc' := 1) (L' := [(0, .ref 165), (1, .int (Int32.ofInt k))]) (st' := [.int (Int32.ofInt k)]) 1 rfl ?_
  refine xr_if_lt rfl (by omega) (fun z1 => ?_) (fun z1 => ?_)
  · refine xr_steps (pc' := 17) (L' := [(0, .ref 165), (1, .int (Int32.ofInt k))]) (st' := [.int (Int32.ofInt 0)]) 1 rfl ?_
    obtain rfl : b = 0 := by omega
    exact xr_retZ rfl rfl (by omega) ⟨_, rfl, rfl, by first | rfl | exact if_pos rfl | exact (if_neg (by decide))⟩
  · refine xr_steps (pc' := 6) (L' := [(0, .ref 165), (1, .int (Int32.ofInt k))]) (st' := [.ref 165, .int (Int32.ofInt k)]) 2 rfl ?_
    refine xr_getf (v := .int (Int32.ofInt (s 3))) rfl (ym_165 hA) rfl ?_
    refine xr_icmp_ge rfl (by omega) (by omega) (fun z2 => ?_) (fun z2 => ?_)
    · refine xr_steps (pc' := 17) (L' := [(0, .ref 165), (1, .int (Int32.ofInt k))]) (st' := [.int (Int32.ofInt 0)]) 1 rfl ?_
      obtain rfl : b = 0 := by omega
      exact xr_retZ rfl rfl (by omega) ⟨_, rfl, rfl, by first | rfl | exact if_pos rfl | exact (if_neg (by decide))⟩
    · refine xr_steps (pc' := 17) (L' := [(0, .ref 165), (1, .int (Int32.ofInt k))]) (st' := [.int (Int32.ofInt 1)]) 2 rfl ?_
      obtain rfl : b = 1 := by omega
      exact xr_retZ rfl rfl (by omega) ⟨_, rfl, rfl, by first | rfl | exact if_pos rfl | exact (if_neg (by decide))⟩
theorem mo_256 {w : Value} {d : Nat} {A : xb_H} {s : Nat → Int} {t : Nat → Nat → Int}  (hA : 194 ≤ A.1) (hl : 0 ≤ s 13 ∧ s 13 ≤ 30) : xr_ok (xt_G w) d 256 0 [(0, .ref 165)] [] (ym A s t) (fun o A' => ∃ v, o = .inl v ∧ v = some (.int (Int32.ofInt (s 13))) ∧ A' = ym A (va_up s 0 0) t) := by
  refine xr_steps (pc' := 2) (L' := [(0, .ref 165)]) (st' := [.int (Int32.ofInt 0), .ref 165]) 2 rfl ?_
  refine ym_putI hA rfl rfl rfl ?_
  refine xr_steps (pc' := 6) (L' := [(0, .ref 165)]) (st' := [.ref 165]) 1 rfl ?_
  refine xr_getf (v := .int (Int32.ofInt (s 13))) rfl (ym_165 hA) rfl ?_
  refine xr_retI2 rfl rfl ⟨_, rfl, ?_, by first | rfl | rw [if_pos (by omega)] | rw [if_neg (by omega)]⟩
  refine congrArg (fun z => some (Value.int (Int32.ofInt z))) ?_
  first | rfl | omega | (repeat' split) <;> omega
theorem mo_257 {w : Value} {d : Nat} {A : xb_H} {s : Nat → Int} {t : Nat → Nat → Int} {k : Int} (hA : 194 ≤ A.1) (hk : -2147483648 ≤ k ∧ k ≤ 2147483647) (hl : 0 ≤ s 13 ∧ s 13 ≤ 30) : xr_ok (xt_G w) d 257 0 [(0, .ref 165), (1, .int (Int32.ofInt k))] [] (ym A s t) (fun o A' => ∃ v, o = .inl v ∧ v = some (.int (Int32.ofInt (if 0 ≤ k ∧ k < s 13 then t 175 k.toNat else -1))) ∧ A' = ym A (va_up s 0 0) t) := by
  refine xr_steps (pc' := 2) (L' := [(0, .ref 165), (1, .int (Int32.ofInt k))]) (st' := [.int (Int32.ofInt 0), .ref 165]) 2 rfl ?_
  refine ym_putI hA rfl rfl rfl ?_
  refine xr_steps (pc' := 6) (L' := [(0, .ref 165), (1, .int (Int32.ofInt k))]) (st' := [.int (Int32.ofInt k)]) 1 rfl ?_
  refine xr_if_lt rfl (by omega) (fun z1 => ?_) (fun z1 => ?_)
  · refine xr_steps (pc' := 27) (L' := [(0, .ref 165), (1, .int (Int32.ofInt k))]) (st' := [.int (Int32.ofInt (-1))]) 1 rfl ?_
    refine xr_retI2 rfl rfl ⟨_, rfl, ?_, by first | rfl | rw [if_pos (by omega)] | rw [if_neg (by omega)]⟩
    refine congrArg (fun z => some (Value.int (Int32.ofInt z))) ?_
    first | rfl | omega | (repeat' split) <;> omega
  · refine xr_steps (pc' := 11) (L' := [(0, .ref 165), (1, .int (Int32.ofInt k))]) (st' := [.ref 165, .int (Int32.ofInt k)]) 2 rfl ?_
    refine xr_getf (v := .int (Int32.ofInt (s 13))) rfl (ym_165 hA) rfl ?_
    refine xr_icmp_ge rfl (by omega) (by omega) (fun z2 => ?_) (fun z2 => ?_)
    · refine xr_steps (pc' := 27) (L' := [(0, .ref 165), (1, .int (Int32.ofInt k))]) (st' := [.int (Int32.ofInt (-1))]) 1 rfl ?_
      refine xr_retI2 rfl rfl ⟨_, rfl, ?_, by first | rfl | rw [if_pos (by omega)] | rw [if_neg (by omega)]⟩
      refine congrArg (fun z => some (Value.int (Int32.ofInt z))) ?_
      first | rfl | omega | (repeat' split) <;> omega
    · refine xr_steps (pc' := 18) (L' := [(0, .ref 165), (1, .int (Int32.ofInt k))]) (st' := [.ref 165]) 1 rfl ?_
      refine xr_getf (v := .ref 175) rfl (ym_165 hA) rfl ?_
      refine xr_steps (pc' := 22) (L' := [(0, .ref 165), (1, .int (Int32.ofInt k))]) (st' := [.int (Int32.ofInt k), .ref 175]) 1 rfl ?_
      refine ym_iaload (e := t 175 k.toNat) hA rfl rfl (by decide) (by omega) (by omega) rfl ?_
      refine xr_steps (pc' := 27) (L' := [(0, .ref 165), (1, .int (Int32.ofInt k))]) (st' := [.int (Int32.ofInt (t 175 k.toNat))]) 1 rfl ?_
      refine xr_retI2 rfl rfl ⟨_, rfl, ?_, by first | rfl | rw [if_pos (by omega)] | rw [if_neg (by omega)]⟩
      refine congrArg (fun z => some (Value.int (Int32.ofInt z))) ?_
      first | rfl | omega | (repeat' split) <;> omega
theorem mo_259 {w : Value} {d : Nat} {A : xb_H} {s : Nat → Int} {t : Nat → Nat → Int} {k : Int} (hA : 194 ≤ A.1) (hk : -2147483648 ≤ k ∧ k ≤ 2147483647) (hl : 0 ≤ s 11 ∧ s 11 ≤ 3100) : xr_ok (xt_G w) d 259 0 [(0, .ref 165), (1, .int (Int32.ofInt k))] [] (ym A s t) (fun o A' => ∃ v, o = .inl v ∧ v = some (.int (Int32.ofInt (if k = -1 then s 11 else if 0 ≤ k ∧ k < s 11 then t 174 k.toNat else -1))) ∧ A' = ym A (va_up s 0 0) t) := by
  refine xr_steps (pc' := 2) (L' := [(0, .ref 165), (1, .int (Int32.ofInt k))]) (st' := [.int (Int32.ofInt 0), .ref 165]) 2 rfl ?_
  refine ym_putI hA rfl rfl rfl ?_
  refine xr_steps (pc' := 7) (L' := [(0, .ref 165), (1, .int (Int32.ofInt k))]) (st' := [.int (Int32.ofInt (-1)), .int (Int32.ofInt k)]) 2 rfl ?_
  refine xr_icmp_ne rfl (by omega) (by omega) (fun z1 => ?_) (fun z1 => ?_)
  · refine xr_steps (pc' := 18) (L' := [(0, .ref 165), (1, .int (Int32.ofInt k))]) (st' := [.int (Int32.ofInt k)]) 1 rfl ?_
    refine xr_if_lt rfl (by omega) (fun z2 => ?_) (fun z2 => ?_)
    · refine xr_steps (pc' := 39) (L' := [(0, .ref 165), (1, .int (Int32.ofInt k))]) (st' := [.int (Int32.ofInt (-1))]) 1 rfl ?_
      refine xr_retI2 rfl rfl ⟨_, rfl, ?_, by first | rfl | rw [if_pos (by omega)] | rw [if_neg (by omega)]⟩
      refine congrArg (fun z => some (Value.int (Int32.ofInt z))) ?_
      first | rfl | omega | (repeat' split) <;> omega
    · refine xr_steps (pc' := 23) (L' := [(0, .ref 165), (1, .int (Int32.ofInt k))]) (st' := [.ref 165, .int (Int32.ofInt k)]) 2 rfl ?_
      refine xr_getf (v := .int (Int32.ofInt (s 11))) rfl (ym_165 hA) rfl ?_
      refine xr_icmp_ge rfl (by omega) (by omega) (fun z3 => ?_) (fun z3 => ?_)
      · refine xr_steps (pc' := 39) (L' := [(0, .ref 165), (1, .int (Int32.ofInt k))]) (st' := [.int (Int32.ofInt (-1))]) 1 rfl ?_
        refine xr_retI2 rfl rfl ⟨_, rfl, ?_, by first | rfl | rw [if_pos (by omega)] | rw [if_neg (by omega)]⟩
        refine congrArg (fun z => some (Value.int (Int32.ofInt z))) ?_
        first | rfl | omega | (repeat' split) <;> omega
      · refine xr_steps (pc' := 30) (L' := [(0, .ref 165), (1, .int (Int32.ofInt k))]) (st' := [.ref 165]) 1 rfl ?_
        refine xr_getf (v := .ref 174) rfl (ym_165 hA) rfl ?_
        refine xr_steps (pc' := 34) (L' := [(0, .ref 165), (1, .int (Int32.ofInt k))]) (st' := [.int (Int32.ofInt k), .ref 174]) 1 rfl ?_
        refine ym_iaload (e := t 174 k.toNat) hA rfl rfl (by decide) (by omega) (by omega) rfl ?_
        refine xr_steps (pc' := 39) (L' := [(0, .ref 165), (1, .int (Int32.ofInt k))]) (st' := [.int (Int32.ofInt (t 174 k.toNat))]) 1 rfl ?_
        refine xr_retI2 rfl rfl ⟨_, rfl, ?_, by first | rfl | rw [if_pos (by omega)] | rw [if_neg (by omega)]⟩
        refine congrArg (fun z => some (Value.int (Int32.ofInt z))) ?_
        first | rfl | omega | (repeat' split) <;> omega
  · refine xr_steps (pc' := 11) (L' := [(0, .ref 165), (1, .int (Int32.ofInt k))]) (st' := [.ref 165]) 1 rfl ?_
    refine xr_getf (v := .int (Int32.ofInt (s 11))) rfl (ym_165 hA) rfl ?_
    refine xr_steps (pc' := 39) (L' := [(0, .ref 165), (1, .int (Int32.ofInt k))]) (st' := [.int (Int32.ofInt (s 11))]) 1 rfl ?_
    refine xr_retI2 rfl rfl ⟨_, rfl, ?_, by first | rfl | rw [if_pos (by omega)] | rw [if_neg (by omega)]⟩
    refine congrArg (fun z => some (Value.int (Int32.ofInt z))) ?_
    first | rfl | omega | (repeat' split) <;> omega
theorem mo_258 {w : Value} {d : Nat} {A : xb_H} {s : Nat → Int} {t : Nat → Nat → Int} {k i : Int} (hA : 194 ≤ A.1) (hk : -2147483648 ≤ k ∧ k ≤ 2147483647) (hi : -2147483648 ≤ i ∧ i ≤ 2147483647) (hl : 0 ≤ s 13 ∧ s 13 ≤ 30) (hle : ∀ j : Nat, j < 30 → 0 ≤ t 176 j ∧ t 176 j ≤ 24) : xr_ok (xt_G w) d 258 0 [(0, .ref 165), (1, .int (Int32.ofInt k)), (2, .int (Int32.ofInt i))] [] (ym A s t) (fun o A' => ∃ v, o = .inl v ∧ v = some (.int (Int32.ofInt (if (0 ≤ k ∧ k < s 13) ∧ 0 ≤ i ∧ i < t 176 k.toNat then t 177 (24 * k + i).toNat else -1))) ∧ A' = ym A (va_up s 0 0) t) := by
  refine xr_steps (pc' := 2) (L' := [(0, .ref 165), (1, .int (Int32.ofInt k)), (2, .int (Int32.ofInt i))]) (st' := [.int (Int32.ofInt 0), .ref 165]) 2 rfl ?_
  refine ym_putI hA rfl rfl rfl ?_
  refine xr_steps (pc' := 6) (L' := [(0, .ref 165), (1, .int (Int32.ofInt k)), (2, .int (Int32.ofInt i))]) (st' := [.int (Int32.ofInt k)]) 1 rfl ?_
  refine xr_if_lt rfl (by omega) (fun z1 => ?_) (fun z1 => ?_)
  · refine xr_steps (pc' := 46) (L' := [(0, .ref 165), (1, .int (Int32.ofInt k)), (2, .int (Int32.ofInt i))]) (st' := [.int (Int32.ofInt (-1))]) 1 rfl ?_
    refine xr_retI2 rfl rfl ⟨_, rfl, ?_, by first | rfl | rw [if_pos (by omega)] | rw [if_neg (by omega)]⟩
    refine congrArg (fun z => some (Value.int (Int32.ofInt z))) ?_
    first | rfl | omega | (repeat' split) <;> omega
  · refine xr_steps (pc' := 11) (L' := [(0, .ref 165), (1, .int (Int32.ofInt k)), (2, .int (Int32.ofInt i))]) (st' := [.ref 165, .int (Int32.ofInt k)]) 2 rfl ?_
    refine xr_getf (v := .int (Int32.ofInt (s 13))) rfl (ym_165 hA) rfl ?_
    refine xr_icmp_ge rfl (by omega) (by omega) (fun z2 => ?_) (fun z2 => ?_)
    · refine xr_steps (pc' := 46) (L' := [(0, .ref 165), (1, .int (Int32.ofInt k)), (2, .int (Int32.ofInt i))]) (st' := [.int (Int32.ofInt (-1))]) 1 rfl ?_
      refine xr_retI2 rfl rfl ⟨_, rfl, ?_, by first | rfl | rw [if_pos (by omega)] | rw [if_neg (by omega)]⟩
      refine congrArg (fun z => some (Value.int (Int32.ofInt z))) ?_
      first | rfl | omega | (repeat' split) <;> omega
    · refine xr_steps (pc' := 18) (L' := [(0, .ref 165), (1, .int (Int32.ofInt k)), (2, .int (Int32.ofInt i))]) (st' := [.int (Int32.ofInt i)]) 1 rfl ?_
      refine xr_if_lt rfl (by omega) (fun z3 => ?_) (fun z3 => ?_)
      · refine xr_steps (pc' := 46) (L' := [(0, .ref 165), (1, .int (Int32.ofInt k)), (2, .int (Int32.ofInt i))]) (st' := [.int (Int32.ofInt (-1))]) 1 rfl ?_
        refine xr_retI2 rfl rfl ⟨_, rfl, ?_, by first | rfl | rw [if_pos (by omega)] | rw [if_neg (by omega)]⟩
        refine congrArg (fun z => some (Value.int (Int32.ofInt z))) ?_
        first | rfl | omega | (repeat' split) <;> omega
      · refine xr_steps (pc' := 23) (L' := [(0, .ref 165), (1, .int (Int32.ofInt k)), (2, .int (Int32.ofInt i))]) (st' := [.ref 165, .int (Int32.ofInt i)]) 2 rfl ?_
        refine xr_getf (v := .ref 176) rfl (ym_165 hA) rfl ?_
        refine xr_steps (pc' := 27) (L' := [(0, .ref 165), (1, .int (Int32.ofInt k)), (2, .int (Int32.ofInt i))]) (st' := [.int (Int32.ofInt k), .ref 176, .int (Int32.ofInt i)]) 1 rfl ?_
        refine ym_iaload (e := t 176 k.toNat) hA rfl rfl (by decide) (by omega) (by omega) rfl ?_
        have hr := hle k.toNat (by omega)
        refine xr_icmp_ge rfl (by omega) (by omega) (fun z4 => ?_) (fun z4 => ?_)
        · refine xr_steps (pc' := 46) (L' := [(0, .ref 165), (1, .int (Int32.ofInt k)), (2, .int (Int32.ofInt i))]) (st' := [.int (Int32.ofInt (-1))]) 1 rfl ?_
          refine xr_retI2 rfl rfl ⟨_, rfl, ?_, by first | rfl | rw [if_pos (by omega)] | rw [if_neg (by omega)]⟩
          refine congrArg (fun z => some (Value.int (Int32.ofInt z))) ?_
          first | rfl | omega | (repeat' split) <;> omega
        · refine xr_steps (pc' := 32) (L' := [(0, .ref 165), (1, .int (Int32.ofInt k)), (2, .int (Int32.ofInt i))]) (st' := [.ref 165]) 1 rfl ?_
          refine xr_getf (v := .ref 177) rfl (ym_165 hA) rfl ?_
          refine xr_steps (pc' := 38) (L' := [(0, .ref 165), (1, .int (Int32.ofInt k)), (2, .int (Int32.ofInt i))]) (st' := [.int (Int32.ofInt k), .int (Int32.ofInt 24), .ref 177]) 2 rfl ?_
          refine xr_imul rfl ?_
          refine xr_steps (pc' := 40) (L' := [(0, .ref 165), (1, .int (Int32.ofInt k)), (2, .int (Int32.ofInt i))]) (st' := [.int (Int32.ofInt i), .int (Int32.ofInt (24 * k)), .ref 177]) 1 rfl ?_
          refine xr_iadd rfl ?_
          refine ym_caload (e := t 177 ((24 * k) + i).toNat) hA rfl rfl (by decide) (by omega) (by omega) rfl ?_
          refine xr_steps (pc' := 46) (L' := [(0, .ref 165), (1, .int (Int32.ofInt k)), (2, .int (Int32.ofInt i))]) (st' := [.int (Int32.ofInt (t 177 ((24 * k) + i).toNat))]) 1 rfl ?_
          refine xr_retI2 rfl rfl ⟨_, rfl, ?_, by first | rfl | rw [if_pos (by omega)] | rw [if_neg (by omega)]⟩
          refine congrArg (fun z => some (Value.int (Int32.ofInt z))) ?_
          first | rfl | omega | (repeat' split) <;> omega
theorem mo_226 {w : Value} {d : Nat} {A : xb_H} {s : Nat → Int} {t : Nat → Nat → Int} {k h : Int} (hA : 194 ≤ A.1) (hk : -2147483648 ≤ k ∧ k ≤ 2147483647) (hh : -2147483648 ≤ h ∧ h ≤ 2147483647) {b : Int} (hb : (b = 1 ∧ ((0 ≤ k ∧ k ≤ 5) ∧ 0 ≤ h ∧ h ≤ 3)) ∨ (b = 0 ∧ ¬ ((0 ≤ k ∧ k ≤ 5) ∧ 0 ≤ h ∧ h ≤ 3))) : xr_ok (xt_G w) d 226 0 [(0, .ref 165), (1, .int (Int32.ofInt k)), (2, .int (Int32.ofInt h))] [] (ym A s t) (fun o A' => ∃ v, o = .inl v ∧ v = some (.int (Int32.ofInt b)) ∧ A' = ym A (va_up s 0 0) (if b = 1 then va_up t 173 (va_up (t 173) k.toNat h) else t)) := by
  refine xr_steps (pc' := 2) (L' := [(0, .ref 165), (1, .int (Int32.ofInt k)), (2, .int (Int32.ofInt h))]) (st' := [.int (Int32.ofInt 0), .ref 165]) 2 rfl ?_
  refine ym_putI hA rfl rfl rfl ?_
  refine xr_steps (pc' := 6) (L' := [(0, .ref 165), (1, .int (Int32.ofInt k)), (2, .int (Int32.ofInt h))]) (st' := [.int (Int32.ofInt k)]) 1 rfl ?_
  refine xr_if_lt rfl (by omega) (fun z1 => ?_) (fun z1 => ?_)
  · refine xr_steps (pc' := 24) (L' := [(0, .ref 165), (1, .int (Int32.ofInt k)), (2, .int (Int32.ofInt h))]) (st' := [.int (Int32.ofInt 0)]) 1 rfl ?_
    obtain rfl : b = 0 := by omega
    exact xr_retZ rfl rfl (by omega) ⟨_, rfl, rfl, by first | rfl | exact if_pos rfl | exact (if_neg (by decide))⟩
  · refine xr_steps (pc' := 11) (L' := [(0, .ref 165), (1, .int (Int32.ofInt k)), (2, .int (Int32.ofInt h))]) (st' := [.int (Int32.ofInt 5), .int (Int32.ofInt k)]) 2 rfl ?_
    refine xr_icmp_gt rfl (by omega) (by omega) (fun z2 => ?_) (fun z2 => ?_)
    · refine xr_steps (pc' := 24) (L' := [(0, .ref 165), (1, .int (Int32.ofInt k)), (2, .int (Int32.ofInt h))]) (st' := [.int (Int32.ofInt 0)]) 1 rfl ?_
      obtain rfl : b = 0 := by omega
      exact xr_retZ rfl rfl (by omega) ⟨_, rfl, rfl, by first | rfl | exact if_pos rfl | exact (if_neg (by decide))⟩
    · refine xr_steps (pc' := 15) (L' := [(0, .ref 165), (1, .int (Int32.ofInt k)), (2, .int (Int32.ofInt h))]) (st' := [.int (Int32.ofInt h)]) 1 rfl ?_
      refine xr_if_lt rfl (by omega) (fun z3 => ?_) (fun z3 => ?_)
      · refine xr_steps (pc' := 24) (L' := [(0, .ref 165), (1, .int (Int32.ofInt k)), (2, .int (Int32.ofInt h))]) (st' := [.int (Int32.ofInt 0)]) 1 rfl ?_
        obtain rfl : b = 0 := by omega
        exact xr_retZ rfl rfl (by omega) ⟨_, rfl, rfl, by first | rfl | exact if_pos rfl | exact (if_neg (by decide))⟩
      · refine xr_steps (pc' := 20) (L' := [(0, .ref 165), (1, .int (Int32.ofInt k)), (2, .int (Int32.ofInt h))]) (st' := [.int (Int32.ofInt 3), .int (Int32.ofInt h)]) 2 rfl ?_
        refine xr_icmp_le rfl (by omega) (by omega) (fun z4 => ?_) (fun z4 => ?_)
        · refine xr_steps (pc' := 26) (L' := [(0, .ref 165), (1, .int (Int32.ofInt k)), (2, .int (Int32.ofInt h))]) (st' := [.ref 165]) 1 rfl ?_
          refine xr_getf (v := .ref 173) rfl (ym_165 hA) rfl ?_
          refine xr_steps (pc' := 31) (L' := [(0, .ref 165), (1, .int (Int32.ofInt k)), (2, .int (Int32.ofInt h))]) (st' := [.int (Int32.ofInt h), .int (Int32.ofInt k), .ref 173]) 2 rfl ?_
          refine ym_iastore hA rfl rfl (by decide) (by omega) (by omega) ?_
          refine xr_steps (pc' := 33) (L' := [(0, .ref 165), (1, .int (Int32.ofInt k)), (2, .int (Int32.ofInt h))]) (st' := [.int (Int32.ofInt 1)]) 1 rfl ?_
          obtain rfl : b = 1 := by omega
          exact xr_retZ rfl rfl (by omega) ⟨_, rfl, rfl, by first | rfl | exact if_pos rfl | exact (if_neg (by decide))⟩
        · refine xr_steps (pc' := 24) (L' := [(0, .ref 165), (1, .int (Int32.ofInt k)), (2, .int (Int32.ofInt h))]) (st' := [.int (Int32.ofInt 0)]) 1 rfl ?_
          obtain rfl : b = 0 := by omega
          exact xr_retZ rfl rfl (by omega) ⟨_, rfl, rfl, by first | rfl | exact if_pos rfl | exact (if_neg (by decide))⟩
def mo_cn (s : Nat → Int) (t : Nat → Nat → Int) (k z : Int) : Prop := ((0 ≤ k ∧ k < s 3) ∧ (0 ≤ z ∧ z ≤ 5) ∧ t 171 k.toNat ≤ 2 ∧ ¬ (0 < t 171 k.toNat ∧ t 172 (3 * k + 0).toNat = z) ∧ ¬ (1 < t 171 k.toNat ∧ t 172 (3 * k + (0 + 1)).toNat = z))
theorem mo_225 {w : Value} {d : Nat} {A : xb_H} {s : Nat → Int} {t : Nat → Nat → Int} {k z : Int} (hA : 194 ≤ A.1) (hk : -2147483648 ≤ k ∧ k ≤ 2147483647) (hz : -2147483648 ≤ z ∧ z ≤ 2147483647) (hm : 0 ≤ s 3 ∧ s 3 ≤ 4) (hnc : ∀ j : Nat, j < 4 → 0 ≤ t 171 j ∧ t 171 j ≤ 3) (hnd : ∀ j : Nat, j < 12 → 0 ≤ t 172 j ∧ t 172 j ≤ 5) {b : Int} (hb : (b = 1 ∧ (mo_cn s t k z)) ∨ (b = 0 ∧ ¬ (mo_cn s t k z))) : xr_ok (xt_G w) (d + 1) 225 0 [(0, .ref 165), (1, .int (Int32.ofInt k)), (2, .int (Int32.ofInt z))] [] (ym A s t) (fun o A' => ∃ v, o = .inl v ∧ v = some (.int (Int32.ofInt b)) ∧ A' = ym A (va_up s 0 0) (if b = 1 then va_up (va_up t 172 (va_up (t 172) (3 * k + t 171 k.toNat).toNat z)) 171 (va_up (t 171) k.toNat (t 171 k.toNat + 1)) else t)) := by
  refine xr_steps (pc' := 2) (L' := [(0, .ref 165), (1, .int (Int32.ofInt k)), (2, .int (Int32.ofInt z))]) (st' := [.int (Int32.ofInt 0), .ref 165]) 2 rfl ?_
  refine ym_putI hA rfl rfl rfl ?_
  refine xr_steps (pc' := 7) (L' := [(0, .ref 165), (1, .int (Int32.ofInt k)), (2, .int (Int32.ofInt z))]) (st' := [.int (Int32.ofInt k), .ref 165]) 2 rfl ?_
  obtain ⟨b1, hb1⟩ := mo_bool (0 ≤ k ∧ k < s 3)
  refine xr_call (q := (.invokevirtual 153, 3, 215, 2)) (av := [.ref 165, .int (Int32.ofInt k)]) (rest := []) rfl rfl (by decide) rfl (ym_rcv hA rfl) (Nat.le_of_ble_eq_true rfl) (mo_215 hA (by omega) (by first | exact hm | omega) hb1) ?_
  rintro _ _ ⟨rfl, eA⟩
  rw [eA]
  clear eA
  refine xr_if_eq rfl (by omega) (fun z2 => ?_) (fun z2 => ?_)
  · refine xr_steps (pc' := 33) (L' := [(0, .ref 165), (1, .int (Int32.ofInt k)), (2, .int (Int32.ofInt z))]) (st' := [.int (Int32.ofInt 0)]) 1 rfl ?_
    unfold mo_cn at hb
    obtain rfl : b = 0 := by omega
    exact xr_retZ rfl rfl (by omega) ⟨_, rfl, rfl, by first | rfl | exact if_pos rfl | exact (if_neg (by decide))⟩
  · refine xr_steps (pc' := 14) (L' := [(0, .ref 165), (1, .int (Int32.ofInt k)), (2, .int (Int32.ofInt z))]) (st' := [.int (Int32.ofInt z)]) 1 rfl ?_
    refine xr_if_lt rfl (by omega) (fun z3 => ?_) (fun z3 => ?_)
    · refine xr_steps (pc' := 33) (L' := [(0, .ref 165), (1, .int (Int32.ofInt k)), (2, .int (Int32.ofInt z))]) (st' := [.int (Int32.ofInt 0)]) 1 rfl ?_
      unfold mo_cn at hb
      obtain rfl : b = 0 := by omega
      exact xr_retZ rfl rfl (by omega) ⟨_, rfl, rfl, by first | rfl | exact if_pos rfl | exact (if_neg (by decide))⟩
    · refine xr_steps (pc' := 19) (L' := [(0, .ref 165), (1, .int (Int32.ofInt k)), (2, .int (Int32.ofInt z))]) (st' := [.int (Int32.ofInt 5), .int (Int32.ofInt z)]) 2 rfl ?_
      refine xr_icmp_gt rfl (by omega) (by omega) (fun z4 => ?_) (fun z4 => ?_)
      · refine xr_steps (pc' := 33) (L' := [(0, .ref 165), (1, .int (Int32.ofInt k)), (2, .int (Int32.ofInt z))]) (st' := [.int (Int32.ofInt 0)]) 1 rfl ?_
        unfold mo_cn at hb
        obtain rfl : b = 0 := by omega
        exact xr_retZ rfl rfl (by omega) ⟨_, rfl, rfl, by first | rfl | exact if_pos rfl | exact (if_neg (by decide))⟩
      · refine xr_steps (pc' := 23) (L' := [(0, .ref 165), (1, .int (Int32.ofInt k)), (2, .int (Int32.ofInt z))]) (st' := [.ref 165]) 1 rfl ?_
        refine xr_getf (v := .ref 171) rfl (ym_165 hA) rfl ?_
        refine xr_steps (pc' := 27) (L' := [(0, .ref 165), (1, .int (Int32.ofInt k)), (2, .int (Int32.ofInt z))]) (st' := [.int (Int32.ofInt k), .ref 171]) 1 rfl ?_
        refine ym_iaload (e := t 171 k.toNat) hA rfl rfl (by decide) (by omega) (by omega) rfl ?_
        have hr := hnc k.toNat (by omega)
        refine xr_steps (pc' := 29) (L' := [(0, .ref 165), (1, .int (Int32.ofInt k)), (2, .int (Int32.ofInt z))]) (st' := [.int (Int32.ofInt 3), .int (Int32.ofInt (t 171 k.toNat))]) 1 rfl ?_
        refine xr_icmp_ne rfl (by omega) (by omega) (fun z5 => ?_) (fun z5 => ?_)
        · refine xr_steps (pc' := 38) (L' := [(3, .int (Int32.ofInt 0)), (0, .ref 165), (1, .int (Int32.ofInt k)), (2, .int (Int32.ofInt z))]) (st' := [.ref 165, .int (Int32.ofInt 0)]) 4 rfl ?_
          refine xr_getf (v := .ref 171) rfl (ym_165 hA) rfl ?_
          refine xr_steps (pc' := 42) (L' := [(3, .int (Int32.ofInt 0)), (0, .ref 165), (1, .int (Int32.ofInt k)), (2, .int (Int32.ofInt z))]) (st' := [.int (Int32.ofInt k), .ref 171, .int (Int32.ofInt 0)]) 1 rfl ?_
          refine ym_iaload (e := t 171 k.toNat) hA rfl rfl (by decide) (by omega) (by omega) rfl ?_
          refine xr_icmp_ge rfl (by omega) (by omega) (fun z6 => ?_) (fun z6 => ?_)
          · refine xr_steps (pc' := 69) (L' := [(3, .int (Int32.ofInt 0)), (0, .ref 165), (1, .int (Int32.ofInt k)), (2, .int (Int32.ofInt z))]) (st' := [.ref 165]) 1 rfl ?_
            refine xr_getf (v := .ref 172) rfl (ym_165 hA) rfl ?_
            refine xr_steps (pc' := 74) (L' := [(3, .int (Int32.ofInt 0)), (0, .ref 165), (1, .int (Int32.ofInt k)), (2, .int (Int32.ofInt z))]) (st' := [.int (Int32.ofInt k), .int (Int32.ofInt 3), .ref 172]) 2 rfl ?_
            refine xr_imul rfl ?_
            refine xr_steps (pc' := 76) (L' := [(3, .int (Int32.ofInt 0)), (0, .ref 165), (1, .int (Int32.ofInt k)), (2, .int (Int32.ofInt z))]) (st' := [.ref 165, .int (Int32.ofInt (3 * k)), .ref 172]) 1 rfl ?_
            refine xr_getf (v := .ref 171) rfl (ym_165 hA) rfl ?_
            refine xr_steps (pc' := 80) (L' := [(3, .int (Int32.ofInt 0)), (0, .ref 165), (1, .int (Int32.ofInt k)), (2, .int (Int32.ofInt z))]) (st' := [.int (Int32.ofInt k), .ref 171, .int (Int32.ofInt (3 * k)), .ref 172]) 1 rfl ?_
            refine ym_iaload (e := t 171 k.toNat) hA rfl rfl (by decide) (by omega) (by omega) rfl ?_
            refine xr_iadd rfl ?_
            refine xr_steps (pc' := 83) (L' := [(3, .int (Int32.ofInt 0)), (0, .ref 165), (1, .int (Int32.ofInt k)), (2, .int (Int32.ofInt z))]) (st' := [.int (Int32.ofInt z), .int (Int32.ofInt ((3 * k) + (t 171 k.toNat))), .ref 172]) 1 rfl ?_
            refine ym_iastore hA rfl rfl (by decide) (by omega) (by omega) ?_
            refine xr_steps (pc' := 85) (L' := [(3, .int (Int32.ofInt 0)), (0, .ref 165), (1, .int (Int32.ofInt k)), (2, .int (Int32.ofInt z))]) (st' := [.ref 165]) 1 rfl ?_
            refine xr_getf (v := .ref 171) rfl (ym_165 hA) rfl ?_
            refine xr_steps (pc' := 90) (L' := [(3, .int (Int32.ofInt 0)), (0, .ref 165), (1, .int (Int32.ofInt k)), (2, .int (Int32.ofInt z))]) (st' := [.int (Int32.ofInt k), .ref 171, .int (Int32.ofInt k), .ref 171]) 2 rfl ?_
            refine ym_iaload (e := t 171 k.toNat) hA rfl rfl (by decide) (by omega) (by omega) rfl ?_
            refine xr_steps (pc' := 92) (L' := [(3, .int (Int32.ofInt 0)), (0, .ref 165), (1, .int (Int32.ofInt k)), (2, .int (Int32.ofInt z))]) (st' := [.int (Int32.ofInt 1), .int (Int32.ofInt (t 171 k.toNat)), .int (Int32.ofInt k), .ref 171]) 1 rfl ?_
            refine xr_iadd rfl ?_
            refine ym_iastore hA rfl rfl (by decide) (by omega) (by omega) ?_
            refine xr_steps (pc' := 95) (L' := [(3, .int (Int32.ofInt 0)), (0, .ref 165), (1, .int (Int32.ofInt k)), (2, .int (Int32.ofInt z))]) (st' := [.int (Int32.ofInt 1)]) 1 rfl ?_
            unfold mo_cn at hb
            obtain rfl : b = 1 := by omega
            exact xr_retZ rfl rfl (by omega) ⟨_, rfl, rfl, by first | rfl | exact if_pos rfl | exact (if_neg (by decide))⟩
          · refine xr_steps (pc' := 47) (L' := [(3, .int (Int32.ofInt 0)), (0, .ref 165), (1, .int (Int32.ofInt k)), (2, .int (Int32.ofInt z))]) (st' := [.ref 165]) 1 rfl ?_
            refine xr_getf (v := .ref 172) rfl (ym_165 hA) rfl ?_
            refine xr_steps (pc' := 52) (L' := [(3, .int (Int32.ofInt 0)), (0, .ref 165), (1, .int (Int32.ofInt k)), (2, .int (Int32.ofInt z))]) (st' := [.int (Int32.ofInt k), .int (Int32.ofInt 3), .ref 172]) 2 rfl ?_
            refine xr_imul rfl ?_
            refine xr_steps (pc' := 54) (L' := [(3, .int (Int32.ofInt 0)), (0, .ref 165), (1, .int (Int32.ofInt k)), (2, .int (Int32.ofInt z))]) (st' := [.int (Int32.ofInt 0), .int (Int32.ofInt (3 * k)), .ref 172]) 1 rfl ?_
            refine xr_iadd rfl ?_
            refine ym_iaload (e := t 172 ((3 * k) + 0).toNat) hA rfl rfl (by decide) (by omega) (by omega) rfl ?_
            have hr2 := hnd (3 * k + 0).toNat (by omega); have hr3 := hnd (3 * k + (0 + 1)).toNat (by omega)
            refine xr_steps (pc' := 57) (L' := [(3, .int (Int32.ofInt 0)), (0, .ref 165), (1, .int (Int32.ofInt k)), (2, .int (Int32.ofInt z))]) (st' := [.int (Int32.ofInt z), .int (Int32.ofInt (t 172 ((3 * k) + 0).toNat))]) 1 rfl ?_
            refine xr_icmp_ne rfl (by omega) (by omega) (fun z7 => ?_) (fun z7 => ?_)
            · refine xr_iinc (L' := [(3, .int (Int32.ofInt (0 + 1))), (0, .ref 165), (1, .int (Int32.ofInt k)), (2, .int (Int32.ofInt z))]) rfl rfl rfl ?_
              refine xr_steps (pc' := 38) (L' := [(3, .int (Int32.ofInt (0 + 1))), (0, .ref 165), (1, .int (Int32.ofInt k)), (2, .int (Int32.ofInt z))]) (st' := [.ref 165, .int (Int32.ofInt (0 + 1))]) 3 rfl ?_
              refine xr_getf (v := .ref 171) rfl (ym_165 hA) rfl ?_
              refine xr_steps (pc' := 42) (L' := [(3, .int (Int32.ofInt (0 + 1))), (0, .ref 165), (1, .int (Int32.ofInt k)), (2, .int (Int32.ofInt z))]) (st' := [.int (Int32.ofInt k), .ref 171, .int (Int32.ofInt (0 + 1))]) 1 rfl ?_
              refine ym_iaload (e := t 171 k.toNat) hA rfl rfl (by decide) (by omega) (by omega) rfl ?_
              refine xr_icmp_ge rfl (by omega) (by omega) (fun z8 => ?_) (fun z8 => ?_)
              · refine xr_steps (pc' := 69) (L' := [(3, .int (Int32.ofInt (0 + 1))), (0, .ref 165), (1, .int (Int32.ofInt k)), (2, .int (Int32.ofInt z))]) (st' := [.ref 165]) 1 rfl ?_
                refine xr_getf (v := .ref 172) rfl (ym_165 hA) rfl ?_
                refine xr_steps (pc' := 74) (L' := [(3, .int (Int32.ofInt (0 + 1))), (0, .ref 165), (1, .int (Int32.ofInt k)), (2, .int (Int32.ofInt z))]) (st' := [.int (Int32.ofInt k), .int (Int32.ofInt 3), .ref 172]) 2 rfl ?_
                refine xr_imul rfl ?_
                refine xr_steps (pc' := 76) (L' := [(3, .int (Int32.ofInt (0 + 1))), (0, .ref 165), (1, .int (Int32.ofInt k)), (2, .int (Int32.ofInt z))]) (st' := [.ref 165, .int (Int32.ofInt (3 * k)), .ref 172]) 1 rfl ?_
                refine xr_getf (v := .ref 171) rfl (ym_165 hA) rfl ?_
                refine xr_steps (pc' := 80) (L' := [(3, .int (Int32.ofInt (0 + 1))), (0, .ref 165), (1, .int (Int32.ofInt k)), (2, .int (Int32.ofInt z))]) (st' := [.int (Int32.ofInt k), .ref 171, .int (Int32.ofInt (3 * k)), .ref 172]) 1 rfl ?_
                refine ym_iaload (e := t 171 k.toNat) hA rfl rfl (by decide) (by omega) (by omega) rfl ?_
                refine xr_iadd rfl ?_
                refine xr_steps (pc' := 83) (L' := [(3, .int (Int32.ofInt (0 + 1))), (0, .ref 165), (1, .int (Int32.ofInt k)), (2, .int (Int32.ofInt z))]) (st' := [.int (Int32.ofInt z), .int (Int32.ofInt ((3 * k) + (t 171 k.toNat))), .ref 172]) 1 rfl ?_
                refine ym_iastore hA rfl rfl (by decide) (by omega) (by omega) ?_
                refine xr_steps (pc' := 85) (L' := [(3, .int (Int32.ofInt (0 + 1))), (0, .ref 165), (1, .int (Int32.ofInt k)), (2, .int (Int32.ofInt z))]) (st' := [.ref 165]) 1 rfl ?_
                refine xr_getf (v := .ref 171) rfl (ym_165 hA) rfl ?_
                refine xr_steps (pc' := 90) (L' := [(3, .int (Int32.ofInt (0 + 1))), (0, .ref 165), (1, .int (Int32.ofInt k)), (2, .int (Int32.ofInt z))]) (st' := [.int (Int32.ofInt k), .ref 171, .int (Int32.ofInt k), .ref 171]) 2 rfl ?_
                refine ym_iaload (e := t 171 k.toNat) hA rfl rfl (by decide) (by omega) (by omega) rfl ?_
                refine xr_steps (pc' := 92) (L' := [(3, .int (Int32.ofInt (0 + 1))), (0, .ref 165), (1, .int (Int32.ofInt k)), (2, .int (Int32.ofInt z))]) (st' := [.int (Int32.ofInt 1), .int (Int32.ofInt (t 171 k.toNat)), .int (Int32.ofInt k), .ref 171]) 1 rfl ?_
                refine xr_iadd rfl ?_
                refine ym_iastore hA rfl rfl (by decide) (by omega) (by omega) ?_
                refine xr_steps (pc' := 95) (L' := [(3, .int (Int32.ofInt (0 + 1))), (0, .ref 165), (1, .int (Int32.ofInt k)), (2, .int (Int32.ofInt z))]) (st' := [.int (Int32.ofInt 1)]) 1 rfl ?_
                unfold mo_cn at hb
                obtain rfl : b = 1 := by omega
                exact xr_retZ rfl rfl (by omega) ⟨_, rfl, rfl, by first | rfl | exact if_pos rfl | exact (if_neg (by decide))⟩
              · refine xr_steps (pc' := 47) (L' := [(3, .int (Int32.ofInt (0 + 1))), (0, .ref 165), (1, .int (Int32.ofInt k)), (2, .int (Int32.ofInt z))]) (st' := [.ref 165]) 1 rfl ?_
                refine xr_getf (v := .ref 172) rfl (ym_165 hA) rfl ?_
                refine xr_steps (pc' := 52) (L' := [(3, .int (Int32.ofInt (0 + 1))), (0, .ref 165), (1, .int (Int32.ofInt k)), (2, .int (Int32.ofInt z))]) (st' := [.int (Int32.ofInt k), .int (Int32.ofInt 3), .ref 172]) 2 rfl ?_
                refine xr_imul rfl ?_
                refine xr_steps (pc' := 54) (L' := [(3, .int (Int32.ofInt (0 + 1))), (0, .ref 165), (1, .int (Int32.ofInt k)), (2, .int (Int32.ofInt z))]) (st' := [.int (Int32.ofInt (0 + 1)), .int (Int32.ofInt (3 * k)), .ref 172]) 1 rfl ?_
                refine xr_iadd rfl ?_
                refine ym_iaload (e := t 172 ((3 * k) + (0 + 1)).toNat) hA rfl rfl (by decide) (by omega) (by omega) rfl ?_
                have hr2 := hnd (3 * k + 0).toNat (by omega); have hr3 := hnd (3 * k + (0 + 1)).toNat (by omega)
                refine xr_steps (pc' := 57) (L' := [(3, .int (Int32.ofInt (0 + 1))), (0, .ref 165), (1, .int (Int32.ofInt k)), (2, .int (Int32.ofInt z))]) (st' := [.int (Int32.ofInt z), .int (Int32.ofInt (t 172 ((3 * k) + (0 + 1)).toNat))]) 1 rfl ?_
                refine xr_icmp_ne rfl (by omega) (by omega) (fun z9 => ?_) (fun z9 => ?_)
                · refine xr_iinc (L' := [(3, .int (Int32.ofInt ((0 + 1) + 1))), (0, .ref 165), (1, .int (Int32.ofInt k)), (2, .int (Int32.ofInt z))]) rfl rfl rfl ?_
                  refine xr_steps (pc' := 38) (L' := [(3, .int (Int32.ofInt ((0 + 1) + 1))), (0, .ref 165), (1, .int (Int32.ofInt k)), (2, .int (Int32.ofInt z))]) (st' := [.ref 165, .int (Int32.ofInt ((0 + 1) + 1))]) 3 rfl ?_
                  refine xr_getf (v := .ref 171) rfl (ym_165 hA) rfl ?_
                  refine xr_steps (pc' := 42) (L' := [(3, .int (Int32.ofInt ((0 + 1) + 1))), (0, .ref 165), (1, .int (Int32.ofInt k)), (2, .int (Int32.ofInt z))]) (st' := [.int (Int32.ofInt k), .ref 171, .int (Int32.ofInt ((0 + 1) + 1))]) 1 rfl ?_
                  refine ym_iaload (e := t 171 k.toNat) hA rfl rfl (by decide) (by omega) (by omega) rfl ?_
                  refine xr_icmp_ge rfl (by omega) (by omega) (fun z10 => ?_) (fun z10 => ?_)
                  · refine xr_steps (pc' := 69) (L' := [(3, .int (Int32.ofInt ((0 + 1) + 1))), (0, .ref 165), (1, .int (Int32.ofInt k)), (2, .int (Int32.ofInt z))]) (st' := [.ref 165]) 1 rfl ?_
                    refine xr_getf (v := .ref 172) rfl (ym_165 hA) rfl ?_
                    refine xr_steps (pc' := 74) (L' := [(3, .int (Int32.ofInt ((0 + 1) + 1))), (0, .ref 165), (1, .int (Int32.ofInt k)), (2, .int (Int32.ofInt z))]) (st' := [.int (Int32.ofInt k), .int (Int32.ofInt 3), .ref 172]) 2 rfl ?_
                    refine xr_imul rfl ?_
                    refine xr_steps (pc' := 76) (L' := [(3, .int (Int32.ofInt ((0 + 1) + 1))), (0, .ref 165), (1, .int (Int32.ofInt k)), (2, .int (Int32.ofInt z))]) (st' := [.ref 165, .int (Int32.ofInt (3 * k)), .ref 172]) 1 rfl ?_
                    refine xr_getf (v := .ref 171) rfl (ym_165 hA) rfl ?_
                    refine xr_steps (pc' := 80) (L' := [(3, .int (Int32.ofInt ((0 + 1) + 1))), (0, .ref 165), (1, .int (Int32.ofInt k)), (2, .int (Int32.ofInt z))]) (st' := [.int (Int32.ofInt k), .ref 171, .int (Int32.ofInt (3 * k)), .ref 172]) 1 rfl ?_
                    refine ym_iaload (e := t 171 k.toNat) hA rfl rfl (by decide) (by omega) (by omega) rfl ?_
                    refine xr_iadd rfl ?_
                    refine xr_steps (pc' := 83) (L' := [(3, .int (Int32.ofInt ((0 + 1) + 1))), (0, .ref 165), (1, .int (Int32.ofInt k)), (2, .int (Int32.ofInt z))]) (st' := [.int (Int32.ofInt z), .int (Int32.ofInt ((3 * k) + (t 171 k.toNat))), .ref 172]) 1 rfl ?_
                    refine ym_iastore hA rfl rfl (by decide) (by omega) (by omega) ?_
                    refine xr_steps (pc' := 85) (L' := [(3, .int (Int32.ofInt ((0 + 1) + 1))), (0, .ref 165), (1, .int (Int32.ofInt k)), (2, .int (Int32.ofInt z))]) (st' := [.ref 165]) 1 rfl ?_
                    refine xr_getf (v := .ref 171) rfl (ym_165 hA) rfl ?_
                    refine xr_steps (pc' := 90) (L' := [(3, .int (Int32.ofInt ((0 + 1) + 1))), (0, .ref 165), (1, .int (Int32.ofInt k)), (2, .int (Int32.ofInt z))]) (st' := [.int (Int32.ofInt k), .ref 171, .int (Int32.ofInt k), .ref 171]) 2 rfl ?_
                    refine ym_iaload (e := t 171 k.toNat) hA rfl rfl (by decide) (by omega) (by omega) rfl ?_
                    refine xr_steps (pc' := 92) (L' := [(3, .int (Int32.ofInt ((0 + 1) + 1))), (0, .ref 165), (1, .int (Int32.ofInt k)), (2, .int (Int32.ofInt z))]) (st' := [.int (Int32.ofInt 1), .int (Int32.ofInt (t 171 k.toNat)), .int (Int32.ofInt k), .ref 171]) 1 rfl ?_
                    refine xr_iadd rfl ?_
                    refine ym_iastore hA rfl rfl (by decide) (by omega) (by omega) ?_
                    refine xr_steps (pc' := 95) (L' := [(3, .int (Int32.ofInt ((0 + 1) + 1))), (0, .ref 165), (1, .int (Int32.ofInt k)), (2, .int (Int32.ofInt z))]) (st' := [.int (Int32.ofInt 1)]) 1 rfl ?_
                    unfold mo_cn at hb
                    obtain rfl : b = 1 := by omega
                    exact xr_retZ rfl rfl (by omega) ⟨_, rfl, rfl, by first | rfl | exact if_pos rfl | exact (if_neg (by decide))⟩
                  · exfalso; omega
                · refine xr_steps (pc' := 61) (L' := [(3, .int (Int32.ofInt (0 + 1))), (0, .ref 165), (1, .int (Int32.ofInt k)), (2, .int (Int32.ofInt z))]) (st' := [.int (Int32.ofInt 0)]) 1 rfl ?_
                  unfold mo_cn at hb
                  obtain rfl : b = 0 := by omega
                  exact xr_retZ rfl rfl (by omega) ⟨_, rfl, rfl, by first | rfl | exact if_pos rfl | exact (if_neg (by decide))⟩
            · refine xr_steps (pc' := 61) (L' := [(3, .int (Int32.ofInt 0)), (0, .ref 165), (1, .int (Int32.ofInt k)), (2, .int (Int32.ofInt z))]) (st' := [.int (Int32.ofInt 0)]) 1 rfl ?_
              unfold mo_cn at hb
              obtain rfl : b = 0 := by omega
              exact xr_retZ rfl rfl (by omega) ⟨_, rfl, rfl, by first | rfl | exact if_pos rfl | exact (if_neg (by decide))⟩
        · refine xr_steps (pc' := 33) (L' := [(0, .ref 165), (1, .int (Int32.ofInt k)), (2, .int (Int32.ofInt z))]) (st' := [.int (Int32.ofInt 0)]) 1 rfl ?_
          unfold mo_cn at hb
          obtain rfl : b = 0 := by omega
          exact xr_retZ rfl rfl (by omega) ⟨_, rfl, rfl, by first | rfl | exact if_pos rfl | exact (if_neg (by decide))⟩
theorem mo_210 {w : Value} {d : Nat} {A : xb_H} {c : Int} (hc : 0 ≤ c ∧ c ≤ 65535) {b : Int} (hb : (b = 1 ∧ (97 ≤ c ∧ c ≤ 122)) ∨ (b = 0 ∧ ¬ (97 ≤ c ∧ c ≤ 122))) : xr_ok (xt_G w) d 210 0 [(0, .int (Int32.ofInt c))] [] A (fun o A' => ∃ v, o = .inl v ∧ v = some (.int (Int32.ofInt b)) ∧ A' = A) := by
  refine xr_steps (pc' := 3) (L' := [(0, .int (Int32.ofInt c))]) (st' := [.int (Int32.ofInt 97), .int (Int32.ofInt c)]) 2 rfl ?_
  refine xr_icmp_lt rfl (by omega) (by omega) (fun z1 => ?_) (fun z1 => ?_)
  · refine xr_steps (pc' := 17) (L' := [(0, .int (Int32.ofInt c))]) (st' := [.int (Int32.ofInt 0)]) 1 rfl ?_
    obtain rfl : b = 0 := by omega
    exact xr_retZ rfl rfl (by omega) ⟨_, rfl, rfl, by first | rfl | exact if_pos rfl | exact (if_neg (by decide))⟩
  · refine xr_steps (pc' := 9) (L' := [(0, .int (Int32.ofInt c))]) (st' := [.int (Int32.ofInt 122), .int (Int32.ofInt c)]) 2 rfl ?_
    refine xr_icmp_gt rfl (by omega) (by omega) (fun z2 => ?_) (fun z2 => ?_)
    · refine xr_steps (pc' := 17) (L' := [(0, .int (Int32.ofInt c))]) (st' := [.int (Int32.ofInt 0)]) 1 rfl ?_
      obtain rfl : b = 0 := by omega
      exact xr_retZ rfl rfl (by omega) ⟨_, rfl, rfl, by first | rfl | exact if_pos rfl | exact (if_neg (by decide))⟩
    · refine xr_steps (pc' := 17) (L' := [(0, .int (Int32.ofInt c))]) (st' := [.int (Int32.ofInt 1)]) 2 rfl ?_
      obtain rfl : b = 1 := by omega
      exact xr_retZ rfl rfl (by omega) ⟨_, rfl, rfl, by first | rfl | exact if_pos rfl | exact (if_neg (by decide))⟩
theorem mo_213 {w : Value} {d : Nat} {A : xb_H} {c : Int} (hc : 0 ≤ c ∧ c ≤ 65535) {b : Int} (hb : (b = 1 ∧ (48 ≤ c ∧ c ≤ 57)) ∨ (b = 0 ∧ ¬ (48 ≤ c ∧ c ≤ 57))) : xr_ok (xt_G w) d 213 0 [(0, .int (Int32.ofInt c))] [] A (fun o A' => ∃ v, o = .inl v ∧ v = some (.int (Int32.ofInt b)) ∧ A' = A) := by
  refine xr_steps (pc' := 3) (L' := [(0, .int (Int32.ofInt c))]) (st' := [.int (Int32.ofInt 48), .int (Int32.ofInt c)]) 2 rfl ?_
  refine xr_icmp_lt rfl (by omega) (by omega) (fun z1 => ?_) (fun z1 => ?_)
  · refine xr_steps (pc' := 17) (L' := [(0, .int (Int32.ofInt c))]) (st' := [.int (Int32.ofInt 0)]) 1 rfl ?_
    obtain rfl : b = 0 := by omega
    exact xr_retZ rfl rfl (by omega) ⟨_, rfl, rfl, by first | rfl | exact if_pos rfl | exact (if_neg (by decide))⟩
  · refine xr_steps (pc' := 9) (L' := [(0, .int (Int32.ofInt c))]) (st' := [.int (Int32.ofInt 57), .int (Int32.ofInt c)]) 2 rfl ?_
    refine xr_icmp_gt rfl (by omega) (by omega) (fun z2 => ?_) (fun z2 => ?_)
    · refine xr_steps (pc' := 17) (L' := [(0, .int (Int32.ofInt c))]) (st' := [.int (Int32.ofInt 0)]) 1 rfl ?_
      obtain rfl : b = 0 := by omega
      exact xr_retZ rfl rfl (by omega) ⟨_, rfl, rfl, by first | rfl | exact if_pos rfl | exact (if_neg (by decide))⟩
    · refine xr_steps (pc' := 17) (L' := [(0, .int (Int32.ofInt c))]) (st' := [.int (Int32.ofInt 1)]) 2 rfl ?_
      obtain rfl : b = 1 := by omega
      exact xr_retZ rfl rfl (by omega) ⟨_, rfl, rfl, by first | rfl | exact if_pos rfl | exact (if_neg (by decide))⟩
/-- all[p] where it is text, a blank elsewhere -/
def mo_at (s : Nat → Int) (t : Nat → Nat → Int) (p : Int) : Int := if 400 ≤ p ∧ p < 400 + s 2 then t 166 p.toNat else 32
theorem mo_209 {w : Value} {d : Nat} {A : xb_H} {s : Nat → Int} {t : Nat → Nat → Int} {p : Int} (hA : 194 ≤ A.1) (hp : -2147483648 ≤ p ∧ p ≤ 2147483647) (ht : 0 ≤ s 2 ∧ s 2 ≤ 100) (hc : ∀ j : Nat, j < 3712 → 0 ≤ t 166 j ∧ t 166 j ≤ 65535) : xr_ok (xt_G w) d 209 0 [(0, .ref 165), (1, .int (Int32.ofInt p))] [] (ym A s t) (fun o A' => ∃ v, o = .inl v ∧ v = some (.int (Int32.ofInt (mo_at s t p))) ∧ A' = ym A s t) := by
  refine xr_steps (pc' := 4) (L' := [(0, .ref 165), (1, .int (Int32.ofInt p))]) (st' := [.int (Int32.ofInt 400), .int (Int32.ofInt p)]) 2 rfl ?_
  refine xr_icmp_lt rfl (by omega) (by omega) (fun z1 => ?_) (fun z1 => ?_)
  · refine xr_steps (pc' := 30) (L' := [(0, .ref 165), (1, .int (Int32.ofInt p))]) (st' := [.int (Int32.ofInt 32)]) 1 rfl ?_
    exact xr_retCh rfl rfl (by omega) ⟨_, rfl, by unfold mo_at; first | rw [if_pos (by omega)] | rw [if_neg (by omega)], rfl⟩
  · refine xr_steps (pc' := 12) (L' := [(0, .ref 165), (1, .int (Int32.ofInt p))]) (st' := [.ref 165, .int (Int32.ofInt 400), .int (Int32.ofInt p)]) 3 rfl ?_
    refine xr_getf (v := .int (Int32.ofInt (s 2))) rfl (ym_165 hA) rfl ?_
    refine xr_iadd rfl ?_
    refine xr_icmp_ge rfl (by omega) (by omega) (fun z2 => ?_) (fun z2 => ?_)
    · refine xr_steps (pc' := 30) (L' := [(0, .ref 165), (1, .int (Int32.ofInt p))]) (st' := [.int (Int32.ofInt 32)]) 1 rfl ?_
      exact xr_retCh rfl rfl (by omega) ⟨_, rfl, by unfold mo_at; first | rw [if_pos (by omega)] | rw [if_neg (by omega)], rfl⟩
    · refine xr_steps (pc' := 20) (L' := [(0, .ref 165), (1, .int (Int32.ofInt p))]) (st' := [.ref 165]) 1 rfl ?_
      refine xr_getf (v := .ref 166) rfl (ym_165 hA) rfl ?_
      refine xr_steps (pc' := 24) (L' := [(0, .ref 165), (1, .int (Int32.ofInt p))]) (st' := [.int (Int32.ofInt p), .ref 166]) 1 rfl ?_
      refine ym_caload (e := t 166 p.toNat) hA rfl rfl (by decide) (by omega) (by omega) rfl ?_
      have hr := hc p.toNat (by omega)
      refine xr_steps (pc' := 30) (L' := [(0, .ref 165), (1, .int (Int32.ofInt p))]) (st' := [.int (Int32.ofInt (t 166 p.toNat))]) 1 rfl ?_
      exact xr_retCh rfl rfl (by omega) ⟨_, rfl, by unfold mo_at; first | rw [if_pos (by omega)] | rw [if_neg (by omega)], rfl⟩
theorem mo_at_rng {s : Nat → Int} {t : Nat → Nat → Int} (hc : ∀ j : Nat, j < 3712 → 0 ≤ t 166 j ∧ t 166 j ≤ 65535) (h2 : s 2 ≤ 100) (p : Int) : 0 ≤ mo_at s t p ∧ mo_at s t p ≤ 65535 := by
  unfold mo_at
  split
  · exact hc _ (by omega)
  · omega
theorem mo_214 {w : Value} {d : Nat} {A : xb_H} {s : Nat → Int} {t : Nat → Nat → Int}  (hA : 194 ≤ A.1) (ht : 0 ≤ s 2 ∧ s 2 ≤ 100) : xr_ok (xt_G w) d 214 0 [(0, .ref 165)] [] (ym A s t) (fun o A' => ∃ v, o = .inl v ∧ v = none ∧ A' = ym A s (va_up t 166 (va_up (t 166) (400 + s 2).toNat 0))) := by
  refine xr_steps (pc' := 1) (L' := [(0, .ref 165)]) (st' := [.ref 165]) 1 rfl ?_
  refine xr_getf (v := .ref 166) rfl (ym_165 hA) rfl ?_
  refine xr_steps (pc' := 8) (L' := [(0, .ref 165)]) (st' := [.ref 165, .int (Int32.ofInt 400), .ref 166]) 2 rfl ?_
  refine xr_getf (v := .int (Int32.ofInt (s 2))) rfl (ym_165 hA) rfl ?_
  refine xr_iadd rfl ?_
  refine xr_steps (pc' := 13) (L' := [(0, .ref 165)]) (st' := [.int (Int32.ofInt 0), .int (Int32.ofInt (400 + (s 2))), .ref 166]) 1 rfl ?_
  refine ym_castore hA rfl rfl (by decide) (by omega) (by omega) (by omega) ?_
  exact xr_retN rfl rfl ⟨_, rfl, rfl, rfl⟩
theorem mo_206a {w : Value} {d : Nat} {A : xb_H} {s : Nat → Int} {t : Nat → Nat → Int} {x : Int} (hA : 194 ≤ A.1) (hx : 0 ≤ x ∧ x ≤ 1) (hm : s 3 = 4) : xr_ok (xt_G w) d 206 0 [(0, .ref 165), (1, .int (Int32.ofInt x))] [] (ym A s t) (fun o A' => ∃ v, o = .inl v ∧ v = some (.int (Int32.ofInt 0)) ∧ A' = ym A (va_up s 0 1) t) := by
  refine xr_steps (pc' := 2) (L' := [(0, .ref 165), (1, .int (Int32.ofInt x))]) (st' := [.ref 165, .ref 165]) 2 rfl ?_
  refine xr_getf (v := .int (Int32.ofInt (s 3))) rfl (ym_165 hA) rfl ?_
  refine xr_steps (pc' := 6) (L' := [(0, .ref 165), (1, .int (Int32.ofInt x))]) (st' := [.int (Int32.ofInt 4), .int (Int32.ofInt (s 3)), .ref 165]) 1 rfl ?_
  refine xr_icmp_ne rfl (by omega) (by omega) (fun z1 => ?_) (fun z1 => ?_)
  · exact absurd hm z1
  · refine xr_steps (pc' := 14) (L' := [(0, .ref 165), (1, .int (Int32.ofInt x))]) (st' := [.int (Int32.ofInt 1), .ref 165]) 2 rfl ?_
    refine ym_putI hA rfl rfl rfl ?_
    refine xr_steps (pc' := 18) (L' := [(0, .ref 165), (1, .int (Int32.ofInt x))]) (st' := [.ref 165]) 1 rfl ?_
    refine xr_getf (v := .int (Int32.ofInt 1)) rfl (ym_165 hA) rfl ?_
    refine xr_if_le rfl (by omega) (fun z2 => ?_) (fun z2 => ?_)
    · exfalso; omega
    · refine xr_steps (pc' := 25) (L' := [(0, .ref 165), (1, .int (Int32.ofInt x))]) (st' := [.int (Int32.ofInt 0)]) 1 rfl ?_
      exact xr_retI2 rfl rfl ⟨_, rfl, rfl, rfl⟩
theorem mo_206 {w : Value} {d : Nat} {A : xb_H} {s : Nat → Int} {t : Nat → Nat → Int} {x : Int} (hA : 194 ≤ A.1) (hx : 0 ≤ x ∧ x ≤ 1) (hm : 0 ≤ s 3 ∧ s 3 ≤ 3) : xr_ok (xt_G w) d 206 0 [(0, .ref 165), (1, .int (Int32.ofInt x))] [] (ym A s t) (fun o A' => ∃ v, o = .inl v ∧ v = some (.int (Int32.ofInt (s 3))) ∧ A' = ym A (va_up (va_up s 0 0) 3 (s 3 + 1)) (va_up t 167 (va_up (t 167) (s 3).toNat x))) := by
  refine xr_steps (pc' := 2) (L' := [(0, .ref 165), (1, .int (Int32.ofInt x))]) (st' := [.ref 165, .ref 165]) 2 rfl ?_
  refine xr_getf (v := .int (Int32.ofInt (s 3))) rfl (ym_165 hA) rfl ?_
  refine xr_steps (pc' := 6) (L' := [(0, .ref 165), (1, .int (Int32.ofInt x))]) (st' := [.int (Int32.ofInt 4), .int (Int32.ofInt (s 3)), .ref 165]) 1 rfl ?_
  refine xr_icmp_ne rfl (by omega) (by omega) (fun z1 => ?_) (fun z1 => ?_)
  · refine xr_steps (pc' := 14) (L' := [(0, .ref 165), (1, .int (Int32.ofInt x))]) (st' := [.int (Int32.ofInt 0), .ref 165]) 1 rfl ?_
    refine ym_putI hA rfl rfl rfl ?_
    refine xr_steps (pc' := 18) (L' := [(0, .ref 165), (1, .int (Int32.ofInt x))]) (st' := [.ref 165]) 1 rfl ?_
    refine xr_getf (v := .int (Int32.ofInt 0)) rfl (ym_165 hA) rfl ?_
    refine xr_if_le rfl (by omega) (fun z2 => ?_) (fun z2 => ?_)
    · refine xr_steps (pc' := 27) (L' := [(0, .ref 165), (1, .int (Int32.ofInt x))]) (st' := [.ref 165]) 1 rfl ?_
      refine xr_getf (v := .ref 167) rfl (ym_165 hA) rfl ?_
      refine xr_steps (pc' := 31) (L' := [(0, .ref 165), (1, .int (Int32.ofInt x))]) (st' := [.ref 165, .ref 167]) 1 rfl ?_
      refine xr_getf (v := .int (Int32.ofInt (s 3))) rfl (ym_165 hA) rfl ?_
      refine xr_steps (pc' := 35) (L' := [(0, .ref 165), (1, .int (Int32.ofInt x))]) (st' := [.int (Int32.ofInt x), .int (Int32.ofInt (s 3)), .ref 167]) 1 rfl ?_
      refine ym_bastore hA rfl rfl (by decide) (by omega) (by omega) (by omega) ?_
      refine xr_steps (pc' := 38) (L' := [(0, .ref 165), (1, .int (Int32.ofInt x))]) (st' := [.ref 165, .ref 165]) 2 rfl ?_
      refine xr_getf (v := .int (Int32.ofInt (s 3))) rfl (ym_165 hA) rfl ?_
      refine xr_steps (pc' := 42) (L' := [(0, .ref 165), (1, .int (Int32.ofInt x))]) (st' := [.int (Int32.ofInt 1), .int (Int32.ofInt (s 3)), .ref 165]) 1 rfl ?_
      refine xr_iadd rfl ?_
      refine ym_putI hA rfl rfl rfl ?_
      refine xr_steps (pc' := 47) (L' := [(0, .ref 165), (1, .int (Int32.ofInt x))]) (st' := [.ref 165]) 1 rfl ?_
      refine xr_getf (v := .int (Int32.ofInt ((s 3) + 1))) rfl (ym_165 hA) rfl ?_
      refine xr_steps (pc' := 51) (L' := [(0, .ref 165), (1, .int (Int32.ofInt x))]) (st' := [.int (Int32.ofInt 1), .int (Int32.ofInt ((s 3) + 1))]) 1 rfl ?_
      refine xr_isub rfl ?_
      exact xr_retI2 rfl rfl ⟨_, rfl, congrArg (fun z => some (Value.int (Int32.ofInt z))) (by omega), rfl⟩
    · exfalso; omega
  · exfalso; omega
