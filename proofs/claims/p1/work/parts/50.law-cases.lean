/-! The law's cases, out of what the two calls do -/
/-- the locals at the loop's head -/
def yl_L (L : xb_L) (i : Int) : Prop := xb_ld L 0 = some (.ref 20) ∧ xb_ld L 1 = some (.ref 64) ∧ xb_ld L 2 = some (.ref 165) ∧ xb_ld L 3 = some (.ref 193) ∧ xb_ld L 4 = some (.int (Int32.ofInt i))
theorem yl_ld_st {L : xb_L} {i j : Nat} {v u : Value} (h : xb_ld L j = some u) (hu : u.category = 1) (hne : ¬ j = i) : xb_ld (xb_st L i v) j = some u := by
  unfold xb_ld xb_st at *
  have hji : (j == i) = false := by simp [hne]
  rw [List.lookup_cons, hji]
  dsimp only
  induction L with
  | nil => cases h
  | cons q L ih =>
    obtain ⟨a, x⟩ := q
    rw [List.lookup_cons] at h
    by_cases e : j = a
    · subst e
      simp only [beq_self_eq_true] at h
      cases h
      rw [List.filter_cons_of_pos (by simp [hji, hu]), List.lookup_cons]
      simp
    · have e1 : (j == a) = false := by simp [e]
      rw [e1] at h
      rw [List.filter_cons]
      split
      · rw [List.lookup_cons, e1]
        exact ih h
      · exact ih h
theorem yl_st_ld (L : xb_L) (i : Nat) (v : Value) : xb_ld (xb_st L i v) i = some v := by
  unfold xb_ld xb_st
  rw [List.lookup_cons]
  simp
theorem yl_L_st {L : xb_L} {i : Int} {j : Nat} {v : Value} (h : yl_L L i) (hj : 5 ≤ j) : yl_L (xb_st L j v) i :=
  ⟨yl_ld_st h.1 rfl (by omega), yl_ld_st h.2.1 rfl (by omega), yl_ld_st h.2.2.1 rfl (by omega), yl_ld_st h.2.2.2.1 rfl (by omega), yl_ld_st h.2.2.2.2 rfl (by omega)⟩
/-- what the law itself needs of the heap -/
def yl_st (A : xb_H) (n : Nat) (xs : Nat → Int32) : Prop := xb_get A 20 = some (.inl (.int, n, .inl xs)) ∧ (∃ fs, xb_get A 64 = some (.inr (0, fs))) ∧ ∃ fs, xb_get A 165 = some (.inr (10, fs))
/-- the class's call and the reference's behind it answer alike -/
def yl_pair (w : Value) (yx ym : Nat) (av : List Value) (A : xb_H) (n : Nat) (xs : Nat → Int32) (J : xb_H → Prop) : Prop :=
  xr_ok (xt_G w) xl_d yx 0 (lv_args 0 (.ref 64 :: av)) [] A (fun o A1 => ∃ v, o = .inl v ∧ ∃ x : Int32, v = some (.int x) ∧ yl_st A1 n xs ∧ xr_ok (xt_G w) xl_d ym 0 (lv_args 0 (.ref 165 :: av)) [] A1 (fun o2 A2 => ∃ u, o2 = .inl u ∧ u = some (.int x) ∧ J A2))
/-- the same for calls that may throw: v is the number of the exception, or 0 -/
def yl_K (w : Value) (ym : Nat) (x : Int32) (n : Nat) (xs : Nat → Int32) (J : xb_H → Prop) (v : Int32) (A' : xb_H) : Prop :=
  yl_st A' n xs ∧ xr_ok (xt_G w) xl_d ym 0 (lv_args 0 [.ref 165, .int x]) [] A' (fun o2 A2 => ∃ u, o2 = .inl u ∧ ∃ b : Int32, u = some (.int b) ∧ (∃ fs : List Value, xb_get A2 165 = some (.inr (10, fs)) ∧ fs[0]? = some (Value.int v)) ∧ (v = 0 → ∃ f : Nat → Int64, xb_get A2 193 = some (.inl (.long, 1, .inr (.inl f))) ∧ f 0 = b.toInt64) ∧ J A2)
def yl_pairT (w : Value) (two : Bool) (yx ym : Nat) (x : Int32) (A : xb_H) (n : Nat) (xs : Nat → Int32) (J : xb_H → Prop) : Prop :=
  xr_ok (xt_G w) xl_d yx 0 (lv_args 0 [.ref 64, .int x]) [] A (fun o A1 => ∃ v A', xp_res two 193 o A1 v A' ∧ yl_K w ym x n xs J v A')
theorem yl_rcv64 {w : Value} {A : xb_H} {n : Nat} {xs : Nat → Int32} {y : Nat} {rest : List Value} (hy : xb_gV (xt_G w) y = some 0) (h : yl_st A n xs) : xb_rcv (xt_G w) y (.ref 64 :: rest) A = true := by
  obtain ⟨fs, h2⟩ := h.2.1
  exact xr_rcv hy h2
theorem yl_rcv165 {w : Value} {A : xb_H} {n : Nat} {xs : Nat → Int32} {y : Nat} {rest : List Value} (hy : xb_gV (xt_G w) y = some 10) (h : yl_st A n xs) : xb_rcv (xt_G w) y (.ref 165 :: rest) A = true := by
  obtain ⟨fs, h2⟩ := h.2.2
  exact xr_rcv hy h2
section YLC
variable {w : Value} {pc n : Nat} {L : xb_L} {st : List Value} {A : xb_H} {Q : Int32 → xb_H → Prop} {xs : Nat → Int32} {i : Int}
theorem yl_ald {k : Fin 4} {a : Nat} (h : xb_gP (xt_G w) 260 pc = some (.aload_n k, 1, 0, 0)) (hl : xb_ld L k = some (.ref a)) (kk : xl_ok (xt_G w) (pc + 1) L (.ref a :: st) A Q) : xl_ok (xt_G w) pc L st A Q := by
  refine xl_pure (r := (pc + 1, L, .ref a :: st, A)) h (Or.inl rfl) ?_ kk
  show xb_aldx pc 1 k L A st = _
  unfold xb_aldx
  rw [hl]
theorem yl_ild {k : Nat} {x : Int32} (h : xb_gP (xt_G w) 260 pc = some (.iload k, 2, 0, 0)) (hl : xb_ld L k = some (.int x)) (kk : xl_ok (xt_G w) (pc + 2) L (.int x :: st) A Q) : xl_ok (xt_G w) pc L st A Q := by
  refine xl_pure (r := (pc + 2, L, .int x :: st, A)) h (Or.inl rfl) ?_ kk
  show xb_ildx pc 2 k L A st = _
  unfold xb_ildx
  rw [hl]
/-- the turn's end -/
theorem yl_596 (hL : yl_L L i) (hi : 0 ≤ i ∧ i ≤ 2000) (k : ∀ L', yl_L L' (i + 3) → xl_ok (xt_G w) 23 L' [] A Q) : xl_ok (xt_G w) 596 L [] A Q := by
  refine xl_pure (r := (599, xb_st L 4 (.int (Int32.ofInt (i + 3))), [], A)) (yl_P596 w) (Or.inl rfl) ?_ ?_
  · show xb_iincx 596 4 3 L A [] = _
    unfold xb_iincx
    rw [hL.2.2.2.2, Int32.ofInt_add]
  refine xl_pure (r := (23, xb_st L 4 (.int (Int32.ofInt (i + 3))), [], A)) (yl_P599 w) (Or.inl rfl) rfl ?_
  exact k _ ⟨yl_ld_st hL.1 rfl (by omega), yl_ld_st hL.2.1 rfl (by omega), yl_ld_st hL.2.2.1 rfl (by omega), yl_ld_st hL.2.2.2.1 rfl (by omega), yl_st_ld _ _ _⟩
theorem yl_c4 (hL : yl_L L i) (hst : yl_st A n xs) (hi : 0 ≤ i ∧ i + 3 ≤ n ∧ n ≤ 1536) {J : xb_H → Prop} (hp : yl_pair w 38 225 [.int (xs (i + 1).toNat), .int (xs (i + 2).toNat)] A n xs J) (k : ∀ A2, J A2 → xl_ok (xt_G w) 596 L [] A2 Q) : xl_ok (xt_G w) 341 L [] A Q := by
  refine yl_ald (yl_P341 w) hL.2.1 ?_
  refine yl_arg 1 (by omega) (yl_P342 w) (yl_P343 w) (yl_P345 w) (yl_P346 w) (yl_P347 w) hL.1 hL.2.2.2.2 hst.1 hi ?_
  refine yl_arg 2 (by omega) (yl_P348 w) (yl_P349 w) (yl_P351 w) (yl_P352 w) (yl_P353 w) hL.1 hL.2.2.2.2 hst.1 hi ?_
  refine xl_call (q := (.invokevirtual 55, 3, 38, 3)) (av := .ref 64 :: [.int (xs (i + 1).toNat), .int (xs (i + 2).toNat)]) (rest := []) (yl_P354 w) rfl (by decide) rfl (yl_rcv64 rfl hst) (Nat.le_of_ble_eq_true rfl) hp ?_
  rintro _ A1 ⟨x, rfl, hst1, hp1⟩
  refine yl_ald (yl_P357 w) hL.2.2.1 ?_
  refine yl_arg 1 (by omega) (yl_P358 w) (yl_P359 w) (yl_P361 w) (yl_P362 w) (yl_P363 w) hL.1 hL.2.2.2.2 hst1.1 hi ?_
  refine yl_arg 2 (by omega) (yl_P364 w) (yl_P365 w) (yl_P367 w) (yl_P368 w) (yl_P369 w) hL.1 hL.2.2.2.2 hst1.1 hi ?_
  refine xl_call (q := (.invokevirtual 59, 3, 225, 3)) (av := .ref 165 :: [.int (xs (i + 1).toNat), .int (xs (i + 2).toNat)]) (rest := [.int x]) (yl_P370 w) rfl (by decide) rfl (yl_rcv165 rfl hst1) (Nat.le_of_ble_eq_true rfl) hp1 ?_
  rintro _ A2 ⟨rfl, hJ⟩
  exact yl_eq (yl_P373 w) (k A2 hJ)
theorem yl_c5 (hL : yl_L L i) (hst : yl_st A n xs) (hi : 0 ≤ i ∧ i + 3 ≤ n ∧ n ≤ 1536) {J : xb_H → Prop} (hp : yl_pair w 43 226 [.int (xs (i + 1).toNat), .int (xs (i + 2).toNat)] A n xs J) (k : ∀ A2, J A2 → xl_ok (xt_G w) 596 L [] A2 Q) : xl_ok (xt_G w) 378 L [] A Q := by
  refine yl_ald (yl_P378 w) hL.2.1 ?_
  refine yl_arg 1 (by omega) (yl_P379 w) (yl_P380 w) (yl_P382 w) (yl_P383 w) (yl_P384 w) hL.1 hL.2.2.2.2 hst.1 hi ?_
  refine yl_arg 2 (by omega) (yl_P385 w) (yl_P386 w) (yl_P388 w) (yl_P389 w) (yl_P390 w) hL.1 hL.2.2.2.2 hst.1 hi ?_
  refine xl_call (q := (.invokevirtual 60, 3, 43, 3)) (av := .ref 64 :: [.int (xs (i + 1).toNat), .int (xs (i + 2).toNat)]) (rest := []) (yl_P391 w) rfl (by decide) rfl (yl_rcv64 rfl hst) (Nat.le_of_ble_eq_true rfl) hp ?_
  rintro _ A1 ⟨x, rfl, hst1, hp1⟩
  refine yl_ald (yl_P394 w) hL.2.2.1 ?_
  refine yl_arg 1 (by omega) (yl_P395 w) (yl_P396 w) (yl_P398 w) (yl_P399 w) (yl_P400 w) hL.1 hL.2.2.2.2 hst1.1 hi ?_
  refine yl_arg 2 (by omega) (yl_P401 w) (yl_P402 w) (yl_P404 w) (yl_P405 w) (yl_P406 w) hL.1 hL.2.2.2.2 hst1.1 hi ?_
  refine xl_call (q := (.invokevirtual 63, 3, 226, 3)) (av := .ref 165 :: [.int (xs (i + 1).toNat), .int (xs (i + 2).toNat)]) (rest := [.int x]) (yl_P407 w) rfl (by decide) rfl (yl_rcv165 rfl hst1) (Nat.le_of_ble_eq_true rfl) hp1 ?_
  rintro _ A2 ⟨rfl, hJ⟩
  exact yl_eq (yl_P410 w) (k A2 hJ)
theorem yl_c6 (hL : yl_L L i) (hst : yl_st A n xs) (hi : 0 ≤ i ∧ i + 3 ≤ n ∧ n ≤ 1536) {J : xb_H → Prop} (hp : yl_pair w 45 232 [.int (xs (i + 1).toNat)] A n xs J) (k : ∀ A2, J A2 → xl_ok (xt_G w) 596 L [] A2 Q) : xl_ok (xt_G w) 415 L [] A Q := by
  refine yl_ald (yl_P415 w) hL.2.1 ?_
  refine yl_arg 1 (by omega) (yl_P416 w) (yl_P417 w) (yl_P419 w) (yl_P420 w) (yl_P421 w) hL.1 hL.2.2.2.2 hst.1 hi ?_
  refine xl_call (q := (.invokevirtual 64, 3, 45, 2)) (av := .ref 64 :: [.int (xs (i + 1).toNat)]) (rest := []) (yl_P422 w) rfl (by decide) rfl (yl_rcv64 rfl hst) (Nat.le_of_ble_eq_true rfl) hp ?_
  rintro _ A1 ⟨x, rfl, hst1, hp1⟩
  refine yl_ald (yl_P425 w) hL.2.2.1 ?_
  refine yl_arg 1 (by omega) (yl_P426 w) (yl_P427 w) (yl_P429 w) (yl_P430 w) (yl_P431 w) hL.1 hL.2.2.2.2 hst1.1 hi ?_
  refine xl_call (q := (.invokevirtual 67, 3, 232, 2)) (av := .ref 165 :: [.int (xs (i + 1).toNat)]) (rest := [.int x]) (yl_P432 w) rfl (by decide) rfl (yl_rcv165 rfl hst1) (Nat.le_of_ble_eq_true rfl) hp1 ?_
  rintro _ A2 ⟨rfl, hJ⟩
  exact yl_eq (yl_P435 w) (k A2 hJ)
theorem yl_c8 (hL : yl_L L i) (hst : yl_st A n xs) (hi : 0 ≤ i ∧ i + 3 ≤ n ∧ n ≤ 1536) {J : xb_H → Prop} (hp : yl_pair w 91 256 [] A n xs J) (k : ∀ A2, J A2 → xl_ok (xt_G w) 596 L [] A2 Q) : xl_ok (xt_G w) 496 L [] A Q := by
  refine yl_ald (yl_P496 w) hL.2.1 ?_
  refine xl_call (q := (.invokevirtual 71, 3, 91, 1)) (av := .ref 64 :: []) (rest := []) (yl_P497 w) rfl (by decide) rfl (yl_rcv64 rfl hst) (Nat.le_of_ble_eq_true rfl) hp ?_
  rintro _ A1 ⟨x, rfl, hst1, hp1⟩
  refine yl_ald (yl_P500 w) hL.2.2.1 ?_
  refine xl_call (q := (.invokevirtual 74, 3, 256, 1)) (av := .ref 165 :: []) (rest := [.int x]) (yl_P501 w) rfl (by decide) rfl (yl_rcv165 rfl hst1) (Nat.le_of_ble_eq_true rfl) hp1 ?_
  rintro _ A2 ⟨rfl, hJ⟩
  exact yl_eq (yl_P504 w) (k A2 hJ)
theorem yl_c9 (hL : yl_L L i) (hst : yl_st A n xs) (hi : 0 ≤ i ∧ i + 3 ≤ n ∧ n ≤ 1536) {J : xb_H → Prop} (hp : yl_pair w 93 257 [.int (xs (i + 1).toNat)] A n xs J) (k : ∀ A2, J A2 → xl_ok (xt_G w) 596 L [] A2 Q) : xl_ok (xt_G w) 509 L [] A Q := by
  refine yl_ald (yl_P509 w) hL.2.1 ?_
  refine yl_arg 1 (by omega) (yl_P510 w) (yl_P511 w) (yl_P513 w) (yl_P514 w) (yl_P515 w) hL.1 hL.2.2.2.2 hst.1 hi ?_
  refine xl_call (q := (.invokevirtual 75, 3, 93, 2)) (av := .ref 64 :: [.int (xs (i + 1).toNat)]) (rest := []) (yl_P516 w) rfl (by decide) rfl (yl_rcv64 rfl hst) (Nat.le_of_ble_eq_true rfl) hp ?_
  rintro _ A1 ⟨x, rfl, hst1, hp1⟩
  refine yl_ald (yl_P519 w) hL.2.2.1 ?_
  refine yl_arg 1 (by omega) (yl_P520 w) (yl_P521 w) (yl_P523 w) (yl_P524 w) (yl_P525 w) hL.1 hL.2.2.2.2 hst1.1 hi ?_
  refine xl_call (q := (.invokevirtual 78, 3, 257, 2)) (av := .ref 165 :: [.int (xs (i + 1).toNat)]) (rest := [.int x]) (yl_P526 w) rfl (by decide) rfl (yl_rcv165 rfl hst1) (Nat.le_of_ble_eq_true rfl) hp1 ?_
  rintro _ A2 ⟨rfl, hJ⟩
  exact yl_eq (yl_P529 w) (k A2 hJ)
theorem yl_c10 (hL : yl_L L i) (hst : yl_st A n xs) (hi : 0 ≤ i ∧ i + 3 ≤ n ∧ n ≤ 1536) {J : xb_H → Prop} (hp : yl_pair w 96 258 [.int (xs (i + 1).toNat), .int (xs (i + 2).toNat)] A n xs J) (k : ∀ A2, J A2 → xl_ok (xt_G w) 596 L [] A2 Q) : xl_ok (xt_G w) 534 L [] A Q := by
  refine yl_ald (yl_P534 w) hL.2.1 ?_
  refine yl_arg 1 (by omega) (yl_P535 w) (yl_P536 w) (yl_P538 w) (yl_P539 w) (yl_P540 w) hL.1 hL.2.2.2.2 hst.1 hi ?_
  refine yl_arg 2 (by omega) (yl_P541 w) (yl_P542 w) (yl_P544 w) (yl_P545 w) (yl_P546 w) hL.1 hL.2.2.2.2 hst.1 hi ?_
  refine xl_call (q := (.invokevirtual 79, 3, 96, 3)) (av := .ref 64 :: [.int (xs (i + 1).toNat), .int (xs (i + 2).toNat)]) (rest := []) (yl_P547 w) rfl (by decide) rfl (yl_rcv64 rfl hst) (Nat.le_of_ble_eq_true rfl) hp ?_
  rintro _ A1 ⟨x, rfl, hst1, hp1⟩
  refine yl_ald (yl_P550 w) hL.2.2.1 ?_
  refine yl_arg 1 (by omega) (yl_P551 w) (yl_P552 w) (yl_P554 w) (yl_P555 w) (yl_P556 w) hL.1 hL.2.2.2.2 hst1.1 hi ?_
  refine yl_arg 2 (by omega) (yl_P557 w) (yl_P558 w) (yl_P560 w) (yl_P561 w) (yl_P562 w) hL.1 hL.2.2.2.2 hst1.1 hi ?_
  refine xl_call (q := (.invokevirtual 83, 3, 258, 3)) (av := .ref 165 :: [.int (xs (i + 1).toNat), .int (xs (i + 2).toNat)]) (rest := [.int x]) (yl_P563 w) rfl (by decide) rfl (yl_rcv165 rfl hst1) (Nat.le_of_ble_eq_true rfl) hp1 ?_
  rintro _ A2 ⟨rfl, hJ⟩
  exact yl_eq (yl_P566 w) (k A2 hJ)
theorem yl_c11 (hL : yl_L L i) (hst : yl_st A n xs) (hi : 0 ≤ i ∧ i + 3 ≤ n ∧ n ≤ 1536) {J : xb_H → Prop} (hp : yl_pair w 100 259 [.int (xs (i + 1).toNat)] A n xs J) (k : ∀ A2, J A2 → xl_ok (xt_G w) 596 L [] A2 Q) : xl_ok (xt_G w) 571 L [] A Q := by
  refine yl_ald (yl_P571 w) hL.2.1 ?_
  refine yl_arg 1 (by omega) (yl_P572 w) (yl_P573 w) (yl_P575 w) (yl_P576 w) (yl_P577 w) hL.1 hL.2.2.2.2 hst.1 hi ?_
  refine xl_call (q := (.invokevirtual 84, 3, 100, 2)) (av := .ref 64 :: [.int (xs (i + 1).toNat)]) (rest := []) (yl_P578 w) rfl (by decide) rfl (yl_rcv64 rfl hst) (Nat.le_of_ble_eq_true rfl) hp ?_
  rintro _ A1 ⟨x, rfl, hst1, hp1⟩
  refine yl_ald (yl_P581 w) hL.2.2.1 ?_
  refine yl_arg 1 (by omega) (yl_P582 w) (yl_P583 w) (yl_P585 w) (yl_P586 w) (yl_P587 w) hL.1 hL.2.2.2.2 hst1.1 hi ?_
  refine xl_call (q := (.invokevirtual 87, 3, 259, 2)) (av := .ref 165 :: [.int (xs (i + 1).toNat)]) (rest := [.int x]) (yl_P588 w) rfl (by decide) rfl (yl_rcv165 rfl hst1) (Nat.le_of_ble_eq_true rfl) hp1 ?_
  rintro _ A2 ⟨rfl, hJ⟩
  exact yl_eq (yl_P591 w) (k A2 hJ)
theorem yl_c0 (hL : yl_L L i) (hst : yl_st A n xs) (hi : 0 ≤ i ∧ i + 3 ≤ n ∧ n ≤ 1536) {J : xb_H → Prop} (hp : yl_pair w 11 205 [.long ((xs (i + 1).toNat).toInt64 <<< ((Int32.ofInt 32).toInt64 &&& 63) ||| (xs (i + 2).toNat).toInt64 &&& Int64.ofInt 4294967295)] A n xs J) (k : ∀ A2, J A2 → xl_ok (xt_G w) 596 L [] A2 Q) : xl_ok (xt_G w) 100 L [] A Q := by
  refine yl_ald (yl_P100 w) hL.2.1 ?_
  refine yl_arg 1 (by omega) (yl_P101 w) (yl_P102 w) (yl_P104 w) (yl_P105 w) (yl_P106 w) hL.1 hL.2.2.2.2 hst.1 hi ?_
  refine xl_pure (r := (108, L, .long (xs (i + 1).toNat).toInt64 :: [.ref 64], _)) (yl_P107 w) (Or.inl rfl) rfl ?_
  refine xl_pure (r := (110, L, .int (Int32.ofInt 32) :: .long (xs (i + 1).toNat).toInt64 :: [.ref 64], _)) (yl_P108 w) (Or.inl rfl) rfl ?_
  refine xl_pure (r := (111, L, .long ((xs (i + 1).toNat).toInt64 <<< ((Int32.ofInt 32).toInt64 &&& 63)) :: [.ref 64], _)) (yl_P110 w) (Or.inl rfl) rfl ?_
  refine yl_arg 2 (by omega) (yl_P111 w) (yl_P112 w) (yl_P114 w) (yl_P115 w) (yl_P116 w) hL.1 hL.2.2.2.2 hst.1 hi ?_
  refine xl_pure (r := (118, L, .long (xs (i + 2).toNat).toInt64 :: .long ((xs (i + 1).toNat).toInt64 <<< ((Int32.ofInt 32).toInt64 &&& 63)) :: [.ref 64], _)) (yl_P117 w) (Or.inl rfl) rfl ?_
  refine xl_pure (r := (121, L, .long (Int64.ofInt 4294967295) :: .long (xs (i + 2).toNat).toInt64 :: .long ((xs (i + 1).toNat).toInt64 <<< ((Int32.ofInt 32).toInt64 &&& 63)) :: [.ref 64], _)) (yl_P118 w) (Or.inl rfl) rfl ?_
  refine xl_pure (r := (122, L, .long ((xs (i + 2).toNat).toInt64 &&& Int64.ofInt 4294967295) :: .long ((xs (i + 1).toNat).toInt64 <<< ((Int32.ofInt 32).toInt64 &&& 63)) :: [.ref 64], _)) (yl_P121 w) (Or.inl rfl) rfl ?_
  refine xl_pure (r := (123, L, .long ((xs (i + 1).toNat).toInt64 <<< ((Int32.ofInt 32).toInt64 &&& 63) ||| (xs (i + 2).toNat).toInt64 &&& Int64.ofInt 4294967295) :: [.ref 64], _)) (yl_P122 w) (Or.inl rfl) rfl ?_
  refine xl_call (q := (.invokevirtual 33, 3, 11, 2)) (av := [.ref 64, .long ((xs (i + 1).toNat).toInt64 <<< ((Int32.ofInt 32).toInt64 &&& 63) ||| (xs (i + 2).toNat).toInt64 &&& Int64.ofInt 4294967295)]) (rest := []) (yl_P123 w) rfl (by decide) rfl (yl_rcv64 rfl hst) (Nat.le_of_ble_eq_true rfl) hp ?_
  rintro _ A1 ⟨x, rfl, hst1, hp1⟩
  refine yl_ald (yl_P126 w) hL.2.2.1 ?_
  refine yl_arg 1 (by omega) (yl_P127 w) (yl_P128 w) (yl_P130 w) (yl_P131 w) (yl_P132 w) hL.1 hL.2.2.2.2 hst1.1 hi ?_
  refine xl_pure (r := (134, L, .long (xs (i + 1).toNat).toInt64 :: [.ref 165, .int x], _)) (yl_P133 w) (Or.inl rfl) rfl ?_
  refine xl_pure (r := (136, L, .int (Int32.ofInt 32) :: .long (xs (i + 1).toNat).toInt64 :: [.ref 165, .int x], _)) (yl_P134 w) (Or.inl rfl) rfl ?_
  refine xl_pure (r := (137, L, .long ((xs (i + 1).toNat).toInt64 <<< ((Int32.ofInt 32).toInt64 &&& 63)) :: [.ref 165, .int x], _)) (yl_P136 w) (Or.inl rfl) rfl ?_
  refine yl_arg 2 (by omega) (yl_P137 w) (yl_P138 w) (yl_P140 w) (yl_P141 w) (yl_P142 w) hL.1 hL.2.2.2.2 hst1.1 hi ?_
  refine xl_pure (r := (144, L, .long (xs (i + 2).toNat).toInt64 :: .long ((xs (i + 1).toNat).toInt64 <<< ((Int32.ofInt 32).toInt64 &&& 63)) :: [.ref 165, .int x], _)) (yl_P143 w) (Or.inl rfl) rfl ?_
  refine xl_pure (r := (147, L, .long (Int64.ofInt 4294967295) :: .long (xs (i + 2).toNat).toInt64 :: .long ((xs (i + 1).toNat).toInt64 <<< ((Int32.ofInt 32).toInt64 &&& 63)) :: [.ref 165, .int x], _)) (yl_P144 w) (Or.inl rfl) rfl ?_
  refine xl_pure (r := (148, L, .long ((xs (i + 2).toNat).toInt64 &&& Int64.ofInt 4294967295) :: .long ((xs (i + 1).toNat).toInt64 <<< ((Int32.ofInt 32).toInt64 &&& 63)) :: [.ref 165, .int x], _)) (yl_P147 w) (Or.inl rfl) rfl ?_
  refine xl_pure (r := (149, L, .long ((xs (i + 1).toNat).toInt64 <<< ((Int32.ofInt 32).toInt64 &&& 63) ||| (xs (i + 2).toNat).toInt64 &&& Int64.ofInt 4294967295) :: [.ref 165, .int x], _)) (yl_P148 w) (Or.inl rfl) rfl ?_
  refine xl_call (q := (.invokevirtual 37, 3, 205, 2)) (av := [.ref 165, .long ((xs (i + 1).toNat).toInt64 <<< ((Int32.ofInt 32).toInt64 &&& 63) ||| (xs (i + 2).toNat).toInt64 &&& Int64.ofInt 4294967295)]) (rest := [.int x]) (yl_P149 w) rfl (by decide) rfl (yl_rcv165 rfl hst1) (Nat.le_of_ble_eq_true rfl) hp1 ?_
  rintro _ A2 ⟨rfl, hJ⟩
  exact yl_eq (yl_P152 w) (k A2 hJ)
theorem yl_bool {x : Int32} : (if x = 0 then (0 : Int32) else 1) = Int32.ofInt (if x = 0 then 0 else 1) := by
  by_cases h : x = 0
  · rw [if_pos h, if_pos h]; rfl
  · rw [if_neg h, if_neg h]; rfl
theorem yl_cmp (x : Int64) : lg_cmp x x = 0 := by
  unfold lg_cmp
  rw [if_neg (by simp), if_pos rfl]
/-- the reference's thrown() -/
theorem mm_204 {w : Value} {d : Nat} {A : xb_H} {a : Nat} {fs : List Value} {c : Int32} (h : xb_get A a = some (.inr (10, fs))) (hv : fs[0]? = some (.int c)) : xr_ok (xt_G w) d 204 0 [(0, .ref a)] [] A (fun o A' => ∃ v, o = .inl v ∧ v = some (.int c) ∧ A' = A) := by
  refine xr_steps (pc' := 1) 1 rfl ?_
  refine xr_getf rfl h hv ?_
  exact xr_retB rfl rfl rfl rfl ⟨_, rfl, rfl, rfl⟩
theorem yl_c1 (hL : yl_L L i) (hst : yl_st A n xs) (hi : 0 ≤ i ∧ i + 3 ≤ n ∧ n ≤ 1536) {J : xb_H → Prop} (hp : yl_pairT w false 103 206 (if xs (i + 1).toNat = 0 then (0 : Int32) else 1) A n xs J) (k : ∀ A2 L2, yl_L L2 i → J A2 → xl_ok (xt_G w) 596 L2 [] A2 Q) : xl_ok (xt_G w) 157 L [] A Q := by
  refine yl_ald (yl_P157 w) hL.2.1 ?_
  refine yl_arg 1 (by omega) (yl_P158 w) (yl_P159 w) (yl_P161 w) (yl_P162 w) (yl_P163 w) hL.1 hL.2.2.2.2 hst.1 hi ?_
  have hb164 : ∀ Q' : Int32 → xb_H → Prop, xl_ok (xt_G w) 172 L (.int (if xs (i + 1).toNat = 0 then (0 : Int32) else 1) :: [.ref 64]) A Q' → xl_ok (xt_G w) 164 L (.int (xs (i + 1).toNat) :: [.ref 64]) A Q' := by
    intro Q' kk
    by_cases h0 : xs (i + 1).toNat = 0
    · rw [if_pos h0] at kk
      refine xl_pure (r := (171, L, [.ref 64], A)) (yl_P164 w) (Or.inl rfl) ?_ ?_
      · show some (if decide (xs (i + 1).toNat = 0) = true then 171 else 164 + 3, _, _, _) = _
        rw [if_pos (decide_eq_true h0)]
      exact xl_pure (r := (172, L, .int 0 :: [.ref 64], A)) (yl_P171 w) (Or.inl rfl) rfl kk
    · rw [if_neg h0] at kk
      refine xl_pure (r := (167, L, [.ref 64], A)) (yl_P164 w) (Or.inl rfl) ?_ ?_
      · show some (if decide (xs (i + 1).toNat = 0) = true then 171 else 164 + 3, _, _, _) = _
        rw [if_neg (by rw [decide_eq_true_eq]; exact h0)]
      refine xl_pure (r := (168, L, .int 1 :: [.ref 64], A)) (yl_P167 w) (Or.inl rfl) rfl ?_
      exact xl_pure (r := (172, L, .int 1 :: [.ref 64], A)) (yl_P168 w) (Or.inl rfl) rfl kk
  refine hb164 Q ?_
  refine yl_ald (yl_P172 w) hL.2.2.2.1 ?_
  refine xl_help (rest := []) rfl (by decide) (yl_rcv64 rfl hst) (R := yl_K w 206 (if xs (i + 1).toNat = 0 then (0 : Int32) else 1) n xs J) hp ?_
  rintro v A1 ⟨hst1, hp1⟩
  refine xl_pure (r := (178, xb_st L 5 (.int v), [], A1)) (yl_P176 w) (Or.inl rfl) rfl ?_
  have hL5 : yl_L (xb_st L 5 (.int v)) i := yl_L_st hL (by omega)
  have h5 : xb_ld (xb_st L 5 (.int v)) 5 = some (.int v) := yl_st_ld _ _ _
  generalize xb_st L 5 (.int v) = L5 at hL5 h5 ⊢
  refine yl_ald (yl_P178 w) hL5.2.2.1 ?_
  refine yl_arg 1 (by omega) (yl_P179 w) (yl_P180 w) (yl_P182 w) (yl_P183 w) (yl_P184 w) hL5.1 hL5.2.2.2.2 hst1.1 hi ?_
  have hb185 : ∀ Q' : Int32 → xb_H → Prop, xl_ok (xt_G w) 193 L5 (.int (if xs (i + 1).toNat = 0 then (0 : Int32) else 1) :: [.ref 165]) A1 Q' → xl_ok (xt_G w) 185 L5 (.int (xs (i + 1).toNat) :: [.ref 165]) A1 Q' := by
    intro Q' kk
    by_cases h0 : xs (i + 1).toNat = 0
    · rw [if_pos h0] at kk
      refine xl_pure (r := (192, L5, [.ref 165], A1)) (yl_P185 w) (Or.inl rfl) ?_ ?_
      · show some (if decide (xs (i + 1).toNat = 0) = true then 192 else 185 + 3, _, _, _) = _
        rw [if_pos (decide_eq_true h0)]
      exact xl_pure (r := (193, L5, .int 0 :: [.ref 165], A1)) (yl_P192 w) (Or.inl rfl) rfl kk
    · rw [if_neg h0] at kk
      refine xl_pure (r := (188, L5, [.ref 165], A1)) (yl_P185 w) (Or.inl rfl) ?_ ?_
      · show some (if decide (xs (i + 1).toNat = 0) = true then 192 else 185 + 3, _, _, _) = _
        rw [if_neg (by rw [decide_eq_true_eq]; exact h0)]
      refine xl_pure (r := (189, L5, .int 1 :: [.ref 165], A1)) (yl_P188 w) (Or.inl rfl) rfl ?_
      exact xl_pure (r := (193, L5, .int 1 :: [.ref 165], A1)) (yl_P189 w) (Or.inl rfl) rfl kk
  refine hb185 Q ?_
  refine xl_call (q := (.invokevirtual 43, 3, 206, 2)) (av := [.ref 165, .int (if xs (i + 1).toNat = 0 then (0 : Int32) else 1)]) (rest := []) (yl_P193 w) rfl (by decide) rfl (yl_rcv165 rfl hst1) (Nat.le_of_ble_eq_true rfl) hp1 ?_
  rintro _ A2 ⟨b, rfl, ⟨fs, h165, hf0⟩, hout, hJ⟩
  refine xl_pure (r := (198, xb_st L5 6 (.int b), [], A2)) (yl_P196 w) (Or.inl rfl) rfl ?_
  have hL6 : yl_L (xb_st L5 6 (.int b)) i := yl_L_st hL5 (by omega)
  have h65 : xb_ld (xb_st L5 6 (.int b)) 5 = some (.int v) := yl_ld_st h5 rfl (by omega)
  have h66 : xb_ld (xb_st L5 6 (.int b)) 6 = some (.int b) := yl_st_ld _ _ _
  generalize xb_st L5 6 (.int b) = L6 at hL6 h65 h66 ⊢
  refine yl_ald (yl_P198 w) hL6.2.2.1 ?_
  refine xl_call (q := (.invokevirtual 44, 3, 204, 1)) (av := [.ref 165]) (rest := []) (yl_P199 w) rfl (by decide) rfl (xr_rcv rfl h165) (Nat.le_of_ble_eq_true rfl) (mm_204 h165 hf0) ?_
  rintro _ _ ⟨rfl, eA⟩
  rw [eA]
  clear eA
  refine yl_ild (yl_P202 w) h65 ?_
  refine xl_pure (r := (209, L6, [], A2)) (yl_P204 w) (Or.inl rfl) ?_ ?_
  · show some (if decide (v = v) = true then 209 else 204 + 3, _, _, _) = _
    rw [if_pos (decide_eq_true rfl)] <;> rfl
  refine yl_ild (yl_P209 w) h65 ?_
  by_cases hv : v = 0
  · obtain ⟨f, h193, hf⟩ := hout hv
    refine xl_pure (r := (214, L6, [], A2)) (yl_P211 w) (Or.inl rfl) ?_ ?_
    · show some (if (!decide (v = 0)) = true then 226 else 211 + 3, _, _, _) = _
      rw [if_neg (by simp [hv])] <;> rfl
    refine yl_ald (yl_P214 w) hL6.2.2.2.1 ?_
    refine xl_pure (r := (216, L6, [.int 0, .ref 193], A2)) (yl_P215 w) (Or.inl rfl) rfl ?_
    refine xl_pure (r := (217, L6, [.long (f 0)], A2)) (yl_P216 w) (Or.inl rfl) ?_ ?_
    · show xb_lal 216 L6 A2 [.int 0, .ref 193] = _
      unfold xb_lal
      simp only [h193]
      rfl
    refine yl_ild (yl_P217 w) h66 ?_
    refine xl_pure (r := (220, L6, [.long b.toInt64, .long (f 0)], A2)) (yl_P219 w) (Or.inl rfl) rfl ?_
    refine xl_pure (r := (221, L6, [.int 0], A2)) (yl_P220 w) (Or.inl rfl) ?_ ?_
    · show some (221, L6, [Value.int (lg_cmp (f 0) b.toInt64)], A2) = _
      rw [hf, yl_cmp]
    refine xl_pure (r := (226, L6, [], A2)) (yl_P221 w) (Or.inl rfl) rfl ?_
    exact xl_pure (r := (596, L6, [], A2)) (yl_P226 w) (Or.inl rfl) rfl (k A2 L6 hL6 hJ)
  · refine xl_pure (r := (226, L6, [], A2)) (yl_P211 w) (Or.inl rfl) ?_ ?_
    · show some (if (!decide (v = 0)) = true then 226 else 211 + 3, _, _, _) = _
      rw [if_pos (by simp [hv])] <;> rfl
    exact xl_pure (r := (596, L6, [], A2)) (yl_P226 w) (Or.inl rfl) rfl (k A2 L6 hL6 hJ)
theorem yl_c2 (hL : yl_L L i) (hst : yl_st A n xs) (hi : 0 ≤ i ∧ i + 3 ≤ n ∧ n ≤ 1536) {J : xb_H → Prop} (hp : yl_pairT w true 109 207 (xs (i + 1).toNat) A n xs J) (k : ∀ A2 L2, yl_L L2 i → J A2 → xl_ok (xt_G w) 596 L2 [] A2 Q) : xl_ok (xt_G w) 229 L [] A Q := by
  refine yl_ald (yl_P229 w) hL.2.1 ?_
  refine yl_arg 1 (by omega) (yl_P230 w) (yl_P231 w) (yl_P233 w) (yl_P234 w) (yl_P235 w) hL.1 hL.2.2.2.2 hst.1 hi ?_
  refine yl_ald (yl_P236 w) hL.2.2.2.1 ?_
  refine xl_help (rest := []) rfl (by decide) (yl_rcv64 rfl hst) (R := yl_K w 207 (xs (i + 1).toNat) n xs J) hp ?_
  rintro v A1 ⟨hst1, hp1⟩
  refine xl_pure (r := (242, xb_st L 5 (.int v), [], A1)) (yl_P240 w) (Or.inl rfl) rfl ?_
  have hL5 : yl_L (xb_st L 5 (.int v)) i := yl_L_st hL (by omega)
  have h5 : xb_ld (xb_st L 5 (.int v)) 5 = some (.int v) := yl_st_ld _ _ _
  generalize xb_st L 5 (.int v) = L5 at hL5 h5 ⊢
  refine yl_ald (yl_P242 w) hL5.2.2.1 ?_
  refine yl_arg 1 (by omega) (yl_P243 w) (yl_P244 w) (yl_P246 w) (yl_P247 w) (yl_P248 w) hL5.1 hL5.2.2.2.2 hst1.1 hi ?_
  refine xl_call (q := (.invokevirtual 51, 3, 207, 2)) (av := [.ref 165, .int (xs (i + 1).toNat)]) (rest := []) (yl_P249 w) rfl (by decide) rfl (yl_rcv165 rfl hst1) (Nat.le_of_ble_eq_true rfl) hp1 ?_
  rintro _ A2 ⟨b, rfl, ⟨fs, h165, hf0⟩, hout, hJ⟩
  refine xl_pure (r := (254, xb_st L5 6 (.int b), [], A2)) (yl_P252 w) (Or.inl rfl) rfl ?_
  have hL6 : yl_L (xb_st L5 6 (.int b)) i := yl_L_st hL5 (by omega)
  have h65 : xb_ld (xb_st L5 6 (.int b)) 5 = some (.int v) := yl_ld_st h5 rfl (by omega)
  have h66 : xb_ld (xb_st L5 6 (.int b)) 6 = some (.int b) := yl_st_ld _ _ _
  generalize xb_st L5 6 (.int b) = L6 at hL6 h65 h66 ⊢
  refine yl_ald (yl_P254 w) hL6.2.2.1 ?_
  refine xl_call (q := (.invokevirtual 44, 3, 204, 1)) (av := [.ref 165]) (rest := []) (yl_P255 w) rfl (by decide) rfl (xr_rcv rfl h165) (Nat.le_of_ble_eq_true rfl) (mm_204 h165 hf0) ?_
  rintro _ _ ⟨rfl, eA⟩
  rw [eA]
  clear eA
  refine yl_ild (yl_P258 w) h65 ?_
  refine xl_pure (r := (265, L6, [], A2)) (yl_P260 w) (Or.inl rfl) ?_ ?_
  · show some (if decide (v = v) = true then 265 else 260 + 3, _, _, _) = _
    rw [if_pos (decide_eq_true rfl)] <;> rfl
  refine yl_ild (yl_P265 w) h65 ?_
  by_cases hv : v = 0
  · obtain ⟨f, h193, hf⟩ := hout hv
    refine xl_pure (r := (270, L6, [], A2)) (yl_P267 w) (Or.inl rfl) ?_ ?_
    · show some (if (!decide (v = 0)) = true then 282 else 267 + 3, _, _, _) = _
      rw [if_neg (by simp [hv])] <;> rfl
    refine yl_ald (yl_P270 w) hL6.2.2.2.1 ?_
    refine xl_pure (r := (272, L6, [.int 0, .ref 193], A2)) (yl_P271 w) (Or.inl rfl) rfl ?_
    refine xl_pure (r := (273, L6, [.long (f 0)], A2)) (yl_P272 w) (Or.inl rfl) ?_ ?_
    · show xb_lal 272 L6 A2 [.int 0, .ref 193] = _
      unfold xb_lal
      simp only [h193]
      rfl
    refine yl_ild (yl_P273 w) h66 ?_
    refine xl_pure (r := (276, L6, [.long b.toInt64, .long (f 0)], A2)) (yl_P275 w) (Or.inl rfl) rfl ?_
    refine xl_pure (r := (277, L6, [.int 0], A2)) (yl_P276 w) (Or.inl rfl) ?_ ?_
    · show some (277, L6, [Value.int (lg_cmp (f 0) b.toInt64)], A2) = _
      rw [hf, yl_cmp]
    refine xl_pure (r := (282, L6, [], A2)) (yl_P277 w) (Or.inl rfl) rfl ?_
    exact xl_pure (r := (596, L6, [], A2)) (yl_P282 w) (Or.inl rfl) rfl (k A2 L6 hL6 hJ)
  · refine xl_pure (r := (282, L6, [], A2)) (yl_P267 w) (Or.inl rfl) ?_ ?_
    · show some (if (!decide (v = 0)) = true then 282 else 267 + 3, _, _, _) = _
      rw [if_pos (by simp [hv])] <;> rfl
    exact xl_pure (r := (596, L6, [], A2)) (yl_P282 w) (Or.inl rfl) rfl (k A2 L6 hL6 hJ)
theorem yl_c3 (hL : yl_L L i) (hst : yl_st A n xs) (hi : 0 ≤ i ∧ i + 3 ≤ n ∧ n ≤ 1536) {J : xb_H → Prop} (hp : yl_pairT w true 152 227 (xs (i + 1).toNat) A n xs J) (k : ∀ A2 L2, yl_L L2 i → J A2 → xl_ok (xt_G w) 596 L2 [] A2 Q) : xl_ok (xt_G w) 285 L [] A Q := by
  refine yl_ald (yl_P285 w) hL.2.1 ?_
  refine yl_arg 1 (by omega) (yl_P286 w) (yl_P287 w) (yl_P289 w) (yl_P290 w) (yl_P291 w) hL.1 hL.2.2.2.2 hst.1 hi ?_
  refine yl_ald (yl_P292 w) hL.2.2.2.1 ?_
  refine xl_help (rest := []) rfl (by decide) (yl_rcv64 rfl hst) (R := yl_K w 227 (xs (i + 1).toNat) n xs J) hp ?_
  rintro v A1 ⟨hst1, hp1⟩
  refine xl_pure (r := (298, xb_st L 5 (.int v), [], A1)) (yl_P296 w) (Or.inl rfl) rfl ?_
  have hL5 : yl_L (xb_st L 5 (.int v)) i := yl_L_st hL (by omega)
  have h5 : xb_ld (xb_st L 5 (.int v)) 5 = some (.int v) := yl_st_ld _ _ _
  generalize xb_st L 5 (.int v) = L5 at hL5 h5 ⊢
  refine yl_ald (yl_P298 w) hL5.2.2.1 ?_
  refine yl_arg 1 (by omega) (yl_P299 w) (yl_P300 w) (yl_P302 w) (yl_P303 w) (yl_P304 w) hL5.1 hL5.2.2.2.2 hst1.1 hi ?_
  refine xl_call (q := (.invokevirtual 54, 3, 227, 2)) (av := [.ref 165, .int (xs (i + 1).toNat)]) (rest := []) (yl_P305 w) rfl (by decide) rfl (yl_rcv165 rfl hst1) (Nat.le_of_ble_eq_true rfl) hp1 ?_
  rintro _ A2 ⟨b, rfl, ⟨fs, h165, hf0⟩, hout, hJ⟩
  refine xl_pure (r := (310, xb_st L5 6 (.int b), [], A2)) (yl_P308 w) (Or.inl rfl) rfl ?_
  have hL6 : yl_L (xb_st L5 6 (.int b)) i := yl_L_st hL5 (by omega)
  have h65 : xb_ld (xb_st L5 6 (.int b)) 5 = some (.int v) := yl_ld_st h5 rfl (by omega)
  have h66 : xb_ld (xb_st L5 6 (.int b)) 6 = some (.int b) := yl_st_ld _ _ _
  generalize xb_st L5 6 (.int b) = L6 at hL6 h65 h66 ⊢
  refine yl_ald (yl_P310 w) hL6.2.2.1 ?_
  refine xl_call (q := (.invokevirtual 44, 3, 204, 1)) (av := [.ref 165]) (rest := []) (yl_P311 w) rfl (by decide) rfl (xr_rcv rfl h165) (Nat.le_of_ble_eq_true rfl) (mm_204 h165 hf0) ?_
  rintro _ _ ⟨rfl, eA⟩
  rw [eA]
  clear eA
  refine yl_ild (yl_P314 w) h65 ?_
  refine xl_pure (r := (321, L6, [], A2)) (yl_P316 w) (Or.inl rfl) ?_ ?_
  · show some (if decide (v = v) = true then 321 else 316 + 3, _, _, _) = _
    rw [if_pos (decide_eq_true rfl)] <;> rfl
  refine yl_ild (yl_P321 w) h65 ?_
  by_cases hv : v = 0
  · obtain ⟨f, h193, hf⟩ := hout hv
    refine xl_pure (r := (326, L6, [], A2)) (yl_P323 w) (Or.inl rfl) ?_ ?_
    · show some (if (!decide (v = 0)) = true then 338 else 323 + 3, _, _, _) = _
      rw [if_neg (by simp [hv])] <;> rfl
    refine yl_ald (yl_P326 w) hL6.2.2.2.1 ?_
    refine xl_pure (r := (328, L6, [.int 0, .ref 193], A2)) (yl_P327 w) (Or.inl rfl) rfl ?_
    refine xl_pure (r := (329, L6, [.long (f 0)], A2)) (yl_P328 w) (Or.inl rfl) ?_ ?_
    · show xb_lal 328 L6 A2 [.int 0, .ref 193] = _
      unfold xb_lal
      simp only [h193]
      rfl
    refine yl_ild (yl_P329 w) h66 ?_
    refine xl_pure (r := (332, L6, [.long b.toInt64, .long (f 0)], A2)) (yl_P331 w) (Or.inl rfl) rfl ?_
    refine xl_pure (r := (333, L6, [.int 0], A2)) (yl_P332 w) (Or.inl rfl) ?_ ?_
    · show some (333, L6, [Value.int (lg_cmp (f 0) b.toInt64)], A2) = _
      rw [hf, yl_cmp]
    refine xl_pure (r := (338, L6, [], A2)) (yl_P333 w) (Or.inl rfl) rfl ?_
    exact xl_pure (r := (596, L6, [], A2)) (yl_P338 w) (Or.inl rfl) rfl (k A2 L6 hL6 hJ)
  · refine xl_pure (r := (338, L6, [], A2)) (yl_P323 w) (Or.inl rfl) ?_ ?_
    · show some (if (!decide (v = 0)) = true then 338 else 323 + 3, _, _, _) = _
      rw [if_pos (by simp [hv])] <;> rfl
    exact xl_pure (r := (596, L6, [], A2)) (yl_P338 w) (Or.inl rfl) rfl (k A2 L6 hL6 hJ)
theorem yl_c7 (hL : yl_L L i) (hst : yl_st A n xs) (hi : 0 ≤ i ∧ i + 3 ≤ n ∧ n ≤ 1536) {J : xb_H → Prop} (hp : yl_pairT w true 163 237 (xs (i + 1).toNat) A n xs J) (k : ∀ A2 L2, yl_L L2 i → J A2 → xl_ok (xt_G w) 596 L2 [] A2 Q) : xl_ok (xt_G w) 440 L [] A Q := by
  refine yl_ald (yl_P440 w) hL.2.1 ?_
  refine yl_arg 1 (by omega) (yl_P441 w) (yl_P442 w) (yl_P444 w) (yl_P445 w) (yl_P446 w) hL.1 hL.2.2.2.2 hst.1 hi ?_
  refine yl_ald (yl_P447 w) hL.2.2.2.1 ?_
  refine xl_help (rest := []) rfl (by decide) (yl_rcv64 rfl hst) (R := yl_K w 237 (xs (i + 1).toNat) n xs J) hp ?_
  rintro v A1 ⟨hst1, hp1⟩
  refine xl_pure (r := (453, xb_st L 5 (.int v), [], A1)) (yl_P451 w) (Or.inl rfl) rfl ?_
  have hL5 : yl_L (xb_st L 5 (.int v)) i := yl_L_st hL (by omega)
  have h5 : xb_ld (xb_st L 5 (.int v)) 5 = some (.int v) := yl_st_ld _ _ _
  generalize xb_st L 5 (.int v) = L5 at hL5 h5 ⊢
  refine yl_ald (yl_P453 w) hL5.2.2.1 ?_
  refine yl_arg 1 (by omega) (yl_P454 w) (yl_P455 w) (yl_P457 w) (yl_P458 w) (yl_P459 w) hL5.1 hL5.2.2.2.2 hst1.1 hi ?_
  refine xl_call (q := (.invokevirtual 70, 3, 237, 2)) (av := [.ref 165, .int (xs (i + 1).toNat)]) (rest := []) (yl_P460 w) rfl (by decide) rfl (yl_rcv165 rfl hst1) (Nat.le_of_ble_eq_true rfl) hp1 ?_
  rintro _ A2 ⟨b, rfl, ⟨fs, h165, hf0⟩, hout, hJ⟩
  refine xl_pure (r := (465, xb_st L5 6 (.int b), [], A2)) (yl_P463 w) (Or.inl rfl) rfl ?_
  have hL6 : yl_L (xb_st L5 6 (.int b)) i := yl_L_st hL5 (by omega)
  have h65 : xb_ld (xb_st L5 6 (.int b)) 5 = some (.int v) := yl_ld_st h5 rfl (by omega)
  have h66 : xb_ld (xb_st L5 6 (.int b)) 6 = some (.int b) := yl_st_ld _ _ _
  generalize xb_st L5 6 (.int b) = L6 at hL6 h65 h66 ⊢
  refine yl_ald (yl_P465 w) hL6.2.2.1 ?_
  refine xl_call (q := (.invokevirtual 44, 3, 204, 1)) (av := [.ref 165]) (rest := []) (yl_P466 w) rfl (by decide) rfl (xr_rcv rfl h165) (Nat.le_of_ble_eq_true rfl) (mm_204 h165 hf0) ?_
  rintro _ _ ⟨rfl, eA⟩
  rw [eA]
  clear eA
  refine yl_ild (yl_P469 w) h65 ?_
  refine xl_pure (r := (476, L6, [], A2)) (yl_P471 w) (Or.inl rfl) ?_ ?_
  · show some (if decide (v = v) = true then 476 else 471 + 3, _, _, _) = _
    rw [if_pos (decide_eq_true rfl)] <;> rfl
  refine yl_ild (yl_P476 w) h65 ?_
  by_cases hv : v = 0
  · obtain ⟨f, h193, hf⟩ := hout hv
    refine xl_pure (r := (481, L6, [], A2)) (yl_P478 w) (Or.inl rfl) ?_ ?_
    · show some (if (!decide (v = 0)) = true then 493 else 478 + 3, _, _, _) = _
      rw [if_neg (by simp [hv])] <;> rfl
    refine yl_ald (yl_P481 w) hL6.2.2.2.1 ?_
    refine xl_pure (r := (483, L6, [.int 0, .ref 193], A2)) (yl_P482 w) (Or.inl rfl) rfl ?_
    refine xl_pure (r := (484, L6, [.long (f 0)], A2)) (yl_P483 w) (Or.inl rfl) ?_ ?_
    · show xb_lal 483 L6 A2 [.int 0, .ref 193] = _
      unfold xb_lal
      simp only [h193]
      rfl
    refine yl_ild (yl_P484 w) h66 ?_
    refine xl_pure (r := (487, L6, [.long b.toInt64, .long (f 0)], A2)) (yl_P486 w) (Or.inl rfl) rfl ?_
    refine xl_pure (r := (488, L6, [.int 0], A2)) (yl_P487 w) (Or.inl rfl) ?_ ?_
    · show some (488, L6, [Value.int (lg_cmp (f 0) b.toInt64)], A2) = _
      rw [hf, yl_cmp]
    refine xl_pure (r := (493, L6, [], A2)) (yl_P488 w) (Or.inl rfl) rfl ?_
    exact xl_pure (r := (596, L6, [], A2)) (yl_P493 w) (Or.inl rfl) rfl (k A2 L6 hL6 hJ)
  · refine xl_pure (r := (493, L6, [], A2)) (yl_P478 w) (Or.inl rfl) ?_ ?_
    · show some (if (!decide (v = 0)) = true then 493 else 478 + 3, _, _, _) = _
      rw [if_pos (by simp [hv])] <;> rfl
    exact xl_pure (r := (596, L6, [], A2)) (yl_P493 w) (Or.inl rfl) rfl (k A2 L6 hL6 hJ)
end YLC
