/-! The law's loop as a whole -/
theorem yl_and15 (y : Int32) : ∃ c : Int, (0 ≤ c ∧ c ≤ 15) ∧ y &&& Int32.ofInt 15 = Int32.ofInt c := by
  refine ⟨(y &&& Int32.ofInt 15).toInt, ?_, (Int32.ofInt_toInt _).symm⟩
  have h1 : (y &&& Int32.ofInt 15).toBitVec.toNat ≤ 15 := by
    show (y.toBitVec &&& (Int32.ofInt 15).toBitVec).toNat ≤ 15
    rw [BitVec.toNat_and]
    have e : (Int32.ofInt 15).toBitVec.toNat = 15 := by decide
    rw [e]
    exact Nat.and_le_right
  have h2 : (y &&& Int32.ofInt 15).toInt = ((y &&& Int32.ofInt 15).toBitVec.toNat : Int) := BitVec.toInt_eq_toNat_of_lt (by omega)
  rw [h2]
  omega
/-- one turn, by the kind of its call -/
def yl_turn (w : Value) (n : Nat) (xs : Nat → Int32) (i : Int) (A : xb_H) (J : xb_H → Prop) : Prop := ∀ c : Int, 0 ≤ c ∧ c ≤ 15 →
  (c = 0 → yl_pair w 11 205 [.long ((xs (i + 1).toNat).toInt64 <<< ((Int32.ofInt 32).toInt64 &&& 63) ||| (xs (i + 2).toNat).toInt64 &&& Int64.ofInt 4294967295)] A n xs J) ∧
  (c = 1 → yl_pairT w false 103 206 (if xs (i + 1).toNat = 0 then (0 : Int32) else 1) A n xs J) ∧
  (c = 2 → yl_pairT w true 109 207 (xs (i + 1).toNat) A n xs J) ∧
  (c = 3 → yl_pairT w true 152 227 (xs (i + 1).toNat) A n xs J) ∧
  (c = 4 → yl_pair w 38 225 [.int (xs (i + 1).toNat), .int (xs (i + 2).toNat)] A n xs J) ∧
  (c = 5 → yl_pair w 43 226 [.int (xs (i + 1).toNat), .int (xs (i + 2).toNat)] A n xs J) ∧
  (c = 6 → yl_pair w 45 232 [.int (xs (i + 1).toNat)] A n xs J) ∧
  (c = 7 → yl_pairT w true 163 237 (xs (i + 1).toNat) A n xs J) ∧
  (c = 8 → yl_pair w 91 256 [] A n xs J) ∧
  (c = 9 → yl_pair w 93 257 [.int (xs (i + 1).toNat)] A n xs J) ∧
  (c = 10 → yl_pair w 96 258 [.int (xs (i + 1).toNat), .int (xs (i + 2).toNat)] A n xs J) ∧
  (c = 11 → yl_pair w 100 259 [.int (xs (i + 1).toNat)] A n xs J) ∧
  (12 ≤ c → J A)
theorem yl_P39 (w : Value) : xb_gP (xt_G w) 260 39 = some (.tableswitch 557 0 11 #[61, 118, 190, 246, 302, 339, 376, 401, 457, 470, 495, 532], 61, 0, 0) := by rw [xd_gP]; decide +kernel
def yl_tg (c : Int) : Nat := if c = 0 then 100 else if c = 1 then 157 else if c = 2 then 229 else if c = 3 then 285 else if c = 4 then 341 else if c = 5 then 378 else if c = 6 then 415 else if c = 7 then 440 else if c = 8 then 496 else if c = 9 then 509 else if c = 10 then 534 else if c = 11 then 571 else 596
section YLW
variable {w : Value} {n : Nat} {L : xb_L} {A : xb_H} {Q : Int32 → xb_H → Prop} {xs : Nat → Int32} {i : Int}
theorem yl_sw {c : Int} (hc : 0 ≤ c ∧ c ≤ 15) (k : xl_ok (xt_G w) (yl_tg c) L [] A Q) : xl_ok (xt_G w) 39 L [.int (Int32.ofInt c)] A Q := by
  refine xl_pure (r := (yl_tg c, L, [], A)) (yl_P39 w) (Or.inl rfl) ?_ k
  show xb_tabx 557 0 11 #[61, 118, 190, 246, 302, 339, 376, 401, 457, 470, 495, 532] 39 L A [.int (Int32.ofInt c)] = _
  unfold xb_tabx
  dsimp only
  rw [xr_toInt (by omega)]
  have hcs : c = 0 ∨ c = 1 ∨ c = 2 ∨ c = 3 ∨ c = 4 ∨ c = 5 ∨ c = 6 ∨ c = 7 ∨ c = 8 ∨ c = 9 ∨ c = 10 ∨ c = 11 ∨ c = 12 ∨ c = 13 ∨ c = 14 ∨ c = 15 := by omega
  rcases hcs with rfl | rfl | rfl | rfl | rfl | rfl | rfl | rfl | rfl | rfl | rfl | rfl | rfl | rfl | rfl | rfl <;> rfl
theorem yl_head (hL : yl_L L i) (hA : xb_get A 20 = some (.inl (.int, n, .inl xs))) (hn : n ≤ 1536) (hi : 0 ≤ i ∧ i ≤ 2000) (k1 : i + 3 ≤ (n : Int) → xl_ok (xt_G w) 32 L [] A Q) (k2 : ¬ i + 3 ≤ (n : Int) → Q 1 A) : xl_ok (xt_G w) 23 L [] A Q := by
  refine yl_ild (k := 4) rfl hL.2.2.2.2 ?_
  refine yl_ald (k := 0) rfl hL.1 ?_
  refine xl_pure (q := (.arraylength, 1, 0, 0)) (r := (27, L, [.int (Int32.ofInt n), .int (Int32.ofInt i)], A)) rfl (Or.inl rfl) ?_ ?_
  · show xb_alenx 26 L A [.ref 20, .int (Int32.ofInt i)] = _
    simp only [xb_alenx, hA]
    rw [Int32.ofInt_eq_ofNat]
  refine xl_pure (q := (.iconst 3, 1, 0, 0)) (r := (28, L, [.int (Int32.ofInt 3), .int (Int32.ofInt n), .int (Int32.ofInt i)], A)) rfl (Or.inl rfl) rfl ?_
  refine xl_pure (q := (.isub, 1, 0, 0)) (r := (29, L, [.int (Int32.ofInt (n - 3)), .int (Int32.ofInt i)], A)) rfl (Or.inl rfl) ?_ ?_
  · rw [Int32.ofInt_sub]
    rfl
  have hlt : Int32.ofInt ((n : Int) - 3) < Int32.ofInt i ↔ (n : Int) - 3 < i := xr_ltI (by omega) (by omega)
  by_cases h : i + 3 ≤ (n : Int)
  · refine xl_pure (q := (.if_icmp .gt 573, 3, 602, 0)) (r := (32, L, [], A)) rfl (Or.inl rfl) ?_ (k1 h)
    show some (if decide (Int32.ofInt ((n : Int) - 3) < Int32.ofInt i) = true then 602 else 29 + 3, L, ([] : List Value), A) = _
    rw [if_neg (by rw [decide_eq_true_eq, hlt]; omega)]
  · refine xl_pure (q := (.if_icmp .gt 573, 3, 602, 0)) (r := (602, L, [], A)) rfl (Or.inl rfl) ?_ ?_
    · show some (if decide (Int32.ofInt ((n : Int) - 3) < Int32.ofInt i) = true then 602 else 29 + 3, L, ([] : List Value), A) = _
      rw [if_pos (by rw [decide_eq_true_eq, hlt]; omega)]
    · refine xl_pure (r := (603, L, [.int 1], A)) (yl_P602 w) (Or.inl rfl) rfl ?_
      exact xl_ret (xd_603 w) rfl (k2 h)
theorem yl_go (hL : yl_L L i) (hst : yl_st A n xs) (hi : 0 ≤ i ∧ i + 3 ≤ n ∧ n ≤ 1536) {J : xb_H → Prop} (ht : yl_turn w n xs i A J) (k : ∀ A2 L2, yl_L L2 i → J A2 → xl_ok (xt_G w) 596 L2 [] A2 Q) : xl_ok (xt_G w) 32 L [] A Q := by
  refine yl_ald (yl_P32 w) hL.1 ?_
  refine yl_ild (yl_P33 w) hL.2.2.2.2 ?_
  obtain ⟨e1, e2⟩ := xr_in (i := i) (n := n) (by omega) (by omega) (by omega)
  refine xl_pure (r := (36, L, [.int (xs i.toNat)], A)) (yl_P35 w) (Or.inl rfl) ?_ ?_
  · show xb_ial xb_isI 35 L A [.int (Int32.ofInt i), .ref 20] = _
    unfold xb_ial
    simp only [hst.1]
    rw [if_pos ⟨rfl, e1⟩, e2]
  refine xl_pure (r := (38, L, [.int (Int32.ofInt 15), .int (xs i.toNat)], A)) (yl_P36 w) (Or.inl rfl) rfl ?_
  obtain ⟨c, hc, ec⟩ := yl_and15 (xs i.toNat)
  refine xl_pure (r := (39, L, [.int (Int32.ofInt c)], A)) (yl_P38 w) (Or.inl rfl) ?_ ?_
  · rw [← ec]
    rfl
  refine yl_sw hc ?_
  obtain ⟨t0, t1, t2, t3, t4, t5, t6, t7, t8, t9, t10, t11, t12⟩ := ht c hc
  have hcs : c = 0 ∨ c = 1 ∨ c = 2 ∨ c = 3 ∨ c = 4 ∨ c = 5 ∨ c = 6 ∨ c = 7 ∨ c = 8 ∨ c = 9 ∨ c = 10 ∨ c = 11 ∨ c = 12 ∨ c = 13 ∨ c = 14 ∨ c = 15 := by omega
  rcases hcs with h | h | h | h | h | h | h | h | h | h | h | h | h | h | h | h
  · have t := t0 h
    subst h
    exact yl_c0 hL hst hi t (fun A2 hJ => k A2 L hL hJ)
  · have t := t1 h
    subst h
    exact yl_c1 hL hst hi t k
  · have t := t2 h
    subst h
    exact yl_c2 hL hst hi t k
  · have t := t3 h
    subst h
    exact yl_c3 hL hst hi t k
  · have t := t4 h
    subst h
    exact yl_c4 hL hst hi t (fun A2 hJ => k A2 L hL hJ)
  · have t := t5 h
    subst h
    exact yl_c5 hL hst hi t (fun A2 hJ => k A2 L hL hJ)
  · have t := t6 h
    subst h
    exact yl_c6 hL hst hi t (fun A2 hJ => k A2 L hL hJ)
  · have t := t7 h
    subst h
    exact yl_c7 hL hst hi t k
  · have t := t8 h
    subst h
    exact yl_c8 hL hst hi t (fun A2 hJ => k A2 L hL hJ)
  · have t := t9 h
    subst h
    exact yl_c9 hL hst hi t (fun A2 hJ => k A2 L hL hJ)
  · have t := t10 h
    subst h
    exact yl_c10 hL hst hi t (fun A2 hJ => k A2 L hL hJ)
  · have t := t11 h
    subst h
    exact yl_c11 hL hst hi t (fun A2 hJ => k A2 L hL hJ)
  all_goals
    have t := t12 (by omega)
    subst h
    exact k A L hL t
end YLW
theorem yl_loop {w : Value} {n : Nat} {xs : Nat → Int32} {Q : Int32 → xb_H → Prop} (hn : n ≤ 1536) (J : Nat → xb_H → Prop) (hJ : ∀ m A, J m A → yl_st A n xs) (hstep : ∀ (m : Nat) A, J m A → 3 * m + 3 ≤ n → yl_turn w n xs (3 * (m : Int)) A (J (m + 1))) (hend : ∀ (m : Nat) A, J m A → 3 * m ≤ n → Q 1 A) :
    ∀ (k m : Nat) (A : xb_H) (L : xb_L), J m A → yl_L L (3 * (m : Int)) → 3 * m ≤ n → n < 3 * (m + k) + 3 → xl_ok (xt_G w) 23 L [] A Q := by
  intro k
  induction k with
  | zero =>
    intro m A L h1 h2 h3 h4
    exact yl_head h2 (hJ m A h1).1 hn (by omega) (fun h => by omega) (fun _ => hend m A h1 h3)
  | succ k ih =>
    intro m A L h1 h2 h3 h4
    refine yl_head h2 (hJ m A h1).1 hn (by omega) (fun h => ?_) (fun _ => hend m A h1 h3)
    refine yl_go h2 (hJ m A h1) (by omega) (hstep m A h1 (by omega)) (fun A2 L2 hL2 hJ2 => ?_)
    refine yl_596 hL2 (by omega) (fun L3 hL3 => ?_)
    refine ih (m + 1) A2 L3 hJ2 ?_ (by omega) (by omega)
    have e : 3 * (((m + 1 : Nat)) : Int) = 3 * (m : Int) + 3 := by omega
    rw [e]
    exact hL3
/-- THE LAW out of its turns -/
theorem yl_law {w : Value} (hw : w = .null ∨ w = .ref 19) {n : Nat} {xs : Nat → Int32} {Q : Int32 → xb_H → Prop} (hn : n ≤ 1536) (J : Nat → xb_H → Prop) (h0 : J 0 (xd_B (xd_A2 w) n xs)) (hJ : ∀ m A, J m A → yl_st A n xs) (hstep : ∀ (m : Nat) A, J m A → 3 * m + 3 ≤ n → yl_turn w n xs (3 * (m : Int)) A (J (m + 1))) (hend : ∀ (m : Nat) A, J m A → 3 * m ≤ n → Q 1 A) : xl_ok (xt_G w) 0 [(0, .ref 20)] [] (xt_A0 n xs) Q := by
  generalize hB : xd_A2 w = A2 at h0
  refine xd_law w hw n xs ?_
  rw [hB]
  exact yl_loop hn J hJ hstep hend n 0 _ _ h0 ⟨rfl, rfl, rfl, rfl, rfl⟩ (by omega) (by omega)
