/-! Parts are added, asked for by their number, by their key; keys are read -/
theorem mv_117 {w : Value} {d : Nat} {A : xb_H} {a b kd sa la ed cap : Nat} {as : List Nat} {k cnt cb : Int} {fs : List Value} (ha : xb_get A a = some (.inr (9, [.ref kd, .ref sa, .ref la, .int (Int32.ofInt k), .int (Int32.ofInt cnt)]))) (hz : 64 ≤ a) (hl : yal A la ed cap as) (hn : as.length ≤ 130) (hes : ∀ y ∈ as, xb_elo A (some y) = true) (hb : xb_get A b = some (.inr (9, fs))) (hb4 : fs[4]? = some (.int (Int32.ofInt cb))) (hab : ¬ b = a) : xr_ok (xt_G w) (d + 1 + 1 + 1 + 1 + 1 + 1 + 1) 117 0 [(0, .ref a), (1, .ref b)] [] A (fun o A' => ∃ v0, o = .inl v0 ∧ v0 = none ∧ ∃ (ed' cap' : Nat), xb_get A' a = some (.inr (9, [.ref kd, .ref sa, .ref la, .int (Int32.ofInt k), .int (Int32.ofInt (cnt + cb))])) ∧ yal A' la ed' cap' (as ++ [b]) ∧ yfr A A' [a, la, if ed = 6 then la else ed] 1 (2 * as.length + 10) ∧ (ed' = ed ∨ ed' = A.1)) := by
  obtain ⟨mc, g, hla, he, hzl, hcl, hcap, hed, hg⟩ := id hl
  have hal : ¬ a = la := by
    intro e
    rw [e, hla] at ha
    cases ha
  have hae : ¬ a = ed := by
    intro e
    rw [e, he] at ha
    cases ha
  have hbl : ¬ b = la := elo_ne (elo_of hb (Or.inl rfl)) hla (by omega)
  have hbe : ¬ b = ed := elo_neA (elo_of hb (Or.inl rfl)) he
  have hlt := xb_get_lt ha
  have hne : ¬ ed = la := by
    intro e
    rw [e, hla] at he
    cases he
  obtain ⟨em, hem⟩ : ∃ em, em = if ed = 6 then la else ed := ⟨_, rfl⟩
  rw [← hem]
  have hem2 : em = la ∨ em = ed := by rw [hem]; split <;> omega
  have f31 := yfr_refl A [a, la, em] 0 0
  refine xr_steps (pc' := 1) (L' := [(0, .ref a), (1, .ref b)]) (st' := [.ref a]) 1 rfl ?_
  refine xr_getf (v := .ref la) rfl ha rfl ?_
  refine xr_steps (pc' := 5) (L' := [(0, .ref a), (1, .ref b)]) (st' := [.ref b, .ref la]) 1 rfl ?_
  refine xr_call (q := (.invokevirtual 133, 3, 118, 2)) (av := [.ref la, .ref b]) (rest := []) rfl rfl (by decide) rfl (xr_rcv rfl hla) (Nat.le_of_ble_eq_true rfl) (ma_118 hl hn hes hb (Or.inl rfl)) ?_
  rintro _ A8 ⟨rfl, ed2, cap2, l1, l2, l3, l4⟩
  rw [← hem] at l3
  have ja := yfr_get l3 ha (by simp only [List.mem_cons, List.not_mem_nil, or_false]; omega)
  have jb := yfr_get l3 hb (by simp only [List.mem_cons, List.not_mem_nil, or_false]; omega)
  have jfr := yfr_trans f31 l3 (fun z hz => by simp only [List.mem_cons, List.not_mem_nil, or_false] at hz ⊢; omega)
  refine xr_steps (pc' := 11) (L' := [(0, .ref a), (1, .ref b)]) (st' := [.ref a, .ref a]) 3 rfl ?_
  refine xr_getf (v := .int (Int32.ofInt cnt)) rfl ja rfl ?_
  refine xr_steps (pc' := 15) (L' := [(0, .ref a), (1, .ref b)]) (st' := [.ref b, .int (Int32.ofInt cnt), .ref a]) 1 rfl ?_
  refine xr_getf (v := .int (Int32.ofInt cb)) rfl jb hb4 ?_
  refine xr_iadd rfl ?_
  obtain ⟨A32, eA32⟩ : ∃ A0, xb_set A8 a (.inr (9, [.ref kd, .ref sa, .ref la, .int (Int32.ofInt k), .int (Int32.ofInt (cnt + cb))])) = A0 := ⟨_, rfl⟩
  refine xr_putf (t := .int) rfl ja (show 64 ≤ a by omega) (Nat.le_of_ble_eq_true rfl) rfl (xr_fitI _) (xr_heap eA32 ?_)
  have g33 := xr_mv eA32 (xb_get_set_same ja)
  have g34 := xr_mv eA32 (xb_get_set_ne ja jb (by omega))
  have nA32 : A32.1 = A8.1 := by rw [← eA32]; rfl
  have f35 := yfr_mv eA32 (yfr_step_set jfr ja (Or.inl (by simp)))
  exact xr_retN rfl rfl ⟨_, rfl, rfl, ed2, cap2, g33, yal_fr l1 (yfr_mv eA32 (yfr_step_set (yfr_refl A8 [a] 0 0) ja (Or.inl (by simp)))) (by rw [List.mem_singleton]; omega) (by rw [List.mem_singleton]; rcases l4 with h | h <;> omega), yfr_mono f35 (fun z hz => Or.inl (by simp only [List.mem_cons, List.not_mem_nil, or_false] at hz ⊢; omega)) (by omega) (by omega), by rcases l4 with h | h <;> omega⟩
theorem ma_127 {w : Value} {d : Nat} {A : xb_H} {la ed cap : Nat} {as : List Nat} (hl : yal A la ed cap as) : xr_ok (xt_G w) d 127 0 [(0, .ref la)] [] A (fun o A' => ∃ v0, o = .inl v0 ∧ v0 = some (.int (Int32.ofInt (as.length : Int))) ∧ A' = A) := by
  obtain ⟨mc, g, hla, he, hzl, hcl, hcap, hed, hg⟩ := hl
  refine xr_steps (pc' := 1) (L' := [(0, .ref la)]) (st' := [.ref la]) 1 rfl ?_
  refine xr_getf (v := .int (Int32.ofInt (as.length : Int))) rfl hla rfl ?_
  exact xr_retI2 rfl rfl ⟨_, rfl, rfl, rfl⟩
theorem ma_130 {w : Value} {d : Nat} {A : xb_H} {la ed cap i x : Nat} {as : List Nat} (hl : yal A la ed cap as) (hi : as[i]? = some x) : xr_ok (xt_G w) d 130 0 [(0, .ref la), (1, .int (Int32.ofInt (i : Int)))] [] A (fun o A' => ∃ v0, o = .inl v0 ∧ v0 = some (.ref x) ∧ A' = A) := by
  obtain ⟨mc, g, hla, he, hzl, hcl, hcap, hed, hg⟩ := hl
  have hil : i < as.length := (List.getElem?_eq_some_iff.mp hi).1
  refine xr_steps (pc' := 1) (L' := [(0, .ref la), (1, .int (Int32.ofInt (i : Int)))]) (st' := [.ref la]) 1 rfl ?_
  refine xr_getf (v := .ref ed) rfl hla rfl ?_
  refine xr_steps (pc' := 5) (L' := [(0, .ref la), (1, .int (Int32.ofInt (i : Int)))]) (st' := [.int (Int32.ofInt (i : Int)), .ref ed]) 1 rfl ?_
  refine xr_aaload rfl he (by omega) (by omega) (by omega) (by rw [Int.toNat_natCast, hg i hil, hi]) ?_
  exact xr_retR rfl rfl ⟨_, rfl, rfl, rfl⟩
theorem ma_37n {w : Value} {d : Nat} {A : xb_H} {i k : Int} (hi : 0 ≤ i ∧ i < k ∧ k ≤ 100000) : xr_ok (xt_G w) d 37 0 [(0, .int (Int32.ofInt i)), (1, .int (Int32.ofInt k)), (2, .null)] [] A (fun o A' => ∃ v0, o = .inl v0 ∧ v0 = some (.int (Int32.ofInt i)) ∧ A' = A) := by
  refine xr_steps (pc' := 1) (L' := [(0, .int (Int32.ofInt i)), (1, .int (Int32.ofInt k)), (2, .null)]) (st' := [.int (Int32.ofInt i)]) 1 rfl ?_
  refine xr_if_lt rfl (by omega) (fun z31 => ?_) (fun z31 => ?_)
  · exfalso; omega
  · refine xr_steps (pc' := 6) (L' := [(0, .int (Int32.ofInt i)), (1, .int (Int32.ofInt k)), (2, .null)]) (st' := [.int (Int32.ofInt k), .int (Int32.ofInt i)]) 2 rfl ?_
    refine xr_icmp_lt rfl (by omega) (by omega) (fun z32 => ?_) (fun z32 => ?_)
    · refine xr_steps (pc' := 17) (L' := [(0, .int (Int32.ofInt i)), (1, .int (Int32.ofInt k)), (2, .null)]) (st' := [.int (Int32.ofInt i)]) 1 rfl ?_
      exact xr_retI2 rfl rfl ⟨_, rfl, rfl, rfl⟩
    · exfalso; omega
theorem ma_129 {w : Value} {d : Nat} {A : xb_H} {i k : Int} (hi : 0 ≤ i ∧ i < k ∧ k ≤ 100000) : xr_ok (xt_G w) (d + 1) 129 0 [(0, .int (Int32.ofInt i)), (1, .int (Int32.ofInt k))] [] A (fun o A' => ∃ v0, o = .inl v0 ∧ v0 = some (.int (Int32.ofInt i)) ∧ A' = A) := by
  refine xr_steps (pc' := 3) (L' := [(0, .int (Int32.ofInt i)), (1, .int (Int32.ofInt k))]) (st' := [.null, .int (Int32.ofInt k), .int (Int32.ofInt i)]) 3 rfl ?_
  refine xr_call (q := (.invokestatic 105, 3, 37, 3)) (av := [.int (Int32.ofInt i), .int (Int32.ofInt k), .null]) (rest := []) rfl rfl (by decide) rfl rfl (Nat.le_of_ble_eq_true rfl) (ma_37n hi) ?_
  rintro _ _ ⟨rfl, eA⟩
  rw [eA]
  clear eA
  exact xr_retI2 rfl rfl ⟨_, rfl, rfl, rfl⟩
theorem ma_128 {w : Value} {d : Nat} {A : xb_H} {la ed cap i x : Nat} {as : List Nat} (hl : yal A la ed cap as) (hi : as[i]? = some x) : xr_ok (xt_G w) (d + 1 + 1) 128 0 [(0, .ref la), (1, .int (Int32.ofInt (i : Int)))] [] A (fun o A' => ∃ v0, o = .inl v0 ∧ v0 = some (.ref x) ∧ A' = A) := by
  obtain ⟨mc, g, hla, he, hzl, hcl, hcap, hed, hg⟩ := id hl
  have hil : i < as.length := (List.getElem?_eq_some_iff.mp hi).1
  refine xr_steps (pc' := 2) (L' := [(0, .ref la), (1, .int (Int32.ofInt (i : Int)))]) (st' := [.ref la, .int (Int32.ofInt (i : Int))]) 2 rfl ?_
  refine xr_getf (v := .int (Int32.ofInt (as.length : Int))) rfl hla rfl ?_
  refine xr_call (q := (.invokestatic 118, 3, 129, 2)) (av := [.int (Int32.ofInt (i : Int)), .int (Int32.ofInt (as.length : Int))]) (rest := []) rfl rfl (by decide) rfl rfl (Nat.le_of_ble_eq_true rfl) (ma_129 (by omega)) ?_
  rintro _ _ ⟨rfl, eA⟩
  rw [eA]
  clear eA
  refine xr_steps (pc' := 11) (L' := [(0, .ref la), (1, .int (Int32.ofInt (i : Int)))]) (st' := [.int (Int32.ofInt (i : Int)), .ref la]) 3 rfl ?_
  refine xr_call (q := (.invokevirtual 123, 3, 130, 2)) (av := [.ref la, .int (Int32.ofInt (i : Int))]) (rest := []) rfl rfl (by decide) rfl (xr_rcv rfl hla) (Nat.le_of_ble_eq_true rfl) (ma_130 hl hi) ?_
  rintro _ _ ⟨rfl, eA⟩
  rw [eA]
  clear eA
  exact xr_retR rfl rfl ⟨_, rfl, rfl, rfl⟩
/-- a key at p: its letter, if one stands there with its quotes and its colon -/
def xpk (e : Nat → Int) (p : Nat) : Prop := e p = 34 ∧ (97 ≤ e (p + 1) ∧ e (p + 1) ≤ 122) ∧ e (p + 2) = 34 ∧ e (p + 3) = 58
theorem mv_125 {w : Value} {d : Nat} {A : xb_H} {cu sa v n p : Nat} {f : Nat → Int} (hw : w = .null ∨ w = .ref 19) (hc : ycu A cu sa v n f p) : xr_ok (xt_G w) (d + 1 + 1 + 1 + 1 + 1 + 1) 125 0 [(0, .ref cu)] [] A (fun o A' => ∃ v0, o = .inl v0 ∧ ∃ (c : Int) (p' : Nat), v0 = some (.int (Int32.ofInt c)) ∧ p ≤ p' ∧ p' ≤ p + 4 ∧ ymv A A' cu sa v n f p' 0 0 ∧ ((xpk (ye n f) p ∧ c = ye n f (p + 1) ∧ p' = p + 4) ∨ (¬ xpk (ye n f) p ∧ c = 0))) := by
  have hz : ∀ (A' : xb_H) (p' : Nat) (L : xb_L), p ≤ p' → p' ≤ p + 4 → ymv A A' cu sa v n f p' 0 0 → ¬ xpk (ye n f) p → xr_ok (xt_G w) (d + 1 + 1 + 1 + 1 + 1 + 1) 125 43 L [.int (Int32.ofInt 0)] A' (fun o A' => ∃ v0, o = .inl v0 ∧ ∃ (c : Int) (p' : Nat), v0 = some (.int (Int32.ofInt c)) ∧ p ≤ p' ∧ p' ≤ p + 4 ∧ ymv A A' cu sa v n f p' 0 0 ∧ ((xpk (ye n f) p ∧ c = ye n f (p + 1) ∧ p' = p + 4) ∨ (¬ xpk (ye n f) p ∧ c = 0))) := by
    intro A' p' L h1 h2 h3 h4
    exact xr_retCh rfl rfl (by omega) ⟨_, rfl, 0, p', rfl, h1, h2, h3, Or.inr ⟨h4, rfl⟩⟩
  refine xr_steps (pc' := 3) (L' := [(0, .ref cu)]) (st' := [.int (Int32.ofInt 34), .ref cu]) 2 rfl ?_
  by_cases h34 : ye n f p = 34
  case neg =>
    refine xr_call (q := (.invokevirtual 79, 3, 67, 2)) (av := [.ref cu, .int (Int32.ofInt 34)]) (rest := []) rfl rfl (by decide) rfl (xr_rcv rfl hc.1) (Nat.le_of_ble_eq_true rfl) (mk_no hw hc (by omega) h34) ?_
    rintro _ _ ⟨rfl, eA⟩
    rw [eA]
    clear eA
    refine xr_if_ne rfl (by omega) (fun h => absurd rfl h) (fun _ => ?_)
    refine xr_steps (pc' := 10) (L' := [(0, .ref cu)]) (st' := [.int (Int32.ofInt 0)]) 1 rfl ?_
    exact xr_retCh rfl rfl (by omega) ⟨_, rfl, 0, p, rfl, by omega, by omega, ymv_refl hc 0 0, Or.inr ⟨fun h => h34 h.1, rfl⟩⟩
  refine xr_call (q := (.invokevirtual 79, 3, 67, 2)) (av := [.ref cu, .int (Int32.ofInt 34)]) (rest := []) rfl rfl (by decide) rfl (xr_rcv rfl hc.1) (Nat.le_of_ble_eq_true rfl) (mk_yes hw hc (by omega) h34) ?_
  rintro _ A1 ⟨rfl, m1⟩
  refine xr_if_ne rfl (by omega) (fun _ => ?_) (fun h => absurd h (by omega))
  refine xr_steps (pc' := 12) (L' := [(0, .ref cu)]) (st' := [.ref cu]) 1 rfl ?_
  have hr1 := ye_rng m1.1 (p + 1)
  refine xr_call (q := (.invokevirtual 44, 3, 68, 1)) (av := [.ref cu]) (rest := []) rfl rfl (by decide) rfl (xr_rcv rfl m1.1.1) (Nat.le_of_ble_eq_true rfl) (mk_68 hw m1.1) ?_
  rintro _ _ ⟨rfl, eA⟩
  rw [eA]
  clear eA
  refine xr_steps (pc' := 18) (L' := [(1, .int (Int32.ofInt (ye n f (p + 1)))), (0, .ref cu)]) (st' := [.int (Int32.ofInt ((1 : Nat) : Int)), .ref cu]) 3 rfl ?_
  refine xr_call (q := (.invokevirtual 106, 3, 77, 2)) (av := [.ref cu, .int (Int32.ofInt ((1 : Nat) : Int))]) (rest := []) rfl rfl (by decide) rfl (xr_rcv rfl m1.1.1) (Nat.le_of_ble_eq_true rfl) (mk_77 hw m1.1 (by omega)) ?_
  rintro _ A2 ⟨rfl, m2⟩
  have e1 : yn (ye n f) 97 122 1 (p + 1) = if 97 ≤ ye n f (p + 1) ∧ ye n f (p + 1) ≤ 122 then 1 else 0 := rfl
  by_cases hl : 97 ≤ ye n f (p + 1) ∧ ye n f (p + 1) ≤ 122
  case neg =>
    rw [e1, if_neg hl] at m2 ⊢
    refine xr_if_eq rfl (by omega) (fun _ => ?_) (fun h => absurd rfl h)
    refine xr_steps (pc' := 43) (L' := [(1, .int (Int32.ofInt (ye n f (p + 1)))), (0, .ref cu)]) (st' := [.int (Int32.ofInt 0)]) 1 rfl ?_
    exact hz A2 (p + 1) _ (by omega) (by omega) (ymv_trans m1 m2) (fun h => hl h.2.1)
  rw [e1, if_pos hl] at m2 ⊢
  have m12 := ymv_trans m1 m2
  refine xr_if_eq rfl (by omega) (fun h => absurd h (by omega)) (fun _ => ?_)
  refine xr_steps (pc' := 27) (L' := [(1, .int (Int32.ofInt (ye n f (p + 1)))), (0, .ref cu)]) (st' := [.int (Int32.ofInt 34), .ref cu]) 2 rfl ?_
  by_cases h3 : ye n f (p + 1 + 1) = 34
  case neg =>
    refine xr_call (q := (.invokevirtual 79, 3, 67, 2)) (av := [.ref cu, .int (Int32.ofInt 34)]) (rest := []) rfl rfl (by decide) rfl (xr_rcv rfl m2.1.1) (Nat.le_of_ble_eq_true rfl) (mk_no hw m2.1 (by omega) h3) ?_
    rintro _ _ ⟨rfl, eA⟩
    rw [eA]
    clear eA
    refine xr_if_eq rfl (by omega) (fun _ => ?_) (fun h => absurd rfl h)
    refine xr_steps (pc' := 43) (L' := [(1, .int (Int32.ofInt (ye n f (p + 1)))), (0, .ref cu)]) (st' := [.int (Int32.ofInt 0)]) 1 rfl ?_
    exact hz A2 (p + 1 + 1) _ (by omega) (by omega) m12 (fun h => h3 h.2.2.1)
  refine xr_call (q := (.invokevirtual 79, 3, 67, 2)) (av := [.ref cu, .int (Int32.ofInt 34)]) (rest := []) rfl rfl (by decide) rfl (xr_rcv rfl m2.1.1) (Nat.le_of_ble_eq_true rfl) (mk_yes hw m2.1 (by omega) h3) ?_
  rintro _ A3 ⟨rfl, m3⟩
  have m13 := ymv_trans m12 m3
  refine xr_if_eq rfl (by omega) (fun h => absurd h (by omega)) (fun _ => ?_)
  refine xr_steps (pc' := 36) (L' := [(1, .int (Int32.ofInt (ye n f (p + 1)))), (0, .ref cu)]) (st' := [.int (Int32.ofInt 58), .ref cu]) 2 rfl ?_
  by_cases h4 : ye n f (p + 1 + 1 + 1) = 58
  case neg =>
    refine xr_call (q := (.invokevirtual 79, 3, 67, 2)) (av := [.ref cu, .int (Int32.ofInt 58)]) (rest := []) rfl rfl (by decide) rfl (xr_rcv rfl m3.1.1) (Nat.le_of_ble_eq_true rfl) (mk_no hw m3.1 (by omega) h4) ?_
    rintro _ _ ⟨rfl, eA⟩
    rw [eA]
    clear eA
    refine xr_if_ne rfl (by omega) (fun h => absurd rfl h) (fun _ => ?_)
    refine xr_steps (pc' := 43) (L' := [(1, .int (Int32.ofInt (ye n f (p + 1)))), (0, .ref cu)]) (st' := [.int (Int32.ofInt 0)]) 1 rfl ?_
    exact hz A3 (p + 1 + 1 + 1) _ (by omega) (by omega) m13 (fun h => h4 h.2.2.2)
  refine xr_call (q := (.invokevirtual 79, 3, 67, 2)) (av := [.ref cu, .int (Int32.ofInt 58)]) (rest := []) rfl rfl (by decide) rfl (xr_rcv rfl m3.1.1) (Nat.le_of_ble_eq_true rfl) (mk_yes hw m3.1 (by omega) h4) ?_
  rintro _ A4 ⟨rfl, m4⟩
  refine xr_if_ne rfl (by omega) (fun _ => ?_) (fun h => absurd h (by omega))
  refine xr_steps (pc' := 45) (L' := [(1, .int (Int32.ofInt (ye n f (p + 1)))), (0, .ref cu)]) (st' := [.int (Int32.ofInt (ye n f (p + 1)))]) 1 rfl ?_
  exact xr_retCh rfl rfl (by omega) ⟨_, rfl, ye n f (p + 1), p + 4, rfl, by omega, by omega, ymv_trans m13 m4, Or.inl ⟨⟨h34, hl, h3, h4⟩, rfl, rfl⟩⟩
