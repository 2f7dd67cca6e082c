/-! ArrayList.add as a whole; the value objects are made -/
theorem elo_fr {A A' : xb_H} {r : Option Nat} {M : List Nat} {p q : Nat} (hf : yfr A A' M p q) (h : xb_elo A r = true) (hM : ∀ y, r = some y → ¬ y ∈ M) : xb_elo A' r = true := by
  cases r with
  | none => rfl
  | some y =>
    unfold xb_elo at h ⊢
    dsimp only at h ⊢
    cases hg : xb_get A y with
    | none => rw [hg] at h; cases h
    | some oo =>
      rw [hg] at h
      rw [yfr_get hf hg (hM y rfl)]
      exact h
theorem elo_ne {A : xb_H} {y a k : Nat} {fs : List Value} (h : xb_elo A (some y) = true) (ha : xb_get A a = some (.inr (k, fs))) (hk : ¬ (k = 9 ∨ k = 4)) : ¬ y = a := by
  intro e
  subst e
  unfold xb_elo at h
  dsimp only at h
  rw [ha] at h
  dsimp only at h
  simp only [Bool.or_eq_true, decide_eq_true_eq] at h
  exact hk h
theorem elo_neA {A : xb_H} {y a : Nat} {c : FieldType × xb_A} (h : xb_elo A (some y) = true) (ha : xb_get A a = some (.inl c)) : ¬ y = a := by
  intro e
  subst e
  unfold xb_elo at h
  dsimp only at h
  rw [ha] at h
  cases h
theorem ma_118 {w : Value} {d : Nat} {A : xb_H} {la ed cap x k : Nat} {as : List Nat} {fs : List Value} (hl : yal A la ed cap as) (hn : as.length ≤ 130) (hes : ∀ y ∈ as, xb_elo A (some y) = true) (hx : xb_get A x = some (.inr (k, fs))) (hk : k = 9 ∨ k = 4) : xr_ok (xt_G w) (d + 1 + 1 + 1 + 1 + 1 + 1) 118 0 [(0, .ref la), (1, .ref x)] [] A (fun o A' => ∃ v0, o = .inl v0 ∧ v0 = some (.int (Int32.ofInt 1)) ∧ ∃ (ed' cap' : Nat), yal A' la ed' cap' (as ++ [x]) ∧ (cap' = cap ∨ cap' ≤ 2 * as.length + 10) ∧ yfr A A' [la, if ed = 6 then la else ed] 1 (2 * as.length + 10) ∧ (ed' = ed ∨ ed' = A.1)) := by
  obtain ⟨mc, g, hla, he, hzl, hc, hcap, hed, hg⟩ := hl
  obtain ⟨em, hem⟩ : ∃ em, em = if ed = 6 then la else ed := ⟨_, rfl⟩
  rw [← hem]
  have hem2 : em = la ∨ em = ed := by rw [hem]; split <;> omega
  have hxl : ¬ x = la := elo_ne (elo_of hx hk) hla (by omega)
  have hxe : ¬ x = ed := elo_neA (elo_of hx hk) he
  have hne : ¬ ed = la := by
    intro e
    rw [e, hla] at he
    cases he
  have hel : ∀ j : Nat, j < as.length → xb_elo A (g j) = true := by
    intro j hj
    rw [hg j hj, List.getElem?_eq_getElem hj]
    exact hes _ (List.getElem_mem hj)
  have hel2 : ∀ j : Nat, j < as.length → ∀ y, g j = some y → ¬ y ∈ [la, em] := by
    intro j hj y hy
    have h0 := hel j hj
    rw [hy] at h0
    have h1 := elo_ne h0 hla (by omega)
    have h2 := elo_neA h0 he
    simp only [List.mem_cons, List.not_mem_nil, or_false]
    omega
  have f31 := yfr_refl A [la, em] 0 0
  refine xr_steps (pc' := 2) (L' := [(0, .ref la), (1, .ref x)]) (st' := [.ref la, .ref la]) 2 rfl ?_
  refine xr_getf (v := .int mc) rfl hla rfl ?_
  refine xr_steps (pc' := 7) (L' := [(0, .ref la), (1, .ref x)]) (st' := [.int (mc + Int32.ofInt 1), .ref la]) 2 rfl ?_
  obtain ⟨A32, eA32⟩ : ∃ A0, xb_set A la (.inr (13, [.ref ed, .int (Int32.ofInt (as.length : Int)), .int (mc + Int32.ofInt 1)])) = A0 := ⟨_, rfl⟩
  refine xr_putf (t := .int) rfl hla (show 64 ≤ la by omega) (Nat.le_of_ble_eq_true rfl) rfl (xr_fitI _) (xr_heap eA32 ?_)
  have g33 := xr_mv eA32 (xb_get_set_same hla)
  have g34 := xr_mv eA32 (xb_get_set_ne hla he (by omega))
  have g35 := xr_mv eA32 (xb_get_set_ne hla hx (by omega))
  have nA32 : A32.1 = A.1 := by rw [← eA32]; rfl
  have f36 := yfr_mv eA32 (yfr_step_set f31 hla (Or.inl (by simp)))
  refine xr_steps (pc' := 13) (L' := [(0, .ref la), (1, .ref x)]) (st' := [.ref la, .ref x, .ref la]) 3 rfl ?_
  refine xr_getf (v := .ref ed) rfl g33 rfl ?_
  refine xr_steps (pc' := 17) (L' := [(0, .ref la), (1, .ref x)]) (st' := [.ref la, .ref ed, .ref x, .ref la]) 1 rfl ?_
  refine xr_getf (v := .int (Int32.ofInt (as.length : Int))) rfl g33 rfl ?_
  refine xr_call (q := (.invokevirtual 131, 3, 119, 4)) (av := [.ref la, .ref x, .ref ed, .int (Int32.ofInt (as.length : Int))]) (rest := []) rfl rfl (by decide) rfl (xr_rcv rfl g33) (Nat.le_of_ble_eq_true rfl) (ma_119 g33 hzl g34 hed (by omega) (fun j hj => elo_fr f36 (hel j hj) (hel2 j hj)) g35 hk hxl) ?_
  rintro _ A7 ⟨rfl, ed2, cap2, g2, p1, p2, p3, p4, p5, p6, p7, p8, p9⟩
  rw [← hem] at p8
  have k7 := yfr_trans f36 p8 (fun z hz => by simp only [List.mem_cons, List.not_mem_nil, or_false] at hz ⊢; omega)
  refine xr_steps (pc' := 24) (L' := [(0, .ref la), (1, .ref x)]) (st' := [.int (Int32.ofInt 1)]) 1 rfl ?_
  refine xr_retZ rfl rfl (by omega) ⟨_, rfl, rfl, ed2, cap2, ⟨mc + Int32.ofInt 1, g2, ?_, p2, hzl, by rw [List.length_append]; exact p4, by omega, Or.inr p3, fun j hj => ?_⟩, p5, yfr_mono k7 (fun z hz => Or.inl hz) (by omega) (by omega), ?_⟩
  · have e : (((as ++ [x]).length : Nat) : Int) = (as.length : Int) + 1 := by rw [List.length_append]; rfl
    rw [e]
    exact p1
  · rw [List.length_append] at hj
    by_cases hjc : j = as.length
    · rw [hjc, p7, List.getElem?_append_right (Nat.le_refl _), Nat.sub_self]
      rfl
    · have hj2 : j < as.length := by simp at hj; omega
      rw [p6 j hj2, hg j hj2, List.getElem?_append_left hj2]
  · rcases p9 with h | h
    · exact Or.inl h
    · exact Or.inr (by omega)
theorem ma_116 {w : Value} {d : Nat} {A : xb_H} {a : Nat}  : xr_ok (xt_G w) (d + 1) 116 0 [(0, .ref a)] [] A (fun o A' => ∃ v0, o = .inl v0 ∧ v0 = none ∧ A' = A) := by
  refine xr_steps (pc' := 1) (L' := [(0, .ref a)]) (st' := [.ref a]) 1 rfl ?_
  refine xr_objI rfl (by omega) (by decide) ?_
  exact xr_retN rfl rfl ⟨_, rfl, rfl, rfl⟩
theorem ma_115 {w : Value} {d : Nat} {A : xb_H} {a : Nat} (ha : xb_get A a = some (.inr (13, [.null, .int (Int32.ofInt 0), .int (Int32.ofInt 0)]))) (hz : 64 ≤ a) : xr_ok (xt_G w) (d + 1 + 1) 115 0 [(0, .ref a)] [] A (fun o A' => ∃ v0, o = .inl v0 ∧ v0 = none ∧ xb_get A' a = some (.inr (13, [.null, .int (Int32.ofInt 0), .int (Int32.ofInt 0)])) ∧ yfr A A' [a] 0 0 ∧ A'.1 = A.1) := by
  have f31 := yfr_refl A [a] 0 0
  refine xr_steps (pc' := 1) (L' := [(0, .ref a)]) (st' := [.ref a]) 1 rfl ?_
  refine xr_call (q := (.invokespecial 1, 3, 116, 1)) (av := [.ref a]) (rest := []) rfl rfl (by decide) rfl (xr_rcv rfl ha) (Nat.le_of_ble_eq_true rfl) ma_116 ?_
  rintro _ _ ⟨rfl, eA⟩
  rw [eA]
  clear eA
  refine xr_steps (pc' := 6) (L' := [(0, .ref a)]) (st' := [.int (Int32.ofInt 0), .ref a]) 2 rfl ?_
  obtain ⟨A32, eA32⟩ : ∃ A0, xb_set A a (.inr (13, [.null, .int (Int32.ofInt 0), .int (Int32.ofInt 0)])) = A0 := ⟨_, rfl⟩
  refine xr_putf (t := .int) rfl ha (show 64 ≤ a by omega) (Nat.le_of_ble_eq_true rfl) rfl (xr_fitI _) (xr_heap eA32 ?_)
  have g33 := xr_mv eA32 (xb_get_set_same ha)
  have nA32 : A32.1 = A.1 := by rw [← eA32]; rfl
  have f34 := yfr_mv eA32 (yfr_step_set f31 ha (Or.inl (by simp)))
  exact xr_retN rfl rfl ⟨_, rfl, rfl, g33, f34, by omega⟩
theorem ma_114 {w : Value} {d : Nat} {A : xb_H} {a : Nat} (ha : xb_get A a = some (.inr (13, [.null, .int (Int32.ofInt 0), .int (Int32.ofInt 0)]))) (hz : 64 ≤ a) : xr_ok (xt_G w) (d + 1 + 1 + 1) 114 0 [(0, .ref a)] [] A (fun o A' => ∃ v0, o = .inl v0 ∧ v0 = none ∧ xb_get A' a = some (.inr (13, [.ref 6, .int (Int32.ofInt 0), .int (Int32.ofInt 0)])) ∧ yfr A A' [a] 0 0 ∧ A'.1 = A.1) := by
  have f31 := yfr_refl A [a] 0 0
  refine xr_steps (pc' := 1) (L' := [(0, .ref a)]) (st' := [.ref a]) 1 rfl ?_
  refine xr_call (q := (.invokespecial 1, 3, 115, 1)) (av := [.ref a]) (rest := []) rfl rfl (by decide) rfl (xr_rcv rfl ha) (Nat.le_of_ble_eq_true rfl) (ma_115 ha hz) ?_
  rintro _ A9 ⟨rfl, k1, k2, k3⟩
  have jfr := yfr_trans f31 k2 (fun z hz => by simp only [List.mem_cons, List.not_mem_nil, or_false] at hz ⊢; omega)
  refine xr_steps (pc' := 8) (L' := [(0, .ref a)]) (st' := [.ref 6, .ref a]) 2 rfl ?_
  obtain ⟨A32, eA32⟩ : ∃ A0, xb_set A9 a (.inr (13, [.ref 6, .int (Int32.ofInt 0), .int (Int32.ofInt 0)])) = A0 := ⟨_, rfl⟩
  refine xr_putf (t := .array (.object "java/lang/Object")) rfl k1 (show 64 ≤ a by omega) (Nat.le_of_ble_eq_true rfl) rfl (xr_fitR _ rfl) (xr_heap eA32 ?_)
  have g33 := xr_mv eA32 (xb_get_set_same k1)
  have nA32 : A32.1 = A9.1 := by rw [← eA32]; rfl
  have f34 := yfr_mv eA32 (yfr_step_set jfr k1 (Or.inl (by simp)))
  exact xr_retN rfl rfl ⟨_, rfl, rfl, g33, f34, by omega⟩
theorem mv_113 {w : Value} {d : Nat} {A : xb_H} {a kd sa : Nat} (ha : xb_get A a = some (.inr (9, [.null, .null, .null, .int (Int32.ofInt 0), .int (Int32.ofInt 0)]))) (hz : 64 ≤ a) : xr_ok (xt_G w) (d + 1 + 1 + 1 + 1) 113 0 [(0, .ref a), (1, .ref kd), (2, .ref sa)] [] A (fun o A' => ∃ v0, o = .inl v0 ∧ v0 = none ∧ xb_get A' a = some (.inr (9, [.ref kd, .ref sa, .ref A.1, .int (Int32.ofInt 0), .int (Int32.ofInt 1)])) ∧ xb_get A' A.1 = some (.inr (13, [.ref 6, .int (Int32.ofInt 0), .int (Int32.ofInt 0)])) ∧ yfr A A' [a] 1 3 ∧ A'.1 = A.1 + 1) := by
  have hlt := xb_get_lt ha
  have f31 := yfr_refl A [a] 0 0
  refine xr_steps (pc' := 1) (L' := [(0, .ref a), (1, .ref kd), (2, .ref sa)]) (st' := [.ref a]) 1 rfl ?_
  refine xr_objI rfl (by omega) (by decide) ?_
  refine xr_steps (pc' := 6) (L' := [(0, .ref a), (1, .ref kd), (2, .ref sa)]) (st' := [.ref kd, .ref a]) 2 rfl ?_
  obtain ⟨A32, eA32⟩ : ∃ A0, xb_set A a (.inr (9, [.ref kd, .null, .null, .int (Int32.ofInt 0), .int (Int32.ofInt 0)])) = A0 := ⟨_, rfl⟩
  refine xr_putf (t := .object "ContractDesk$Kind") rfl ha (show 64 ≤ a by omega) (Nat.le_of_ble_eq_true rfl) rfl (xr_fitR _ rfl) (xr_heap eA32 ?_)
  have g33 := xr_mv eA32 (xb_get_set_same ha)
  have nA32 : A32.1 = A.1 := by rw [← eA32]; rfl
  have f34 := yfr_mv eA32 (yfr_step_set f31 ha (Or.inl (by simp)))
  refine xr_steps (pc' := 11) (L' := [(0, .ref a), (1, .ref kd), (2, .ref sa)]) (st' := [.ref sa, .ref a]) 2 rfl ?_
  obtain ⟨A35, eA35⟩ : ∃ A0, xb_set A32 a (.inr (9, [.ref kd, .ref sa, .null, .int (Int32.ofInt 0), .int (Int32.ofInt 0)])) = A0 := ⟨_, rfl⟩
  refine xr_putf (t := .object "java/lang/String") rfl g33 (show 64 ≤ a by omega) (Nat.le_of_ble_eq_true rfl) rfl (xr_fitR _ rfl) (xr_heap eA35 ?_)
  have g36 := xr_mv eA35 (xb_get_set_same g33)
  have nA35 : A35.1 = A32.1 := by rw [← eA35]; rfl
  have f37 := yfr_mv eA35 (yfr_step_set f34 g33 (Or.inl (by simp)))
  refine xr_steps (pc' := 15) (L' := [(0, .ref a), (1, .ref kd), (2, .ref sa)]) (st' := [.ref a]) 1 rfl ?_
  obtain ⟨A38, eA38⟩ : ∃ A0, xb_new A35 3 (.inr (13, [.null, .int (Int32.ofInt 0), .int (Int32.ofInt 0)])) = A0 := ⟨_, rfl⟩
  refine xr_newO rfl (xr_heap eA38 ?_)
  have g39 := xr_mv eA38 (xb_get_new_old g36)
  have g40 := xr_mv eA38 xb_get_new_same
  have nA38 : A38.1 = A35.1 + 1 := by rw [← eA38]; rfl
  have f41 := yfr_mv eA38 (yfr_step_new f37)
  refine xr_steps (pc' := 19) (L' := [(0, .ref a), (1, .ref kd), (2, .ref sa)]) (st' := [.ref A35.1, .ref A35.1, .ref a]) 1 rfl ?_
  refine xr_call (q := (.invokespecial 21, 3, 114, 1)) (av := [.ref A35.1]) (rest := [.ref A35.1, .ref a]) rfl rfl (by decide) rfl (xr_rcv rfl g40) (Nat.le_of_ble_eq_true rfl) (ma_114 g40 (by omega)) ?_
  rintro _ A8 ⟨rfl, k1, k2, k3⟩
  have ja := yfr_get k2 g39 (by simp only [List.mem_cons, List.not_mem_nil, or_false]; omega)
  have jfr := yfr_trans f41 k2 (fun z hz => by simp only [List.mem_cons, List.not_mem_nil, or_false] at hz ⊢; omega)
  obtain ⟨A42, eA42⟩ : ∃ A0, xb_set A8 a (.inr (9, [.ref kd, .ref sa, .ref A35.1, .int (Int32.ofInt 0), .int (Int32.ofInt 0)])) = A0 := ⟨_, rfl⟩
  refine xr_putf (t := .object "java/util/ArrayList") rfl ja (show 64 ≤ a by omega) (Nat.le_of_ble_eq_true rfl) rfl (xr_fitR _ rfl) (xr_heap eA42 ?_)
  have g43 := xr_mv eA42 (xb_get_set_same ja)
  have g44 := xr_mv eA42 (xb_get_set_ne ja k1 (by omega))
  have nA42 : A42.1 = A8.1 := by rw [← eA42]; rfl
  have f45 := yfr_mv eA42 (yfr_step_set jfr ja (Or.inl (by simp)))
  refine xr_steps (pc' := 27) (L' := [(0, .ref a), (1, .ref kd), (2, .ref sa)]) (st' := [.int (Int32.ofInt 0), .ref a]) 2 rfl ?_
  obtain ⟨A46, eA46⟩ : ∃ A0, xb_set A42 a (.inr (9, [.ref kd, .ref sa, .ref A35.1, .int (Int32.ofInt 0), .int (Int32.ofInt 0)])) = A0 := ⟨_, rfl⟩
  refine xr_putf (t := .char) rfl g43 (show 64 ≤ a by omega) (Nat.le_of_ble_eq_true rfl) rfl (xr_fitC (by omega)) (xr_heap eA46 ?_)
  have g47 := xr_mv eA46 (xb_get_set_same g43)
  have g48 := xr_mv eA46 (xb_get_set_ne g43 g44 (by omega))
  have nA46 : A46.1 = A42.1 := by rw [← eA46]; rfl
  have f49 := yfr_mv eA46 (yfr_step_set f45 g43 (Or.inl (by simp)))
  refine xr_steps (pc' := 32) (L' := [(0, .ref a), (1, .ref kd), (2, .ref sa)]) (st' := [.int (Int32.ofInt 1), .ref a]) 2 rfl ?_
  obtain ⟨A50, eA50⟩ : ∃ A0, xb_set A46 a (.inr (9, [.ref kd, .ref sa, .ref A35.1, .int (Int32.ofInt 0), .int (Int32.ofInt 1)])) = A0 := ⟨_, rfl⟩
  refine xr_putf (t := .int) rfl g47 (show 64 ≤ a by omega) (Nat.le_of_ble_eq_true rfl) rfl (xr_fitI _) (xr_heap eA50 ?_)
  have g51 := xr_mv eA50 (xb_get_set_same g47)
  have g52 := xr_mv eA50 (xb_get_set_ne g47 g48 (by omega))
  have nA50 : A50.1 = A46.1 := by rw [← eA50]; rfl
  have f53 := yfr_mv eA50 (yfr_step_set f49 g47 (Or.inl (by simp)))
  have el : A35.1 = A.1 := by omega
  rw [el] at g52 g51
  exact xr_retN rfl rfl ⟨_, rfl, rfl, g51, g52, yfr_mono f53 (fun z hz => Or.inl hz) (by omega) (by omega), by omega⟩
