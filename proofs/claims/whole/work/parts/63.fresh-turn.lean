/-! One call on fresh objects: the law's turn -/
theorem yf_int (x : Int32) : ∃ k : Int, (-2147483648 ≤ k ∧ k ≤ 2147483647) ∧ x = Int32.ofInt k := by
  refine ⟨x.toInt, ⟨?_, ?_⟩, (Int32.ofInt_toInt x).symm⟩
  · exact Int32.le_toInt x
  · have := Int32.toInt_lt x
    omega
def yf_J (n : Nat) (xs : Nat → Int32) (A : xb_H) : Prop := yl_st A n xs ∧ A.1 ≤ 300 ∧ A.2.1 ≤ 30000
theorem yf_stJ {A : xb_H} {n : Nat} {xs : Nat → Int32} (h : yk_st A n xs) (h1 : A.1 ≤ 300) (h2 : A.2.1 ≤ 30000) (s : Nat → Int) (t : Nat → Nat → Int) : yf_J n xs (ym A s t) := by
  obtain ⟨hA, ⟨h20, ⟨fs, h64⟩, -⟩, -, -⟩ := h
  refine ⟨⟨?_, ⟨fs, ?_⟩, ⟨_, ym_165 hA⟩⟩, h1, h2⟩
  · rw [ym_get_else (by omega)]
    exact h20
  · rw [ym_get_else (by omega)]
    exact h64
/-- the class answers x, leaving A1; the reference answers x too -/
theorem yf_pair {w : Value} {yx ymm : Nat} {av : List Value} {A : xb_H} {n : Nat} {xs : Nat → Int32} {x : Int} {s' : Nat → Int} {P : xb_H → Prop} (hc : xr_ok (xt_G w) xl_d yx 0 (lv_args 0 (.ref 64 :: av)) [] A (fun o A1 => ∃ v, o = .inl v ∧ v = some (.int (Int32.ofInt x)) ∧ P A1)) (hP : ∀ A1, P A1 → yk_st A1 n xs ∧ A1.1 ≤ 300 ∧ A1.2.1 ≤ 30000) (hm : ∀ A1 t, yk_st A1 n xs → A1.1 ≤ 300 → A1.2.1 ≤ 30000 → (∀ x, 166 ≤ x → x < 193 → ∀ j, j < (ym_ty x).2 → t x j = 0) → xr_ok (xt_G w) xl_d ymm 0 (lv_args 0 (.ref 165 :: av)) [] (ym A1 (fun _ => 0) t) (fun o A2 => ∃ v, o = .inl v ∧ v = some (.int (Int32.ofInt x)) ∧ yf_J n xs A2)) : yl_pair w yx ymm av A n xs (yf_J n xs) := by
  unfold yl_pair
  refine xr_conseq hc ?_
  rintro o A1 ⟨v, h1, h2, h3⟩
  obtain ⟨k1, k2, k3⟩ := hP A1 h3
  refine ⟨v, h1, Int32.ofInt x, h2, k1.2.1, ?_⟩
  obtain ⟨t, ht, hz⟩ := k1.2.2.2
  refine xr_heap ht ?_
  refine xr_conseq (hm A1 t k1 k2 k3 hz) ?_
  rintro o2 A2 ⟨u, q1, q2, q3⟩
  exact ⟨u, q1, q2, q3⟩
/-- the class throws its IllegalArgumentException, the reference says 1 -/
theorem yf_thrown {w : Value} {yx ymm : Nat} {k : Int} {A A2 : xb_H} {n : Nat} {xs : Nat → Int32} (hc : xr_ok (xt_G w) xl_d yx 0 (lv_args 0 [.ref 64, .int (Int32.ofInt k)]) [] A (fun o A' => o = .inr 1 ∧ A' = xb_thr A2)) (hk : yk_st A2 n xs) (h1 : A2.1 ≤ 299) (h2 : A2.2.1 ≤ 29900) (hm : ∀ A1 t, 194 ≤ A1.1 → (∀ x, 166 ≤ x → x < 193 → ∀ j, j < (ym_ty x).2 → t x j = 0) → xr_ok (xt_G w) xl_d ymm 0 (lv_args 0 [.ref 165, .int (Int32.ofInt k)]) [] (ym A1 (fun _ => 0) t) (fun o A' => ∃ v, o = .inl v ∧ v = some (.int (Int32.ofInt 0)) ∧ ∃ t', A' = ym A1 (va_up (va_up (fun _ => 0) 0 1) 2 0) t')) : yl_pairT w true yx ymm (Int32.ofInt k) A n xs (yf_J n xs) := by
  unfold yl_pairT
  refine xr_conseq hc ?_
  rintro o A1 ⟨e1, e2⟩
  have hs := yk_thr hk
  refine ⟨Int32.ofInt 1, A1, Or.inr (Or.inr ⟨e1, rfl, rfl, rfl⟩), ?_⟩
  rw [e2]
  obtain ⟨t, ht, hz⟩ := hs.2.2.2
  refine ⟨hs.2.1, xr_heap ht ?_⟩
  refine xr_conseq (hm (xb_thr A2) t hs.1 hz) ?_
  rintro o2 A3 ⟨u, q1, q2, t', q3⟩
  refine ⟨u, q1, Int32.ofInt 0, q2, ⟨ym_F (va_up (va_up (fun _ => 0) 0 1) 2 0), ?_, rfl⟩, fun hv => absurd hv (by decide), ?_⟩
  · rw [q3]
    exact ym_165 hs.1
  · rw [q3]
    exact yf_stJ hs (by show A2.1 + 1 ≤ 300; omega) (by show A2.2.1 + 6 ≤ 30000; omega) _ _
theorem yf_turn {w : Value} (hw : w = .null ∨ w = .ref 19) (n : Nat) (xs : Nat → Int32) : yl_turn w n xs 0 (xd_B (xd_A2 w) n xs) (yf_J n xs) := by
  obtain ⟨T1, T2, hT, hR, r1, r2, rst⟩ := yk_run hw (y := 110) (Or.inl rfl) n xs
  obtain ⟨U1, U2, hU, hV, u1, u2, ust⟩ := yk_run hw (y := 153) (Or.inr (Or.inl rfl)) n xs
  obtain ⟨V1, V2, hX, hY, v1, v2, vst⟩ := yk_run hw (y := 65) (Or.inr (Or.inr rfl)) n xs
  obtain ⟨A, t, f66, f69, f70, f67, hy, eB, n1, n2, hz, h20, h193, h64, hb65, ⟨h68, h71⟩, ⟨h69, z69⟩, ⟨h70, z70⟩, ⟨h67, z67⟩⟩ := yz_fresh hw n xs
  rw [eB] at hT hU hX hy ⊢
  have h69' : xb_get A 69 = some (.inl (.int, 6, .inl fun j => Int32.ofInt (f69 j).toInt)) := by
    rw [h69]
    exact congrArg (fun z => some (Sum.inl (FieldType.int, 6, Sum.inl z))) (funext fun j => (Int32.ofInt_toInt (f69 j)).symm)
  have h70' : xb_get A 70 = some (.inl (.int, 3072, .inl fun j => Int32.ofInt (f70 j).toInt)) := by
    rw [h70]
    exact congrArg (fun z => some (Sum.inl (FieldType.int, 3072, Sum.inl z))) (funext fun j => (Int32.ofInt_toInt (f70 j)).symm)
  have hst : yk_st A n xs := ⟨by omega, ⟨h20, ⟨_, h64⟩, ⟨_, by rw [hy]; exact ym_165 (by omega)⟩⟩, ⟨_, h193⟩, t, hy, hz⟩
  clear eB
  obtain ⟨k, hk, ek⟩ := yf_int (xs ((0 : Int) + 1).toNat)
  obtain ⟨z, hzz, ez⟩ := yf_int (xs ((0 : Int) + 2).toNat)
  intro c hc
  refine ⟨fun _ => ?_, fun _ => ?_, fun _ => ?_, fun _ => ?_, fun _ => ?_, fun _ => ?_, fun _ => ?_, fun _ => ?_, fun _ => ?_, fun _ => ?_, fun _ => ?_, fun _ => ?_, fun _ => ?_⟩
  · generalize ((xs ((0 : Int) + 1).toNat).toInt64 <<< ((Int32.ofInt 32).toInt64 &&& 63) ||| (xs ((0 : Int) + 2).toNat).toInt64 &&& Int64.ofInt 4294967295) = X
    obtain ⟨b, hb⟩ := mo_bool (xw_fit X ((0 : Nat) : Int))
    refine yf_pair (x := b) (s' := fun _ => 0) (mc_11 (d := 994) (dn := 0) hb65 h64 (by omega) hb) ?_ ?_
    · rintro A1 (⟨-, rfl⟩ | ⟨-, v', n', f', q1, q2, q3, q4, q5, q6⟩)
      · exact ⟨hst, by omega, by omega⟩
      · have g64 := yfr_get q4 h64 (by decide)
        have g193 := yfr_get q4 h193 (by decide)
        have b1 := q4.1.2
        have b2 := q4.2.1.2
        exact ⟨yk_fr hst q4 (by decide) ⟨_, g64⟩ ⟨_, g193⟩, by omega, by omega⟩
    · intro A1 t1 k1 k2 k3 _
      refine xr_conseq (mo_205 (d := 1000) k1.1 (by decide) hb) ?_
      rintro o A2 ⟨v, q1, q2, q3⟩
      refine ⟨v, q1, q2, ?_⟩
      rw [q3]
      split
      · exact yf_stJ k1 k2 k3 _ _
      · exact yf_stJ k1 k2 k3 _ _
  · have ex : ∃ x : Int, (0 ≤ x ∧ x ≤ 1) ∧ (if xs ((0 : Int) + 1).toNat = 0 then (0 : Int32) else 1) = Int32.ofInt x := by
      by_cases h : xs ((0 : Int) + 1).toNat = 0
      · exact ⟨0, by omega, by rw [if_pos h]; rfl⟩
      · exact ⟨1, by omega, by rw [if_neg h]; rfl⟩
    obtain ⟨x, hx, ex⟩ := ex
    rw [ex]
    unfold yl_pairT
    refine xr_conseq (mc_103 (d := 998) (n := 0) h64 h67 (by omega) hx) ?_
    rintro o A1 ⟨v, q1, q2, q3, q4, q5, q6, q7, q8, q9⟩
    have g193 := yfr_get q8 h193 (by decide)
    have b1 := q8.1.2
    have b2 := q8.2.1.2
    obtain ⟨A1', e1⟩ : ∃ A1', xb_set A1 193 (.inl (.long, 1, .inr (.inl (va_up (fun _ => 0) 0 (Int32.ofInt 0).toInt64)))) = A1' := ⟨_, rfl⟩
    have g193' := xr_mv e1 (xb_get_set_same (o := .inl (.long, 1, .inr (.inl (va_up (fun _ => 0) 0 (Int32.ofInt 0).toInt64)))) g193)
    have fr2 : yfr A A1' [64, 67, 193] 3 17 := yfr_mv e1 (yfr_step_set (yfr_mono q8 (fun x hx => Or.inl (by simp only [List.mem_cons, List.not_mem_nil, or_false] at hx ⊢; omega)) (Nat.le_refl _) (Nat.le_refl _)) g193 (Or.inl (by decide)))
    have g64' := xr_mv e1 (xb_get_set_ne (o := .inl (.long, 1, .inr (.inl (va_up (fun _ => 0) 0 (Int32.ofInt 0).toInt64)))) g193 q3 (by decide))
    have st1 : yk_st A1' n xs := yk_fr hst fr2 (by decide) ⟨_, g64'⟩ ⟨_, g193'⟩
    have c1 := fr2.1.2
    have c2 := fr2.2.1.2
    refine ⟨0, A1', Or.inl ⟨Int32.ofInt 0, 1, fun _ => 0, by rw [q1, q2], g193, by omega, by decide, rfl, e1.symm⟩, st1.2.1, ?_⟩
    obtain ⟨t1, ht1, hz1⟩ := st1.2.2.2
    refine xr_heap ht1 (xr_conseq (mo_206 (d := 1000) st1.1 hx (by decide)) ?_)
    rintro o2 A2 ⟨u, p1, p2, p3⟩
    refine ⟨u, p1, Int32.ofInt 0, p2, ⟨_, by rw [p3]; exact ym_165 st1.1, rfl⟩, fun _ => ⟨va_up (fun _ => 0) 0 (Int32.ofInt 0).toInt64, ?_, rfl⟩, ?_⟩
    · rw [p3, ym_get_else (by omega)]
      exact g193'
    · rw [p3]
      exact yf_stJ st1 (by omega) (by omega) _ _
  · rw [ek]
    refine yf_thrown (mc_109n (d := 991) (n := 0) h64 hk (by omega) (by omega) hT hR) rst (by omega) (by omega) (fun A1 t1 a1 a2 => xr_conseq (mo_207z (d := 999) a1 hk rfl rfl) ?_)
    rintro o A' ⟨v, p1, p2, p3⟩
    exact ⟨v, p1, p2, _, p3⟩
  · rw [ek]
    refine yf_thrown (mc_152n (d := 991) (n := 0) h64 hk (by omega) (by omega) hU hV) ust (by omega) (by omega) (fun A1 t1 a1 a2 => xr_conseq (mo_227z (d := 997) a1 hk rfl rfl) ?_)
    rintro o A' ⟨v, p1, p2, p3⟩
    exact ⟨v, p1, p2, _, p3⟩
  · rw [ek, ez]
    refine yf_pair (x := 0) (s' := fun _ => 0) (P := fun A1 => A1 = A) (mc_38n (d := 999) (n := 0) h64 hk hzz (by omega) (by omega)) (fun A1 e => by rw [e]; exact ⟨hst, by omega, by omega⟩) ?_
    intro A1 t1 k1 k2 k3 hz1
    refine xr_conseq (mo_225 (d := 999) (b := 0) k1.1 hk hzz (by decide) (fun j hj => by rw [hz1 171 (by omega) (by omega) j hj]; decide) (fun j hj => by rw [hz1 172 (by omega) (by omega) j hj]; decide) (Or.inr ⟨rfl, fun h => by have h1 : 0 ≤ k ∧ k < 0 := h.1; omega⟩)) ?_
    rintro o A2 ⟨v, q1, q2, q3⟩
    exact ⟨v, q1, q2, by rw [q3]; exact yf_stJ k1 k2 k3 _ _⟩
  · rw [ek, ez]
    obtain ⟨b, hb⟩ := mo_bool ((0 ≤ k ∧ k ≤ 5) ∧ 0 ≤ z ∧ z ≤ 3)
    refine yf_pair (x := b) (s' := fun _ => 0) (P := fun A1 => A1 = if b = 1 then xb_set A 69 (.inl (.int, 6, .inl fun j => Int32.ofInt (va_up (fun j => (f69 j).toInt) k.toNat z j))) else A) (mc_43 (d := 998) (n := 0) (ec := 0) h64 h68 h69' hk hzz hb) (fun A1 e => ?_) ?_
    · rw [e]
      split
      · refine ⟨yk_fr (M := [69]) (p := 0) (q := 0) hst (yfr_set h69' (by decide) 0 0) (by decide) ⟨_, xb_get_set_ne h69' h64 (by decide)⟩ ⟨_, xb_get_set_ne h69' h193 (by decide)⟩, ?_, ?_⟩
        · show A.1 ≤ 300
          omega
        · show A.2.1 ≤ 30000
          omega
      · exact ⟨hst, by omega, by omega⟩
    · intro A1 t1 k1 k2 k3 hz1
      refine xr_conseq (mo_226 (d := 1000) (b := b) k1.1 hk hzz hb) ?_
      rintro o A2 ⟨v, q1, q2, q3⟩
      exact ⟨v, q1, q2, by rw [q3]; exact yf_stJ k1 k2 k3 _ _⟩
  · rw [ek]
    refine yf_pair (x := -1) (s' := fun _ => 0) (P := fun A1 => A1 = V2) (mc_45n (d := 991) (n := 0) h64 hk (by omega) (by omega) hX hY) (fun A1 e => by rw [e]; exact ⟨vst, by omega, by omega⟩) ?_
    intro A1 t1 k1 k2 k3 hz1
    refine xr_conseq (mo_232z (d := 998) k1.1 hk rfl rfl) ?_
    rintro o A2 ⟨v, q1, q2, q3⟩
    exact ⟨v, q1, q2, by rw [q3]; exact yf_stJ k1 k2 k3 _ _⟩
  · rw [ek]
    refine yf_thrown (mc_163n (d := 991) (n := 0) h64 hk (by omega) (by omega) hT hR) rst (by omega) (by omega) (fun A1 t1 a1 a2 => xr_conseq (mo_237z (d := 999) a1 hk rfl rfl) ?_)
    rintro o A' ⟨v, p1, p2, p3⟩
    exact ⟨v, p1, p2, _, p3⟩
  · refine yf_pair (x := 0) (s' := fun _ => 0) (P := fun A1 => A1 = A) (mc_91 (d := 999) (n := 0) (fd := 0) h64 h71 (by omega) rfl) (fun A1 e => by rw [e]; exact ⟨hst, by omega, by omega⟩) ?_
    intro A1 t1 k1 k2 k3 hz1
    refine xr_conseq (mo_256 (d := 1000) k1.1 (by decide)) ?_
    rintro o A2 ⟨v, q1, q2, q3⟩
    exact ⟨v, q1, q2, by rw [q3]; exact yf_stJ k1 k2 k3 _ _⟩
  · rw [ek]
    refine yf_pair (x := -1) (s' := fun _ => 0) (P := fun A1 => A1 = A) (mc_93n (d := 998) (n := 0) (fd := 0) h64 h71 hk (by omega) (by omega)) (fun A1 e => by rw [e]; exact ⟨hst, by omega, by omega⟩) ?_
    intro A1 t1 k1 k2 k3 hz1
    refine xr_conseq (mo_257 (d := 1000) k1.1 hk (by decide)) ?_
    rintro o A2 ⟨v, q1, q2, q3⟩
    rw [if_neg (by omega)] at q2
    exact ⟨v, q1, q2, by rw [q3]; exact yf_stJ k1 k2 k3 _ _⟩
  · rw [ek, ez]
    refine yf_pair (x := -1) (s' := fun _ => 0) (P := fun A1 => A1 = A) (mc_96n (d := 998) (n := 0) (fd := 0) h64 h71 hk (by omega) (by omega)) (fun A1 e => by rw [e]; exact ⟨hst, by omega, by omega⟩) ?_
    intro A1 t1 k1 k2 k3 hz1
    refine xr_conseq (mo_258 (d := 1000) k1.1 hk hzz (by decide) (fun j hj => by rw [hz1 176 (by omega) (by omega) j hj]; decide)) ?_
    rintro o A2 ⟨v, q1, q2, q3⟩
    rw [if_neg (by omega)] at q2
    exact ⟨v, q1, q2, by rw [q3]; exact yf_stJ k1 k2 k3 _ _⟩
  · rw [ek]
    obtain ⟨r, hr⟩ : ∃ r : Int, (k = -1 ∧ r = 0) ∨ (¬ k = -1 ∧ r = -1) := by
      by_cases h : k = -1
      · exact ⟨0, Or.inl ⟨h, rfl⟩⟩
      · exact ⟨-1, Or.inr ⟨h, rfl⟩⟩
    refine yf_pair (x := r) (s' := fun _ => 0) (P := fun A1 => A1 = A) (mc_100 (d := 999) (n := 0) (ec := 0) (r := r) h64 h68 h70' hk (by omega) (by omega)) (fun A1 e => by rw [e]; exact ⟨hst, by omega, by omega⟩) ?_
    intro A1 t1 k1 k2 k3 hz1
    refine xr_conseq (mo_259 (d := 1000) k1.1 hk (by decide)) ?_
    rintro o A2 ⟨v, q1, q2, q3⟩
    refine ⟨v, q1, ?_, by rw [q3]; exact yf_stJ k1 k2 k3 _ _⟩
    rw [q2]
    rcases hr with ⟨h, rfl⟩ | ⟨h, rfl⟩
    · rw [if_pos h]
    · rw [if_neg h, if_neg (by omega)]
  · exact ⟨hst.2.1, by omega, by omega⟩
theorem yf_first {w : Value} (hw : w = .null ∨ w = .ref 19) (n : Nat) (xs : Nat → Int32) : yf_J n xs (xd_B (xd_A2 w) n xs) := by
  obtain ⟨A, t, f66, f69, f70, f67, hy, eB, n1, n2, hz, h20, h193, h64, hb65, ⟨h68, h71⟩, ⟨h69, z69⟩, ⟨h70, z70⟩, ⟨h67, z67⟩⟩ := yz_fresh hw n xs
  rw [eB] at hy ⊢
  exact ⟨⟨h20, ⟨_, h64⟩, ⟨_, by rw [hy]; exact ym_165 (by omega)⟩⟩, by omega, by omega⟩
