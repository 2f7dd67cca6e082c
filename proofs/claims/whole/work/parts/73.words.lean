/-! Values without parts are read -/
/-- what a reader of such values does: r is what stands at p (its kind, its letters, its end)-/
def yrl (A A' : xb_H) (cu sa v n : Nat) (f : Nat → Int) (p : Nat) (r : Option (Nat × List Int × Nat)) (v0 : Option Value) : Prop := ∃ p', p ≤ p' ∧ ymv A A' cu sa v n f p' 4 30 ∧ ((∃ (a kd : Nat) (ls : List Int), v0 = some (.ref a) ∧ (∀ m, yt A' (yP A.1 A'.1 sa v) (m + 1) a 0 (xv_m kd ls [])) ∧ (A.1 ≤ a ∧ a < A'.1) ∧ p < p' ∧ (r = some (kd, ls, p') ∨ (r = none ∧ 48 ≤ ye n f p' ∧ ye n f p' ≤ 57))) ∨ (v0 = some .null ∧ r = none))
theorem yP_lo {lo hi sa v x : Nat} (h : lo ≤ x) (h2 : x < hi) : yP lo hi sa v x := Or.inl ⟨h, h2⟩
theorem yP_c {lo hi sa v x : Nat} (h : x < 64) : yP lo hi sa v x := Or.inr (Or.inr (Or.inr h))
theorem mv_comb {A1 A32 A7 : xb_H} {kd s : Nat} {o0 : xb_O} (e : xb_new A1 5 o0 = A32) (q1 : xb_get A7 A1.1 = some (.inr (9, [.ref kd, .ref s, .ref A32.1, .int (Int32.ofInt 0), .int (Int32.ofInt 1)]))) (q2 : xb_get A7 A32.1 = some (.inr (13, [.ref 6, .int (Int32.ofInt 0), .int (Int32.ofInt 0)]))) (q3 : yfr A32 A7 [A1.1] 1 3) (q4 : A7.1 = A32.1 + 1) : xb_get A7 A1.1 = some (.inr (9, [.ref kd, .ref s, .ref (A1.1 + 1), .int (Int32.ofInt 0), .int (Int32.ofInt 1)])) ∧ xb_get A7 (A1.1 + 1) = some (.inr (13, [.ref 6, .int (Int32.ofInt 0), .int (Int32.ofInt 0)])) ∧ yfr A1 A7 [] 2 8 ∧ A7.1 = A1.1 + 2 := by
  have n1 : A32.1 = A1.1 + 1 := by rw [← e]; rfl
  rw [n1] at q1 q2 q4
  refine ⟨q1, q2, ?_, q4⟩
  have f1 : yfr A1 A32 [] 1 5 := by rw [← e]; exact yfr_new [] (Nat.le_refl _) (Nat.le_refl _)
  exact yfr_trans f1 q3 (fun x hx => Or.inr (by rw [List.mem_singleton] at hx; omega))
theorem ymv_fr {A B C : xb_H} {cu sa v n p a b a' b' : Nat} {f : Nat → Int} (h : ymv A B cu sa v n f p a b) (hf : yfr B C [] a' b') : ymv A C cu sa v n f p (a + a') (b + b') :=
  ⟨ycu_fr h.1 hf List.not_mem_nil List.not_mem_nil List.not_mem_nil, yfr_trans h.2 hf (fun x hx => absurd hx List.not_mem_nil)⟩
theorem ys_fr0 {A A' : xb_H} {a v n : Nat} {f : Nat → Int} {p q : Nat} (h : ys A a v n f) (hf : yfr A A' [] p q) : ys A' a v n f := ys_fr h hf List.not_mem_nil List.not_mem_nil
theorem yk1_fr0 {A A' : xb_H} {p q : Nat} (h : yk1 A) (hf : yfr A A' [] p q) : yk1 A' := yk1_fr h hf (fun z hz => absurd hz List.not_mem_nil)
theorem yk1_mv {A A' : xb_H} {cu sa v n p a b : Nat} {f : Nat → Int} (h : yk1 A) (hm : ymv A A' cu sa v n f p a b) : yk1 A' := yk1_fr h hm.2 (fun z hz => by rw [List.mem_singleton] at hz; have := hm.1.2.2.1; omega)
/-- a word at p -/
noncomputable def xpw (e g : Nat → Int) (lw : Nat) (kd : Nat) (ls : List Int) (p : Nat) : Option (Nat × List Int × Nat) := @ite _ (xwd e g lw 0 p) (Classical.propDecidable _) (some (kd, ls, p + lw)) none
theorem mv_140 {w : Value} {d : Nat} {A : xb_H} {cu sa v n p : Nat} {f : Nat → Int} {sw vw lw kd : Nat} {g : Nat → Int} {ls : List Int} (hw : w = .null ∨ w = .ref 19) (hc : ycu A cu sa v n f p) (hk : yk1 A) (hs : ys A sw vw lw g) (hsw : sw < 64 ∧ vw < 64) (hg : ∀ j : Nat, j < lw → 1 ≤ g j ∧ g j ≤ 127) (hlw : 1 ≤ lw ∧ lw ≤ 5) (hls : ls.length = lw) (hgl : ∀ j : Nat, j < ls.length → g j = ls.getD j 0) : xr_ok (xt_G w) (d + 1 + 1 + 1 + 1 + 1 + 1 + 1) 140 0 [(0, .ref cu), (1, .ref sw), (2, .ref kd)] [] A (fun o A' => ∃ v0, o = .inl v0 ∧ yrl A A' cu sa v n f p (xpw (ye n f) g lw kd ls p) v0) := by
  have h1 := hc.1
  have hp := hc.2.2
  have hlt := xb_get_lt h1
  obtain ⟨hn1, hn2⟩ := ycu_ne hc
  refine xr_steps (pc' := 2) (L' := [(0, .ref cu), (1, .ref sw), (2, .ref kd)]) (st' := [.ref sw, .ref cu]) 2 rfl ?_
  refine xr_call (q := (.invokevirtual 121, 3, 141, 2)) (av := [.ref cu, .ref sw]) (rest := []) rfl rfl (by decide) rfl (xr_rcv rfl h1) (Nat.le_of_ble_eq_true rfl) (mk_141 hw hc hs ⟨by omega, by omega⟩ hg (by omega)) ?_
  rintro _ A1 ⟨b, p1, rfl, hp1, m1, hb⟩
  have k1 := yk1_mv hk m1
  have hA1 := m1.2.1.1
  refine xr_if_eq rfl (by omega) (fun z31 => ?_) (fun z31 => ?_)
  · refine xr_steps (pc' := 21) (L' := [(0, .ref cu), (1, .ref sw), (2, .ref kd)]) (st' := [.null]) 1 rfl ?_
    have hb0 : b = 0 := by omega
    refine xr_retNull rfl rfl ⟨_, rfl, p1, hp1, ymv_mono m1 (by omega) (by omega), Or.inr ⟨rfl, ?_⟩⟩
    rcases hb with ⟨hb1, -⟩ | ⟨-, hb2⟩
    · omega
    · exact if_neg hb2
  · obtain ⟨A32, eA32⟩ : ∃ A0, xb_new A1 5 (.inr (9, [.null, .null, .null, .int (Int32.ofInt 0), .int (Int32.ofInt 0)])) = A0 := ⟨_, rfl⟩
    refine xr_newO rfl (xr_heap eA32 ?_)
    have g33 := xr_mv eA32 xb_get_new_same
    have nA32 : A32.1 = A1.1 + 1 := by rw [← eA32]; rfl
    refine xr_steps (pc' := 14) (L' := [(0, .ref cu), (1, .ref sw), (2, .ref kd)]) (st' := [.ref sw, .ref kd, .ref A1.1, .ref A1.1]) 3 rfl ?_
    refine xr_call (q := (.invokespecial 88, 3, 113, 3)) (av := [.ref A1.1, .ref kd, .ref sw]) (rest := [.ref A1.1]) rfl rfl (by decide) rfl (xr_rcv rfl g33) (Nat.le_of_ble_eq_true rfl) (mv_113 g33 (by omega)) ?_
    rintro _ A7 ⟨rfl, q1, q2, q3, q4⟩
    obtain ⟨r1, r2, r3, r4⟩ := mv_comb eA32 q1 q2 q3 q4
    refine xr_steps (pc' := 21) (L' := [(0, .ref cu), (1, .ref sw), (2, .ref kd)]) (st' := [.ref A1.1]) 1 rfl ?_
    have hb1 : b = 1 := by omega
    have hb2 : xwd (ye n f) g lw 0 p ∧ p1 = p + lw := by
      rcases hb with ⟨-, h2, h3⟩ | ⟨h2, -⟩
      · exact ⟨h2, h3⟩
      · omega
    have hs7 := ys_fr0 (ys_fr hs m1.2 (by rw [List.mem_singleton]; omega) (by rw [List.mem_singleton]; omega)) r3
    rw [← hls] at hs7
    refine xr_retR rfl rfl ⟨_, rfl, p1, hp1, ymv_mono (ymv_fr m1 r3) (by omega) (by omega), Or.inl ⟨A1.1, kd, ls, rfl, fun m => yt_leaf r1 hs7 hgl r2 (yk1_fr0 k1 r3) (by omega) ⟨yP_lo (by omega) (by omega), yP_c (by omega), yP_c (by omega), yP_lo (by omega) (by omega), yP_c (by omega)⟩ m, ⟨by omega, by omega⟩, by omega, Or.inl ?_⟩⟩
    rw [hb2.2]
    exact if_pos hb2.1
theorem mk_yes {w : Value} {d : Nat} {A : xb_H} {cu sa v n p : Nat} {f : Nat → Int} {c : Int} (hw : w = .null ∨ w = .ref 19) (hc : ycu A cu sa v n f p) (hcc : 1 ≤ c ∧ c ≤ 127) (h : ye n f p = c) : xr_ok (xt_G w) (d + 1 + 1 + 1 + 1 + 1) 67 0 [(0, .ref cu), (1, .int (Int32.ofInt c))] [] A (fun o A' => ∃ v0, o = .inl v0 ∧ v0 = some (.int (Int32.ofInt 1)) ∧ ymv A A' cu sa v n f (p + 1) 0 0) := by
  refine xr_conseq (mk_acc (b := 1) hw hc hcc (Or.inl ⟨rfl, h⟩)) ?_
  rintro o A' ⟨v0, h1, h2, h3⟩
  rcases h3 with ⟨-, -, m⟩ | ⟨hb, -, -⟩
  · exact ⟨v0, h1, h2, m⟩
  · omega
theorem mk_no {w : Value} {d : Nat} {A : xb_H} {cu sa v n p : Nat} {f : Nat → Int} {c : Int} (hw : w = .null ∨ w = .ref 19) (hc : ycu A cu sa v n f p) (hcc : 1 ≤ c ∧ c ≤ 127) (h : ¬ ye n f p = c) : xr_ok (xt_G w) (d + 1 + 1 + 1 + 1 + 1) 67 0 [(0, .ref cu), (1, .int (Int32.ofInt c))] [] A (fun o A' => ∃ v0, o = .inl v0 ∧ v0 = some (.int (Int32.ofInt 0)) ∧ A' = A) := by
  refine xr_conseq (mk_acc (b := 0) hw hc hcc (Or.inr ⟨rfl, h⟩)) ?_
  rintro o A' ⟨v0, h1, h2, h3⟩
  rcases h3 with ⟨hb, -, -⟩ | ⟨-, -, m⟩
  · omega
  · exact ⟨v0, h1, h2, m⟩
/-- a string at p: its letters, its end -/
def xps (e : Nat → Int) (p : Nat) : Option (Nat × List Int × Nat) := if e (p + 1 + yn e 97 122 12 (p + 1)) = 34 then some (3, xch e (p + 1) (yn e 97 122 12 (p + 1)), p + 1 + yn e 97 122 12 (p + 1) + 1) else none
theorem mv_131 {w : Value} {d : Nat} {A : xb_H} {cu sa v n p : Nat} {f : Nat → Int} (hw : w = .null ∨ w = .ref 19) (hc : ycu A cu sa v n f p) (hk : yk1 A) (h34 : ye n f p = 34) : xr_ok (xt_G w) (d + 1 + 1 + 1 + 1 + 1 + 1) 131 0 [(0, .ref cu)] [] A (fun o A' => ∃ v0, o = .inl v0 ∧ yrl A A' cu sa v n f p (xps (ye n f) p) v0) := by
  have h1 := hc.1
  have hp := hc.2.2
  have hlt := xb_get_lt h1
  have hpn : p < n := ye_in (f := f) (by omega)
  refine xr_steps (pc' := 3) (L' := [(0, .ref cu)]) (st' := [.int (Int32.ofInt 34), .ref cu]) 2 rfl ?_
  refine xr_call (q := (.invokevirtual 79, 3, 67, 2)) (av := [.ref cu, .int (Int32.ofInt 34)]) (rest := []) rfl rfl (by decide) rfl (xr_rcv rfl h1) (Nat.le_of_ble_eq_true rfl) (mk_yes hw hc (by omega) h34) ?_
  rintro _ A1 ⟨rfl, m1⟩
  refine xr_if_ne rfl (by omega) (fun _ => ?_) (fun h => absurd h (by omega))
  refine xr_steps (pc' := 12) (L' := [(0, .ref cu)]) (st' := [.ref cu]) 1 rfl ?_
  refine xr_call (q := (.invokevirtual 110, 3, 132, 1)) (av := [.ref cu]) (rest := []) rfl rfl (by decide) rfl (xr_rcv rfl m1.1.1) (Nat.le_of_ble_eq_true rfl) (mk_132 hw m1.1) ?_
  rintro _ _ ⟨rfl, eA⟩
  rw [eA]
  clear eA
  refine xr_steps (pc' := 19) (L' := [(1, .int (Int32.ofInt ((p + 1 : Nat) : Int))), (0, .ref cu)]) (st' := [.int (Int32.ofInt ((12 : Nat) : Int)), .ref cu]) 3 rfl ?_
  refine xr_call (q := (.invokevirtual 106, 3, 77, 2)) (av := [.ref cu, .int (Int32.ofInt ((12 : Nat) : Int))]) (rest := []) rfl rfl (by decide) rfl (xr_rcv rfl m1.1.1) (Nat.le_of_ble_eq_true rfl) (mk_77 hw m1.1 (by omega)) ?_
  rintro _ A2 ⟨rfl, m2⟩
  unfold xps
  generalize hkk : yn (ye n f) 97 122 12 (p + 1) = k at m2 ⊢
  refine xr_steps (pc' := 25) (L' := [(1, .int (Int32.ofInt ((p + 1 : Nat) : Int))), (0, .ref cu)]) (st' := [.int (Int32.ofInt ((p + 1 : Nat) : Int)), .ref cu]) 3 rfl ?_
  have m12 := ymv_trans m1 m2
  have k2 := yk1_mv hk m12
  refine xr_call (q := (.invokevirtual 114, 3, 133, 2)) (av := [.ref cu, .int (Int32.ofInt ((p + 1 : Nat) : Int))]) (rest := []) rfl rfl (by decide) rfl (xr_rcv rfl m2.1.1) (Nat.le_of_ble_eq_true rfl) (mk_133 hw m2.1 k2.1.1 (by omega)) ?_
  rintro _ A3 ⟨s3, v3, f3, rfl, y3, e3, fr3, c3⟩
  have m3 := ymv_fr m12 fr3
  have k3 := yk1_fr0 k2 fr3
  have elen : p + 1 + k - (p + 1) = k := by omega
  rw [elen] at y3 e3 fr3
  refine xr_steps (pc' := 32) (L' := [(2, .ref s3), (1, .int (Int32.ofInt ((p + 1 : Nat) : Int))), (0, .ref cu)]) (st' := [.int (Int32.ofInt 34), .ref cu]) 3 rfl ?_
  obtain ⟨b, hb⟩ := mo_bool (ye n f (p + 1 + k) = 34)
  refine xr_call (q := (.invokevirtual 79, 3, 67, 2)) (av := [.ref cu, .int (Int32.ofInt 34)]) (rest := []) rfl rfl (by decide) rfl (xr_rcv rfl m3.1.1) (Nat.le_of_ble_eq_true rfl) (mk_acc hw m3.1 (by omega) hb) ?_
  rintro _ A4 ⟨rfl, hcase⟩
  have hA3 := m12.2.1.1
  have hA3' := fr3.1.1
  rcases hcase with ⟨rfl, e4, m4⟩ | ⟨rfl, e4, rfl⟩
  · refine xr_if_eq rfl (by omega) (fun h => absurd h (by omega)) (fun _ => ?_)
    obtain ⟨A5, eA5⟩ : ∃ A0, xb_new A4 5 (.inr (9, [.null, .null, .null, .int (Int32.ofInt 0), .int (Int32.ofInt 0)])) = A0 := ⟨_, rfl⟩
    refine xr_newO rfl (xr_heap eA5 ?_)
    have g5 := xr_mv eA5 xb_get_new_same
    have hA4 := m4.2.1.1
    have n5 : A5.1 = A4.1 + 1 := by rw [← eA5]; rfl
    refine xr_steps (pc' := 46) (L' := [(2, .ref s3), (1, .int (Int32.ofInt ((p + 1 : Nat) : Int))), (0, .ref cu)]) (st' := [.ref s3, .ref 3, .ref A4.1, .ref A4.1]) 3 rfl ?_
    refine xr_call (q := (.invokespecial 88, 3, 113, 3)) (av := [.ref A4.1, .ref 3, .ref s3]) (rest := [.ref A4.1]) rfl rfl (by decide) rfl (xr_rcv rfl g5) (Nat.le_of_ble_eq_true rfl) (mv_113 g5 (by omega)) ?_
    rintro _ A7 ⟨rfl, q1, q2, q3, q4⟩
    obtain ⟨r1, r2, r3, r4⟩ := mv_comb eA5 q1 q2 q3 q4
    refine xr_steps (pc' := 53) (L' := [(2, .ref s3), (1, .int (Int32.ofInt ((p + 1 : Nat) : Int))), (0, .ref cu)]) (st' := [.ref A4.1]) 1 rfl ?_
    have m5 := ymv_fr (ymv_trans m3 m4) r3
    have hne : ¬ s3 = cu ∧ ¬ v3 = cu := by
      have hh := ycu_ne m3.1
      obtain ⟨⟨fs3, y31, -⟩, y32, -⟩ := id y3
      refine ⟨fun e => ?_, fun e => ?_⟩
      · rw [e, m3.1.1] at y31
        cases y31
      · rw [e, m3.1.1] at y32
        cases y32
    have y4 := ys_fr y3 m4.2 (by rw [List.mem_singleton]; exact hne.1) (by rw [List.mem_singleton]; exact hne.2)
    have y7 := ys_fr0 y4 r3
    have hkn : k ≤ 12 := by rw [← hkk]; exact yn_le _ _ _ _ _
    have hs3 := xb_get_lt y3.1.choose_spec.1
    have hv3 := xb_get_lt y3.2.1
    have el : (xch (ye n f) (p + 1) k).length = k := xch_len _ _ _
    rw [← el] at y7
    refine xr_retR rfl rfl ⟨_, rfl, p + 1 + k + 1, by omega, ymv_mono m5 (by omega) (by omega), Or.inl ⟨A4.1, 3, xch (ye n f) (p + 1) k, rfl, fun m => yt_leaf r1 y7 (fun j hj => ?_) r2 (yk1_fr0 (yk1_mv k3 m4) r3) (by omega) ⟨yP_lo (by omega) (by omega), ?_, ?_, yP_lo (by omega) (by omega), yP_c (by omega)⟩ m, ⟨by omega, by omega⟩, by omega, Or.inl (if_pos e4)⟩⟩
    · rw [el] at hj
      rw [e3 j hj, xch_get _ _ _ _ hj]
      have := m3.1.2.2.2.1
      unfold ye
      rw [if_pos (by omega)]
    · rcases c3 with ⟨e, -⟩ | ⟨e, -⟩ | ⟨e, -⟩
      · exact Or.inr (Or.inl e)
      · exact yP_c (by omega)
      · exact yP_lo (by omega) (by omega)
    · rcases c3 with ⟨-, e⟩ | ⟨-, e⟩ | ⟨-, e⟩
      · exact Or.inr (Or.inr (Or.inl e))
      · exact yP_c (by omega)
      · exact yP_lo (by omega) (by omega)
  · refine xr_if_eq rfl (by omega) (fun _ => ?_) (fun h => absurd rfl h)
    refine xr_steps (pc' := 53) (L' := [(2, .ref s3), (1, .int (Int32.ofInt ((p + 1 : Nat) : Int))), (0, .ref cu)]) (st' := [.null]) 1 rfl ?_
    have hkn : k ≤ 12 := by rw [← hkk]; exact yn_le _ _ _ _ _
    exact xr_retNull rfl rfl ⟨_, rfl, p + 1 + k, by omega, ymv_mono m3 (by omega) (by omega), Or.inr ⟨rfl, if_neg e4⟩⟩
