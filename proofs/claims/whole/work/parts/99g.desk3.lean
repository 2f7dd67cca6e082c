/-! The desk's methods: write, make, handler, event, listed, mismatch, letter -/
section DW
variable {w : Value} {d : Nat} {A A1 A2 A3 : xb_H} {R : Nat → Nat} {v nv : Nat} {vv : Nat → Nat} {xa : Nat → Nat × Nat × Nat} {ir : Value} {l T : List Int} {ins : List xI} {hd : Nat → Int} {ev : List Int} {ms : List (Int × List Int)} {k : Int}
theorem yKE_refl (A : xb_H) (p q : Nat) : yKE A A p q := ⟨⟨Nat.le_refl _, by omega⟩, ⟨Nat.le_refl _, by omega⟩, fun _ _ _ h => h⟩
theorem ya_app_l {f : Nat → Int} {T L : List Int} (hf : ∀ j : Nat, j < T.length → f j = T.getD j 0) : ∀ j : Nat, j < T.length + L.length → ya_app f T.length L j = (T ++ L).getD j 0 := by
  intro j hj
  rw [ya_app_get, xl_app T L j hj]
  by_cases h : j < T.length
  · rw [if_neg (by omega), if_pos h, hf j h]
  · rw [if_pos (by omega), if_neg h]
/-- roles of cells, with new ones: nothing of the desk but what is given changes -/
theorem yDK_R {R' : Nat → Nat} (h : yDK A R v nv vv xa ir l T ins hd ev ms) (h0 : ∀ y, A.1 ≤ y → R' y = 0) (hR : ∀ y, y < A.1 → R' y = R y) : yDK A R' v nv vv xa ir l T ins hd ev ms := by
  obtain ⟨⟨a1, a2, a3⟩, h64, ⟨b1, b2, b3, b4, b5⟩, c, hin, hse, hcs, hvv⟩ := h
  refine ⟨⟨a1, h0, a3⟩, h64, ⟨b1, b2, by rw [hR v (ybl_lt b1).2.1]; exact b3, b4, b5⟩, c, fun i I hI => ?_, hse, hcs, fun k hk => ?_⟩
  · obtain ⟨i1, i2, i3, i4, i5⟩ := hin i I hI
    obtain ⟨fr, fs, e, x1, x2, x3, -⟩ := id i1
    refine ⟨yin_mono i1 (fun y hy => ?_), i2, by rw [hR _ (xb_get_lt x1)]; exact i3, by rw [hR _ (xb_get_lt x2)]; exact i4, by rw [hR _ (xb_get_lt x3)]; exact i5⟩
    unfold yPz at *
    rcases hy with hy | hy
    · exact Or.inl hy
    · exact Or.inr ⟨hy.1, hy.2.1, by rw [hR y hy.2.1]; exact hy.2.2⟩
  · obtain ⟨kd, n, L, e1, -⟩ := hcs.2.2.2.1.2.1 k hk
    rw [hR _ (ybl_lt e1.2.1).2.1]
    exact hvv k hk
theorem yDK_write {v' n' p q : Nat} {T' : List Int} (h : yDK A R v nv vv xa ir l T ins hd ev ms) (hf : yfr A A1 [65, v] p q) (hb : ybl A1 65 v' n' T') (hv : v' = v ∨ A.1 ≤ v') (hT : T'.length ≤ 100 ∧ ∀ c ∈ T', 32 ≤ c ∧ c ≤ 126) : ∃ R', yDK A1 R' v' n' vv xa ir l T' ins hd ev ms := by
  have n1 := hf.1
  have hbl := ybl_lt hb
  have hA := h.1.1
  have hR0 := h.1.2.1
  obtain ⟨R', hR1, hR2, hR3⟩ : ∃ R' : Nat → Nat, (∀ y, y < A.1 → R' y = R y) ∧ (∀ y, A1.1 ≤ y → R' y = 0) ∧ R' v' = 1 := by
    rcases hv with rfl | hv
    · exact ⟨R, fun _ _ => rfl, fun y hy => hR0 y (by omega), h.2.2.1.2.2.1⟩
    · refine ⟨va_up R v' 1, fun y hy => ya_up_ne _ _ (by omega), fun y hy => ?_, ya_up_same _ _ _⟩
      rw [ya_up_ne _ _ (by omega)]
      exact hR0 y (by omega)
  obtain ⟨⟨a1, a2, a3⟩, h64, ⟨b1, b2, b3, b4, b5⟩, ⟨⟨ia, c1, c2⟩, c3⟩, hin, hse, hcs, hvv⟩ := h
  have hvl := (ybl_lt b1).2.1
  have hM : ∀ y ∈ [65, v], y = 65 ∨ y = v := fun y hy => by simpa only [List.mem_cons, List.not_mem_nil, or_false] using hy
  refine ⟨R', ⟨⟨by omega, hR2, yk1_fr a3 hf (fun y hy => by have := hM y hy; omega)⟩, yfr_get hf h64 (fun hm => by have := hM _ hm; omega), ⟨hb, by omega, hR3, hT.1, hT.2⟩, ⟨⟨ia, yfr_get hf c1 (fun hm => by have := hM _ hm; omega), c2⟩, c3⟩, fun i I hI => ?_, yse_fr hse hf (fun y hy => by have := hM y hy; omega), ycs_fr hcs hf (fun y hy => ?_), fun k hk => ?_⟩⟩
  · have hi := hin i I hI
    obtain ⟨i1, i2, i3, i4, i5⟩ := id hi
    obtain ⟨fr, fs, e, x1, x2, x3, -⟩ := id i1
    obtain ⟨j1, j2, -⟩ := yIN_fr hi hf (fun y hy => by
      rcases hM y hy with rfl | rfl
      · omega
      · omega)
    obtain ⟨fr, fs, e, -⟩ := id j1
    refine ⟨yin_mono (P := yPz A.1 R) (yin_fr i1 hf (fun y hy => ?_)) (fun y hy => ?_), j2, by rw [hR1 _ (xb_get_lt x1)]; exact i3, by rw [hR1 _ (xb_get_lt x2)]; exact i4, by rw [hR1 _ (xb_get_lt x3)]; exact i5⟩
    · have hy2 := hM y hy
      refine ⟨fun hp => ?_, fun e => ?_, fun e => ?_, fun e => ?_⟩
      · unfold yPz at hp
        rcases hy2 with rfl | rfl
        · omega
        · omega
      · rcases hy2 with rfl | rfl
        · omega
        · rw [← e] at i3; omega
      · rcases hy2 with rfl | rfl
        · omega
        · rw [← e] at i4; omega
      · rcases hy2 with rfl | rfl
        · omega
        · rw [← e] at i5; omega
    · unfold yPz at *
      rcases hy with hy | hy
      · exact Or.inl hy
      · exact Or.inr ⟨hy.1, by omega, by rw [hR1 y hy.2.1]; exact hy.2.2⟩
  · have hy2 := hM y hy
    refine ⟨by omega, by omega, fun k hk e => ?_⟩
    have e1 := hvv k hk
    have e2 := (hcs.2.2.2.1.2.2.1 k hk).2
    rcases hy2 with rfl | rfl
    · omega
    · rw [← e] at e1; omega
  · obtain ⟨kd, n, L, e1, -⟩ := hcs.2.2.2.1.2.1 k hk
    rw [hR1 _ (ybl_lt e1.2.1).2.1]
    exact hvv k hk
theorem md_11 {x : Int64} (h : yDK A R v nv vv xa ir l T ins hd ev ms) {b : Int} (hb : (b = 1 ∧ xw_fit x (T.length : Int)) ∨ (b = 0 ∧ ¬ xw_fit x (T.length : Int))) : xr_ok (xt_G w) (d + 30) 11 0 [(0, .ref 64), (1, .long x)] [] A (fun o A' => ∃ v0, o = .inl v0 ∧ v0 = some (.int (Int32.ofInt b)) ∧ ∃ (R' : Nat → Nat) (v' nv' : Nat), yDK A' R' v' nv' vv xa ir l (if b = 1 then T ++ xw_chars x 8 else T) ins hd ev ms ∧ yKE A A' 930 11300) := by
  obtain ⟨⟨m, f, b1, b2⟩, b3, b4, b5, b6⟩ := h.2.2.1
  refine xr_conseq (mc_11 b1 h.2.1 b5 hb) ?_
  rintro o A' ⟨r, e1, e2, e3⟩
  refine ⟨r, e1, e2, ?_⟩
  rcases e3 with ⟨e3, e4⟩ | ⟨e3, v', n', f', e4, e5, e6, e7, e8, e9, e10⟩
  · rw [if_neg (by omega), e4]
    exact ⟨R, v, nv, h, yKE_refl A _ _⟩
  · rw [if_pos e3]
    have hbl : ybl A' 65 v' n' (T ++ xw_chars x 8) := by
      refine ⟨m, f', ?_, fun j hj => ?_⟩
      · rw [List.length_append]; exact e4
      · rw [List.length_append] at hj
        rw [e6 j hj]
        exact ya_app_l b2 j hj
    obtain ⟨R', hD⟩ := yDK_write h e7 hbl e8 (by
      rw [List.length_append]
      refine ⟨e9, fun c hc => ?_⟩
      rcases List.mem_append.mp hc with hc | hc
      · exact b6 c hc
      · exact e10 c hc)
    refine ⟨R', v', n', hD, yKE_mono (yKE_fr e7 (fun y hy => ?_)) (by omega) (by omega)⟩
    simp only [List.mem_cons, List.not_mem_nil, or_false] at hy
    omega
theorem md_100 {r : Int} (h : yDK A R v nv vv xa ir l T ins hd ev ms) (hk : -2147483648 ≤ k ∧ k ≤ 2147483647) (hr : (k = -1 ∧ r = (ev.length : Int)) ∨ (¬ k = -1 ∧ (0 ≤ k ∧ k < (ev.length : Int)) ∧ r = ev.getD k.toNat 0) ∨ (¬ k = -1 ∧ ¬ (0 ≤ k ∧ k < (ev.length : Int)) ∧ r = -1)) : xr_ok (xt_G w) (d + 30) 100 0 [(0, .ref 64), (1, .int (Int32.ofInt k))] [] A (fun o A' => ∃ v0, o = .inl v0 ∧ v0 = some (.int (Int32.ofInt r)) ∧ A' = A) := by
  obtain ⟨s1, s2, ⟨e, s3, s4⟩, s5, s6⟩ := h.2.2.2.2.2.1
  refine mc_100 (ev := e) h.2.1 s1 s3 hk (by omega) ?_
  rcases hr with hr | ⟨h1, h2, h3⟩ | hr
  · exact Or.inl hr
  · exact Or.inr (Or.inl ⟨h1, h2, by rw [s4 k.toNat (by omega)]; exact h3⟩)
  · exact Or.inr (Or.inr hr)
theorem yDK_hd {hd' : Nat → Int} (h : yDK A R v nv vv xa ir l T ins hd ev ms) (hf : yfr A A1 [69] 0 0) (hs : yse A1 hd' ev) : yDK A1 R v nv vv xa ir l T ins hd' ev ms := by
  obtain ⟨⟨a1, a2, a3⟩, h64, ⟨b1, b2, b3, b4, b5⟩, ⟨⟨ia, c1, c2⟩, c3⟩, hin, hse, hcs, hvv⟩ := h
  have n1 := hf.1
  refine ⟨⟨by omega, fun y hy => a2 y (by omega), yk1_fr a3 hf (fun y hy => by rw [List.mem_singleton] at hy; omega)⟩, yfr_get hf h64 (by decide), ⟨ybl_fr b1 hf (by decide) (fun hm => by rw [List.mem_singleton] at hm; omega), b2, b3, b4, b5⟩, ⟨⟨ia, yfr_get hf c1 (by decide), c2⟩, c3⟩, fun i I hI => yIN_fr (hin i I hI) hf (fun y hy => ?_), hs, ycs_fr hcs hf (fun y hy => ?_), hvv⟩
  · rw [List.mem_singleton] at hy
    omega
  · rw [List.mem_singleton] at hy
    refine ⟨by omega, by omega, fun k hk e => ?_⟩
    have := (hcs.2.2.2.1.2.2.1 k hk).2
    omega
theorem md_43 {z : Int} (h : yDK A R v nv vv xa ir l T ins hd ev ms) (hk : -2147483648 ≤ k ∧ k ≤ 2147483647) (hz : -2147483648 ≤ z ∧ z ≤ 2147483647) {b : Int} (hb : (b = 1 ∧ ((0 ≤ k ∧ k ≤ 5) ∧ 0 ≤ z ∧ z ≤ 3)) ∨ (b = 0 ∧ ¬ ((0 ≤ k ∧ k ≤ 5) ∧ 0 ≤ z ∧ z ≤ 3))) : xr_ok (xt_G w) (d + 30) 43 0 [(0, .ref 64), (1, .int (Int32.ofInt k)), (2, .int (Int32.ofInt z))] [] A (fun o A' => ∃ v0, o = .inl v0 ∧ v0 = some (.int (Int32.ofInt b)) ∧ yDK A' R v nv vv xa ir l T ins (if b = 1 then va_up hd k.toNat z else hd) ev ms ∧ yKE A A' 930 11300) := by
  obtain ⟨s1, s2, ⟨e, s3, s4⟩, s5, s6⟩ := h.2.2.2.2.2.1
  refine xr_conseq (mc_43 h.2.1 s1 s2 hk hz hb) ?_
  rintro o A' ⟨v0, e1, e2, e3⟩
  refine ⟨v0, e1, e2, ?_⟩
  by_cases hb1 : b = 1
  · rw [if_pos hb1] at e3 ⊢
    have hf : yfr A A' [69] 0 0 := by rw [e3]; exact yfr_set s2 (List.mem_singleton.mpr rfl) 0 0
    have g := xr_mv e3.symm (xb_get_set_same (o := .inl (.int, 6, .inl fun j => Int32.ofInt (va_up hd k.toNat z j))) s2)
    refine ⟨yDK_hd h hf ⟨yfr_get hf s1 (by decide), g, ⟨e, yfr_get hf s3 (by decide), s4⟩, s5, fun j hj => ?_⟩, yKE_mono (yKE_fr hf (by decide)) (by omega) (by omega)⟩
    unfold va_up
    split
    · omega
    · exact s6 j hj
  · rw [if_neg hb1] at e3 ⊢
    rw [e3]
    exact ⟨h, yKE_refl A _ _⟩
theorem md_91 (h : yDK A R v nv vv xa ir l T ins hd ev ms) (hms : ms.length ≤ 100000) : xr_ok (xt_G w) (d + 30) 91 0 [(0, .ref 64)] [] A (fun o A' => ∃ v0, o = .inl v0 ∧ v0 = some (.int (Int32.ofInt (xmn ms : Int))) ∧ A' = A) := by
  refine mc_91 h.2.1 h.2.2.2.2.2.2.1.2.1 (by omega) ?_
  unfold xmn
  split <;> omega
theorem md_94 (h : yDK A R v nv vv xa ir l T ins hd ev ms) (hk : -2147483648 ≤ k ∧ k ≤ 2147483647) (hms : ms.length ≤ 100000) : xr_ok (xt_G w) (d + 1) 94 0 [(0, .ref 71), (1, .int (Int32.ofInt k))] [] A (fun o A' => ∃ v0, o = .inl v0 ∧ (((0 ≤ k ∧ k < (xmn ms : Int)) ∧ v0 = some (.ref (75 + 3 * k.toNat)) ∧ A' = A) ∨ (¬ (0 ≤ k ∧ k < (xmn ms : Int)) ∧ v0 = some .null ∧ A' = A))) := by
  obtain ⟨-, h71, hp, ⟨⟨fm, m1, m2⟩, m3, m4, m5⟩, -⟩ := h.2.2.2.2.2.2.1
  refine xr_steps (pc' := 1) (L' := [(0, .ref 71), (1, .int (Int32.ofInt k))]) (st' := [.int (Int32.ofInt k)]) 1 rfl ?_
  refine xr_if_lt rfl (by omega) (fun z31 => ?_) (fun z31 => ?_)
  · refine xr_steps (pc' := 22) (L' := [(0, .ref 71), (1, .int (Int32.ofInt k))]) (st' := [.null]) 1 rfl ?_
    exact xr_retNull rfl rfl ⟨_, rfl, Or.inr ⟨by omega, rfl, rfl⟩⟩
  · refine xr_steps (pc' := 6) (L' := [(0, .ref 71), (1, .int (Int32.ofInt k))]) (st' := [.ref 71, .int (Int32.ofInt k)]) 2 rfl ?_
    have hxm : xmn ms ≤ 30 := Nat.min_le_left _ _
    refine xr_call (q := (.invokevirtual 48, 3, 92, 1)) (av := [.ref 71]) (rest := [.int (Int32.ofInt k)]) rfl rfl (by decide) rfl (xr_rcv rfl h71) (Nat.le_of_ble_eq_true rfl) (mc_92 (r := (xmn ms : Int)) h71 (by omega) (by unfold xmn; split <;> omega)) ?_
    rintro _ _ ⟨rfl, eA⟩
    rw [eA]
    clear eA
    refine xr_icmp_ge rfl (by omega) (by omega) (fun z32 => ?_) (fun z32 => ?_)
    · refine xr_steps (pc' := 22) (L' := [(0, .ref 71), (1, .int (Int32.ofInt k))]) (st' := [.null]) 1 rfl ?_
      exact xr_retNull rfl rfl ⟨_, rfl, Or.inr ⟨by omega, rfl, rfl⟩⟩
    · refine xr_steps (pc' := 13) (L' := [(0, .ref 71), (1, .int (Int32.ofInt k))]) (st' := [.ref 71]) 1 rfl ?_
      refine xr_getf (v := .ref 74) rfl h71 rfl ?_
      refine xr_steps (pc' := 17) (L' := [(0, .ref 71), (1, .int (Int32.ofInt k))]) (st' := [.int (Int32.ofInt k), .ref 74]) 1 rfl ?_
      refine xr_aaload rfl m1 (by omega) (by omega) (by omega) (congrArg xb_ref (m2 k.toNat (by omega))) ?_
      refine xr_steps (pc' := 22) (L' := [(0, .ref 71), (1, .int (Int32.ofInt k))]) (st' := [.ref (75 + 3 * k.toNat)]) 1 rfl ?_
      exact xr_retR rfl rfl ⟨_, rfl, Or.inl ⟨by omega, rfl, rfl⟩⟩
theorem md_mm {e : Int × List Int} (h : yDK A R v nv vv xa ir l T ins hd ev ms) (hk : 0 ≤ k ∧ k < (xmn ms : Int)) : ∃ (n : Nat) (e : Int × List Int), ms[k.toNat]? = some e ∧ ymm A (75 + 3 * k.toNat) (76 + 3 * k.toNat) e.1 (vv k.toNat) n (36 :: xwP e.2) := by
  have hxm : xmn ms ≤ 30 ∧ xmn ms ≤ ms.length := ⟨Nat.min_le_left _ _, Nat.min_le_right _ _⟩
  obtain ⟨-, h71, hp, ⟨⟨fm, m1, m2⟩, m3, m4, m5⟩, -⟩ := h.2.2.2.2.2.2.1
  obtain ⟨e, he⟩ : ∃ e, ms[k.toNat]? = some e := ⟨_, List.getElem?_eq_getElem (show k.toNat < ms.length by omega)⟩
  obtain ⟨kd, n, L, y1, y2⟩ := m3 k.toNat (by omega)
  obtain ⟨rfl, rfl⟩ := y2 e he
  exact ⟨n, e, he, y1⟩
theorem md_95 {m b : Nat} {kd : Int} (hm : xb_get A m = some (.inr (5, [.ref b, .int (Int32.ofInt kd)]))) : xr_ok (xt_G w) d 95 0 [(0, .ref m)] [] A (fun o A' => ∃ v0, o = .inl v0 ∧ v0 = some (.int (Int32.ofInt kd)) ∧ A' = A) := by
  refine xr_steps (pc' := 1) (L' := [(0, .ref m)]) (st' := [.ref m]) 1 rfl ?_
  refine xr_getf (v := .int (Int32.ofInt kd)) rfl hm rfl ?_
  exact xr_retI2 rfl rfl ⟨_, rfl, rfl, rfl⟩
end DW
/-! Letters of a place -/
theorem mb_99 {w : Value} {d : Nat} {A : xb_H} {b v n i : Nat} {L : List Int} (hw : w = .null ∨ w = .ref 19) (hb : ybl A b v n L) (hi : i < L.length) : xr_ok (xt_G w) (d + 1 + 1) 99 0 [(0, .ref b), (1, .int (Int32.ofInt (i : Int)))] [] A (fun o A' => ∃ v0, o = .inl v0 ∧ v0 = some (.int (Int32.ofInt (L.getD i 0))) ∧ A' = A) := by
  obtain ⟨m, f, ⟨h1, h2, ⟨h3, h4⟩, h5, h6⟩, h7⟩ := hb
  have hf := h6 i (by omega)
  refine xr_steps (pc' := 1) (L' := [(0, .ref b), (1, .int (Int32.ofInt (i : Int)))]) (st' := [.ref b]) 1 rfl ?_
  refine xr_getf (v := .int 0) rfl h1 rfl ?_
  refine xr_steps (pc' := 6) (L' := [(2, .int 0), (0, .ref b), (1, .int (Int32.ofInt (i : Int)))]) (st' := [.ref b]) 2 rfl ?_
  refine xr_getf (v := .ref v) rfl h1 rfl ?_
  refine xr_steps (pc' := 11) (L' := [(3, .ref v), (2, .int 0), (0, .ref b), (1, .int (Int32.ofInt (i : Int)))]) (st' := [.ref b]) 2 rfl ?_
  refine xr_getf (v := .int (Int32.ofInt (L.length : Int))) rfl h1 rfl ?_
  refine xr_steps (pc' := 15) (L' := [(3, .ref v), (2, .int 0), (0, .ref b), (1, .int (Int32.ofInt (i : Int)))]) (st' := [.ref v, .int (Int32.ofInt (L.length : Int))]) 1 rfl ?_
  refine xr_alen rfl h2 ?_
  refine xr_steps (pc' := 17) (L' := [(3, .ref v), (2, .int 0), (0, .ref b), (1, .int (Int32.ofInt (i : Int)))]) (st' := [.int 0, .int (Int32.ofInt (n : Int)), .int (Int32.ofInt (L.length : Int))]) 1 rfl ?_
  refine xr_shr0I rfl ?_
  refine xr_min rfl (by omega) (by omega) (by omega) (Nat.le_of_ble_eq_true rfl) ?_
  refine xr_steps (pc' := 26) (L' := [(4, .int (Int32.ofInt (min (L.length : Int) (n : Int)))), (3, .ref v), (2, .int 0), (0, .ref b), (1, .int (Int32.ofInt (i : Int)))]) (st' := [.int (Int32.ofInt (min (L.length : Int) (n : Int))), .int (Int32.ofInt (i : Int))]) 3 rfl ?_
  refine xr_call (q := (.invokestatic 144, 3, 36, 2)) (av := [.int (Int32.ofInt (i : Int)), .int (Int32.ofInt (min (L.length : Int) (n : Int)))]) (rest := []) rfl rfl (by decide) rfl rfl (Nat.le_of_ble_eq_true rfl) (ms_36 hw (by omega)) ?_
  rintro _ _ ⟨rfl, eA⟩
  rw [eA]
  clear eA
  refine xr_steps (pc' := 30) (L' := [(4, .int (Int32.ofInt (min (L.length : Int) (n : Int)))), (3, .ref v), (2, .int 0), (0, .ref b), (1, .int (Int32.ofInt (i : Int)))]) (st' := [.int (Int32.ofInt 0)]) 1 rfl ?_
  refine xr_if_ne rfl (by omega) (fun h => absurd rfl h) (fun _ => ?_)
  refine xr_steps (pc' := 35) (L' := [(4, .int (Int32.ofInt (min (L.length : Int) (n : Int)))), (3, .ref v), (2, .int 0), (0, .ref b), (1, .int (Int32.ofInt (i : Int)))]) (st' := [.int (Int32.ofInt (i : Int)), .ref v]) 2 rfl ?_
  refine xr_baload rfl h2 rfl (by omega) (by omega) (by omega) ?_
  rw [Int.toNat_natCast]
  refine xr_steps (pc' := 39) (L' := [(4, .int (Int32.ofInt (min (L.length : Int) (n : Int)))), (3, .ref v), (2, .int 0), (0, .ref b), (1, .int (Int32.ofInt (i : Int)))]) (st' := [.int (Int32.ofInt 255), .int (Int32.ofInt (f i))]) 1 rfl ?_
  refine xr_and255I rfl (by omega) ?_
  refine xr_i2c rfl (by omega) ?_
  rw [h7 i hi] at hf ⊢
  exact xr_retCh rfl rfl (by omega) ⟨_, rfl, rfl, rfl⟩
theorem mb_98 {w : Value} {d : Nat} {A : xb_H} {b v n i : Nat} {L : List Int} (hw : w = .null ∨ w = .ref 19) (hb : ybl A b v n L) (hi : i < L.length) : xr_ok (xt_G w) (d + 1 + 1 + 1) 98 0 [(0, .ref b), (1, .int (Int32.ofInt (i : Int)))] [] A (fun o A' => ∃ v0, o = .inl v0 ∧ v0 = some (.int (Int32.ofInt (L.getD i 0))) ∧ A' = A) := by
  have hf : 0 ≤ L.getD i 0 ∧ L.getD i 0 ≤ 127 := by
    obtain ⟨m, f, ⟨h1, h2, ⟨h3, h4⟩, h5, h6⟩, h7⟩ := id hb
    rw [← h7 i hi]
    exact h6 i (by omega)
  have hc := hb.choose_spec.choose_spec.1.1
  refine xr_steps (pc' := 2) (L' := [(0, .ref b), (1, .int (Int32.ofInt (i : Int)))]) (st' := [.int (Int32.ofInt (i : Int)), .ref b]) 2 rfl ?_
  refine xr_call (q := (.invokespecial 329, 3, 99, 2)) (av := [.ref b, .int (Int32.ofInt (i : Int))]) (rest := []) rfl rfl (by decide) rfl (xr_rcv rfl hc) (Nat.le_of_ble_eq_true rfl) (mb_99 hw hb hi) ?_
  rintro _ _ ⟨rfl, eA⟩
  rw [eA]
  clear eA
  exact xr_retCh rfl rfl (by omega) ⟨_, rfl, rfl, rfl⟩
/-- a new interaction -/
def xI0 (x : Int) : xI := (x, [], [], none)
theorem mb_13 {w : Value} {d : Nat} {A : xb_H} {b v n : Nat} {L : List Int} (hb : ybl A b v n L) : xr_ok (xt_G w) (d + 1) 13 0 [(0, .ref b)] [] A (fun o A' => ∃ v0, o = .inl v0 ∧ v0 = some (.int (Int32.ofInt (L.length : Int))) ∧ A' = A) := by
  obtain ⟨m, f, ⟨h1, -⟩, -⟩ := hb
  exact mm_13 h1 rfl
theorem mb_97 {w : Value} {d : Nat} {A : xb_H} {mm bb v n : Nat} {kd i : Int} {L : List Int} (hw : w = .null ∨ w = .ref 19) (hm : ymm A mm bb kd v n L) (hi : -2147483648 ≤ i ∧ i ≤ 2147483647) : xr_ok (xt_G w) (d + 1 + 1 + 1 + 1) 97 0 [(0, .ref mm), (1, .int (Int32.ofInt i))] [] A (fun o A' => ∃ v0, o = .inl v0 ∧ v0 = some (.int (Int32.ofInt (if 0 ≤ i ∧ i < (L.length : Int) then L.getD i.toNat 0 else -1))) ∧ A' = A) := by
  have hn := (ybl_lt hm.2.1).2.2.2.2.2
  have hn2 := hm.2.2.1
  refine xr_steps (pc' := 1) (L' := [(0, .ref mm), (1, .int (Int32.ofInt i))]) (st' := [.int (Int32.ofInt i)]) 1 rfl ?_
  refine xr_if_lt rfl (by omega) (fun z31 => ?_) (fun z31 => ?_)
  · refine xr_steps (pc' := 16) (L' := [(0, .ref mm), (1, .int (Int32.ofInt i))]) (st' := [.int (Int32.ofInt (-1))]) 1 rfl ?_
    exact xr_retI2 rfl rfl ⟨_, rfl, by rw [if_neg (by omega)], rfl⟩
  · refine xr_steps (pc' := 6) (L' := [(0, .ref mm), (1, .int (Int32.ofInt i))]) (st' := [.ref mm, .int (Int32.ofInt i)]) 2 rfl ?_
    refine xr_getf (v := .ref bb) rfl hm.1 rfl ?_
    refine xr_call (q := (.invokevirtual 32, 3, 13, 1)) (av := [.ref bb]) (rest := [.int (Int32.ofInt i)]) rfl rfl (by decide) rfl (xr_rcv rfl hm.2.1.choose_spec.choose_spec.1.1) (Nat.le_of_ble_eq_true rfl) (mb_13 hm.2.1) ?_
    rintro _ _ ⟨rfl, eA⟩
    rw [eA]
    clear eA
    refine xr_icmp_lt rfl (by omega) (by omega) (fun z32 => ?_) (fun z32 => ?_)
    · refine xr_steps (pc' := 18) (L' := [(0, .ref mm), (1, .int (Int32.ofInt i))]) (st' := [.ref mm]) 1 rfl ?_
      refine xr_getf (v := .ref bb) rfl hm.1 rfl ?_
      refine xr_steps (pc' := 22) (L' := [(0, .ref mm), (1, .int (Int32.ofInt i))]) (st' := [.int (Int32.ofInt i), .ref bb]) 1 rfl ?_
      obtain ⟨j, rfl⟩ : ∃ j : Nat, i = (j : Int) := ⟨i.toNat, by omega⟩
      refine xr_call (q := (.invokevirtual 36, 3, 98, 2)) (av := [.ref bb, .int (Int32.ofInt (j : Int))]) (rest := []) rfl rfl (by decide) rfl (xr_rcv rfl hm.2.1.choose_spec.choose_spec.1.1) (Nat.le_of_ble_eq_true rfl) (mb_98 hw hm.2.1 (show j < L.length by omega)) ?_
      rintro _ _ ⟨rfl, eA⟩
      rw [eA]
      clear eA
      exact xr_retI2 rfl rfl ⟨_, rfl, by rw [if_pos (by omega), Int.toNat_natCast], rfl⟩
    · refine xr_steps (pc' := 16) (L' := [(0, .ref mm), (1, .int (Int32.ofInt i))]) (st' := [.int (Int32.ofInt (-1))]) 1 rfl ?_
      exact xr_retI2 rfl rfl ⟨_, rfl, by rw [if_neg (by omega)], rfl⟩
section DX
variable {w : Value} {d : Nat} {A A1 A2 A3 : xb_H} {R : Nat → Nat} {v nv : Nat} {vv : Nat → Nat} {xa : Nat → Nat × Nat × Nat} {ir : Value} {l T : List Int} {ins : List xI} {hd : Nat → Int} {ev : List Int} {ms : List (Int × List Int)} {k : Int}
theorem md_93 (h : yDK A R v nv vv xa ir l T ins hd ev ms) (hk : -2147483648 ≤ k ∧ k ≤ 2147483647) (hms : ms.length ≤ 100000) : xr_ok (xt_G w) (d + 30) 93 0 [(0, .ref 64), (1, .int (Int32.ofInt k))] [] A (fun o A' => ∃ v0, o = .inl v0 ∧ ∃ r : Int, (v0 = some (.int (Int32.ofInt r)) ∧ A' = A) ∧ ((¬ (0 ≤ k ∧ k < (xmn ms : Int)) ∧ r = -1) ∨ ((0 ≤ k ∧ k < (xmn ms : Int)) ∧ ∃ e, ms[k.toNat]? = some e ∧ r = e.1))) := by
  refine xr_steps (pc' := 1) (L' := [(0, .ref 64), (1, .int (Int32.ofInt k))]) (st' := [.ref 64]) 1 rfl ?_
  refine xr_getf (v := .ref 71) rfl h.2.1 rfl ?_
  refine xr_steps (pc' := 5) (L' := [(0, .ref 64), (1, .int (Int32.ofInt k))]) (st' := [.int (Int32.ofInt k), .ref 71]) 1 rfl ?_
  refine xr_call (q := (.invokevirtual 134, 3, 94, 2)) (av := [.ref 71, .int (Int32.ofInt k)]) (rest := []) rfl rfl (by decide) rfl (xr_rcv rfl h.2.2.2.2.2.2.1.2.1) (Nat.le_of_ble_eq_true rfl) (md_94 h hk hms) ?_
  rintro _ _ (⟨hin, rfl, eA⟩ | ⟨hin, rfl, eA⟩)
  · rw [eA]
    clear eA
    obtain ⟨n, e, he, hy⟩ := md_mm (e := (0, [])) h hin
    refine xr_steps (pc' := 18) (L' := [(2, .ref (75 + 3 * k.toNat)), (0, .ref 64), (1, .int (Int32.ofInt k))]) (st' := [.ref (75 + 3 * k.toNat)]) 4 rfl ?_
    refine xr_call (q := (.invokevirtual 138, 3, 95, 1)) (av := [.ref (75 + 3 * k.toNat)]) (rest := []) rfl rfl (by decide) rfl (xr_rcv rfl hy.1) (Nat.le_of_ble_eq_true rfl) (md_95 hy.1) ?_
    rintro _ _ ⟨rfl, eA⟩
    rw [eA]
    clear eA
    exact xr_retI2 rfl rfl ⟨_, rfl, _, ⟨rfl, rfl⟩, Or.inr ⟨hin, e, he, rfl⟩⟩
  · rw [eA]
    clear eA
    refine xr_steps (pc' := 21) (L' := [(2, .null), (0, .ref 64), (1, .int (Int32.ofInt k))]) (st' := [.int (Int32.ofInt (-1))]) 5 rfl ?_
    exact xr_retI2 rfl rfl ⟨_, rfl, _, ⟨rfl, rfl⟩, Or.inl ⟨hin, rfl⟩⟩
theorem md_96 {z : Int} (hw : w = .null ∨ w = .ref 19) (h : yDK A R v nv vv xa ir l T ins hd ev ms) (hk : -2147483648 ≤ k ∧ k ≤ 2147483647) (hz : -2147483648 ≤ z ∧ z ≤ 2147483647) (hms : ms.length ≤ 100000) : xr_ok (xt_G w) (d + 30) 96 0 [(0, .ref 64), (1, .int (Int32.ofInt k)), (2, .int (Int32.ofInt z))] [] A (fun o A' => ∃ v0, o = .inl v0 ∧ ∃ r : Int, (v0 = some (.int (Int32.ofInt r)) ∧ A' = A) ∧ ((¬ (0 ≤ k ∧ k < (xmn ms : Int)) ∧ r = -1) ∨ ((0 ≤ k ∧ k < (xmn ms : Int)) ∧ ∃ e, ms[k.toNat]? = some e ∧ r = (if 0 ≤ z ∧ z < ((36 :: xwP e.2).length : Int) then (36 :: xwP e.2).getD z.toNat 0 else -1)))) := by
  refine xr_steps (pc' := 1) (L' := [(0, .ref 64), (1, .int (Int32.ofInt k)), (2, .int (Int32.ofInt z))]) (st' := [.ref 64]) 1 rfl ?_
  refine xr_getf (v := .ref 71) rfl h.2.1 rfl ?_
  refine xr_steps (pc' := 5) (L' := [(0, .ref 64), (1, .int (Int32.ofInt k)), (2, .int (Int32.ofInt z))]) (st' := [.int (Int32.ofInt k), .ref 71]) 1 rfl ?_
  refine xr_call (q := (.invokevirtual 134, 3, 94, 2)) (av := [.ref 71, .int (Int32.ofInt k)]) (rest := []) rfl rfl (by decide) rfl (xr_rcv rfl h.2.2.2.2.2.2.1.2.1) (Nat.le_of_ble_eq_true rfl) (md_94 h hk hms) ?_
  rintro _ _ (⟨hin, rfl, eA⟩ | ⟨hin, rfl, eA⟩)
  · rw [eA]
    clear eA
    obtain ⟨n, e, he, hy⟩ := md_mm (e := (0, [])) h hin
    refine xr_steps (pc' := 19) (L' := [(3, .ref (75 + 3 * k.toNat)), (0, .ref 64), (1, .int (Int32.ofInt k)), (2, .int (Int32.ofInt z))]) (st' := [.int (Int32.ofInt z), .ref (75 + 3 * k.toNat)]) 5 rfl ?_
    refine xr_call (q := (.invokevirtual 143, 3, 97, 2)) (av := [.ref (75 + 3 * k.toNat), .int (Int32.ofInt z)]) (rest := []) rfl rfl (by decide) rfl (xr_rcv rfl hy.1) (Nat.le_of_ble_eq_true rfl) (mb_97 hw hy hz) ?_
    rintro _ _ ⟨rfl, eA⟩
    rw [eA]
    clear eA
    exact xr_retI2 rfl rfl ⟨_, rfl, _, ⟨rfl, rfl⟩, Or.inr ⟨hin, e, he, rfl⟩⟩
  · rw [eA]
    clear eA
    refine xr_steps (pc' := 22) (L' := [(3, .null), (0, .ref 64), (1, .int (Int32.ofInt k)), (2, .int (Int32.ofInt z))]) (st' := [.int (Int32.ofInt (-1))]) 5 rfl ?_
    exact xr_retI2 rfl rfl ⟨_, rfl, _, ⟨rfl, rfl⟩, Or.inl ⟨hin, rfl⟩⟩
theorem md_103t {x : Int} (h : yDK A R v nv vv xa ir l T ins hd ev ms) (hn : ins.length = 4) : xr_ok (xt_G w) (d + 30) 103 0 [(0, .ref 64), (1, .int (Int32.ofInt x))] [] A (fun o A' => o = .inr 0 ∧ yDK A' R v nv vv xa ir l T ins hd ev ms ∧ yKE A A' 930 11300) := by
  refine xr_steps (pc' := 1) (L' := [(0, .ref 64), (1, .int (Int32.ofInt x))]) (st' := [.ref 64]) 1 rfl ?_
  refine xr_getf (v := .int (Int32.ofInt (ins.length : Int))) rfl h.2.1 rfl ?_
  refine xr_steps (pc' := 5) (L' := [(0, .ref 64), (1, .int (Int32.ofInt x))]) (st' := [.int (Int32.ofInt 4), .int (Int32.ofInt (ins.length : Int))]) 1 rfl ?_
  refine xr_icmp_lt rfl (by omega) (by omega) (fun h => absurd h (by omega)) (fun _ => ?_)
  exact xr_throw rfl (by omega) ⟨rfl, yDK_new h (yfr_thr A), yKE_mono (yKE_fr (yfr_thr A) (fun y hy => absurd hy List.not_mem_nil)) (by omega) (by omega)⟩
theorem md_103 {x : Int} (h : yDK A R v nv vv xa ir l T ins hd ev ms) (hn : ins.length ≤ 3) (hx : 0 ≤ x ∧ x ≤ 1) : xr_ok (xt_G w) (d + 30) 103 0 [(0, .ref 64), (1, .int (Int32.ofInt x))] [] A (fun o A' => o = .inl (some (.int (Int32.ofInt (ins.length : Int)))) ∧ ∃ (R' : Nat → Nat) (xa' : Nat → Nat × Nat × Nat), yDK A' R' v nv vv xa' ir l T (ins ++ [xI0 x]) hd ev ms ∧ yKE A A' 930 11300) := by
  obtain ⟨⟨a1, a2, a3⟩, h64, ⟨b1, b2, b3, b4, b5⟩, ⟨⟨ia, c1, c2⟩, c3⟩, hin, hse, hcs, hvv⟩ := id h
  refine xr_conseq (mc_103 h64 c1 (by omega) hx) ?_
  rintro o A' ⟨v0, e1, e2, e3, e4, e5, e6, e7, hf, n1⟩
  refine ⟨by rw [e1, e2], ?_⟩
  obtain ⟨R', hR⟩ : ∃ R' : Nat → Nat, R' = va_up (va_up (va_up R A.1 (40 + 3 * ins.length)) (A.1 + 1) (41 + 3 * ins.length)) (A.1 + 1 + 1) (42 + 3 * ins.length) := ⟨_, rfl⟩
  have hR1 : ∀ y, y < A.1 ∨ A.1 + 3 ≤ y → R' y = R y := fun y hy => by rw [hR, ya_up_ne _ _ (by omega), ya_up_ne _ _ (by omega), ya_up_ne _ _ (by omega)]
  have hR2 : R' A.1 = 40 + 3 * ins.length := by rw [hR, ya_up_ne _ _ (by omega), ya_up_ne _ _ (by omega), ya_up_same]
  have hR3 : R' (A.1 + 1) = 41 + 3 * ins.length := by rw [hR, ya_up_ne _ _ (by omega), ya_up_same]
  have hR4 : R' (A.1 + 1 + 1) = 42 + 3 * ins.length := by rw [hR, ya_up_same]
  have hM : ∀ y ∈ [64, 67], y = 64 ∨ y = 67 := fun y hy => by simpa only [List.mem_cons, List.not_mem_nil, or_false] using hy
  have hl : (ins ++ [xI0 x]).length = ins.length + 1 := by rw [List.length_append, List.length_singleton]
  have hvl := (ybl_lt b1).2.1
  refine ⟨R', va_up xa ins.length (A.1, A.1 + 1, A.1 + 1 + 1), ⟨⟨by omega, fun y hy => by rw [hR1 y (by omega)]; exact a2 y (by omega), yk1_fr a3 hf (fun y hy => by have := hM y hy; omega)⟩, ?_, ⟨ybl_fr b1 hf (by decide) (fun hm => by have := hM _ hm; omega), b2, by rw [hR1 v (by omega)]; exact b3, b4, b5⟩, ⟨⟨_, e4, fun i hi => ?_⟩, by omega⟩, fun i I hI => ?_, yse_fr hse hf (fun y hy => by have := hM y hy; omega), ycs_fr hcs hf (fun y hy => ?_), fun k hk => ?_⟩, yKE_mono (yKE_fr hf (by decide)) (by omega) (by omega)⟩
  · rw [hl]
    exact e3
  · rw [hl] at hi
    rw [Int.toNat_natCast]
    by_cases e : i = ins.length
    · rw [e, ya_up_same, ya_up_same]
    · rw [ya_up_ne _ _ e, ya_up_ne _ _ e]
      exact c2 i (by omega)
  · by_cases e : i = ins.length
    · rw [e] at hI ⊢
      rw [List.getElem?_append_right (Nat.le_refl _), Nat.sub_self] at hI
      cases hI
      rw [ya_up_same]
      exact ⟨⟨_, fun _ => 0, .null, e5, e6, e7, ⟨Nat.zero_le _, Nat.zero_le _⟩, fun j hj => absurd hj (Nat.not_lt_zero _), fun j r hr => absurd (show ([] : List (List Int × List (Int × Int × List Int) × Int))[j]? = some r from hr) (by rw [List.getElem?_nil]; exact fun h => by cases h), fun t ht => absurd (show (none : Option (xv 6)) = some t from ht) (fun h => by cases h), fun _ => rfl, (show 64 ≤ A.1 ∧ 64 ≤ A.1 + 1 ∧ 64 ≤ A.1 + 1 + 1 ∧ ¬ A.1 = A.1 + 1 ∧ ¬ A.1 = A.1 + 1 + 1 ∧ ¬ A.1 + 1 = A.1 + 1 + 1 by omega), (show x = 0 ∨ x = 1 by omega), fun c hc => absurd hc List.not_mem_nil⟩, (show 194 ≤ A.1 ∧ 194 ≤ A.1 + 1 ∧ 194 ≤ A.1 + 1 + 1 by omega), hR2, hR3, hR4⟩
    · have hi2 := (List.getElem?_eq_some_iff.mp hI).1
      rw [hl] at hi2
      rw [List.getElem?_append_left (by omega)] at hI
      rw [ya_up_ne _ _ e]
      obtain ⟨i1, i2, i3, i4, i5⟩ := hin i I hI
      obtain ⟨fr, fs, ee, x1, x2, x3, -⟩ := id i1
      have l1 := xb_get_lt x1
      have l2 := xb_get_lt x2
      have l3 := xb_get_lt x3
      refine ⟨yin_mono (yin_fr i1 hf (fun y hy => ?_)) (fun y hy => ?_), i2, by rw [hR1 _ (by omega)]; exact i3, by rw [hR1 _ (by omega)]; exact i4, by rw [hR1 _ (by omega)]; exact i5⟩
      · have := hM y hy
        exact ⟨fun hp => by unfold yPz at hp; omega, by omega, by omega, by omega⟩
      · unfold yPz at *
        rcases hy with hy | hy
        · exact Or.inl hy
        · exact Or.inr ⟨hy.1, by omega, by rw [hR1 y (by omega)]; exact hy.2.2⟩
  · have := hM y hy
    refine ⟨by omega, by omega, fun k hk e => ?_⟩
    have := (hcs.2.2.2.1.2.2.1 k hk).2
    omega
  · obtain ⟨kd, n, L, y1, -⟩ := hcs.2.2.2.1.2.1 k hk
    have := (ybl_lt y1.2.1).2.1
    rw [hR1 _ (by omega)]
    exact hvv k hk
end DX
