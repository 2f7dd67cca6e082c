/-! readObject, readValue, read -/
theorem mv_124 {w : Value} {d m : Nat} {dp : Int} {A : xb_H} {cu sa v n p : Nat} {f : Nat → Int} (hw : w = .null ∨ w = .ref 19) (hdp : 0 ≤ dp ∧ (m : Int) + dp = 5) (IH : ¬ m = 0 → yRV w (d + 1 + 1 + 1 + 1 + 1 + 1 + 1) m (dp + 1)) (hc : ycu A cu sa v n f p) (hk : yk1 A) (h123 : ye n f p = 123) : xr_ok (xt_G w) (d + 1 + 1 + 1 + 1 + 1 + 1 + 1 + 1) 124 0 [(0, .ref cu), (1, .int (Int32.ofInt dp))] [] A (fun o A' => ∃ v0, o = .inl v0 ∧ yrv A A' cu sa v n f p (m + 1) (xpv (ye n f) (m + 1) p) v0) := by
  have hp := hc.2.2
  obtain ⟨l1, l2, l3⟩ := ycu_lt hc
  have hpn : p < n := ye_in (f := f) (by omega)
  rw [xpv, if_neg (by rw [h123]; decide), if_pos h123]
  refine xr_steps (pc' := 2) (L' := [(0, .ref cu), (1, .int (Int32.ofInt dp))]) (st' := [.int (Int32.ofInt 5), .int (Int32.ofInt dp)]) 2 rfl ?_
  refine xr_icmp_ge rfl (by omega) (by omega) (fun h5 => ?_) (fun h5 => ?_)
  · refine xr_steps (pc' := 15) (L' := [(0, .ref cu), (1, .int (Int32.ofInt dp))]) (st' := [.null]) 1 rfl ?_
    exact xr_retNull rfl rfl ⟨_, rfl, yrv_null (p := p) (Nat.le_refl _) (ymv_refl hc _ _) (by rw [if_pos (by omega)])⟩
  rw [if_neg (by omega)]
  refine xr_steps (pc' := 8) (L' := [(0, .ref cu), (1, .int (Int32.ofInt dp))]) (st' := [.int (Int32.ofInt 123), .ref cu]) 2 rfl ?_
  refine xr_call (q := (.invokevirtual 79, 3, 67, 2)) (av := [.ref cu, .int (Int32.ofInt 123)]) (rest := []) rfl rfl (by decide) rfl (xr_rcv rfl hc.1) (Nat.le_of_ble_eq_true rfl) (mk_yes hw hc (by omega) h123) ?_
  rintro _ A1 ⟨rfl, m1⟩
  refine xr_if_ne rfl (by omega) (fun _ => ?_) (fun h => absurd h (by omega))
  have hA1 := m1.2.1.1
  obtain ⟨A5, eA5⟩ : ∃ A0, xb_new A1 5 (.inr (9, [.null, .null, .null, .int (Int32.ofInt 0), .int (Int32.ofInt 0)])) = A0 := ⟨_, rfl⟩
  refine xr_newO rfl (xr_heap eA5 ?_)
  have g5 := xr_mv eA5 xb_get_new_same
  refine xr_steps (pc' := 25) (L' := [(0, .ref cu), (1, .int (Int32.ofInt dp))]) (st' := [.ref 9, .ref 5, .ref A1.1, .ref A1.1]) 3 rfl ?_
  refine xr_call (q := (.invokespecial 88, 3, 113, 3)) (av := [.ref A1.1, .ref 5, .ref 9]) (rest := [.ref A1.1]) rfl rfl (by decide) rfl (xr_rcv rfl g5) (Nat.le_of_ble_eq_true rfl) (mv_113 g5 (by omega)) ?_
  rintro _ A7 ⟨rfl, q1, q2, q3, q4⟩
  obtain ⟨r1, r2, r3, r4⟩ := mv_comb eA5 q1 q2 q3 q4
  have m7 := ymv_fr m1 r3
  have k7 := yk1_mv hk m7
  have hrow : yrow A A7 cu sa v m A1.1 (A1.1 + 1) 6 0 5 [] ([] : List (Int × xv m)) := yrow_new r1 r2 r4 k7 hA1 ⟨l1, hp.1⟩ ⟨l2, l3⟩
  have hne := ycu_ne hc
  refine xr_steps (pc' := 32) (L' := [(2, .ref A1.1), (0, .ref cu), (1, .int (Int32.ofInt dp))]) (st' := [.int (Int32.ofInt 125), .ref cu]) 3 rfl ?_
  by_cases h125 : ye n f (p + 1) = 125
  · refine xr_call (q := (.invokevirtual 79, 3, 67, 2)) (av := [.ref cu, .int (Int32.ofInt 125)]) (rest := []) rfl rfl (by decide) rfl (xr_rcv rfl m7.1.1) (Nat.le_of_ble_eq_true rfl) (mk_yes hw m7.1 (by omega) h125) ?_
    rintro _ A8 ⟨rfl, m8⟩
    refine xr_if_eq rfl (by omega) (fun h => absurd h (by omega)) (fun _ => ?_)
    refine xr_steps (pc' := 39) (L' := [(2, .ref A1.1), (0, .ref cu), (1, .int (Int32.ofInt dp))]) (st' := [.ref A1.1]) 1 rfl ?_
    have hrow8 := yrow_fr hrow m8.2 hne
    rw [if_pos h125]
    exact xr_retR rfl rfl ⟨_, rfl, p + 1 + 1, by omega, Or.inl ⟨A1.1, _, rfl, yrow_yt hrow8 (yk1_mv k7 m8), ⟨hA1, hrow8.2.2.2.1.1.2⟩, by omega, ymv_mono (ymv_trans m7 m8) (by omega) (by omega), Or.inl rfl⟩⟩
  · refine xr_call (q := (.invokevirtual 79, 3, 67, 2)) (av := [.ref cu, .int (Int32.ofInt 125)]) (rest := []) rfl rfl (by decide) rfl (xr_rcv rfl m7.1.1) (Nat.le_of_ble_eq_true rfl) (mk_no hw m7.1 (by omega) h125) ?_
    rintro _ _ ⟨rfl, eA⟩
    rw [eA]
    clear eA
    refine xr_if_eq rfl (by omega) (fun _ => ?_) (fun h => absurd rfl h)
    refine xr_steps (pc' := 42) (L' := yoL A1.1 0 cu dp none) (st' := []) 2 rfl ?_
    rw [if_neg h125]
    refine mv_oloop hw (by omega) (IH (by omega)) 100 A7 (p + 1) 0 6 0 [] [] none rfl rfl hrow (fun q hq => absurd hq List.not_mem_nil) k7 (ymv_mono m7 (by omega) (by omega)) (by omega) ?_
    rw [List.map_nil]
    cases xpo (ye n f) (xpv (ye n f) m) 100 [] (p + 1) with
    | none => rfl
    | some q => rfl
/-! readValue and read -/
section SW
variable {G : xb_G} {d y pc : Nat} {L : xb_L} {st : List Value} {A : xb_H} {Q : xb_R → xb_H → Prop}
theorem xr_lsw {df : Int} {ps : Array (Int × Int)} {c : Int} {t len : Nat} (hq : xb_gP G y pc = some (.lookupswitch df ps, len, 0, 0)) (hc : -2147483648 ≤ c ∧ c ≤ 2147483647) (ht : xb_tgt pc (Op.lookupswitch.offset ps.toList df c) = some t) (k : xr_ok G d y t L st A Q) : xr_ok G d y pc L (.int (Int32.ofInt c) :: st) A Q := by
  refine xr_pure hq rfl ?_ k
  show (match xb_tgt pc (Op.lookupswitch.offset ps.toList df (Int32.ofInt c).toInt) with
    | some t => some (t, L, st, A)
    | none => none) = _
  rw [xr_toInt hc, ht]
theorem xr_off (a b df c : Int) (ps : List (Int × Int)) : Op.lookupswitch.offset ((a, b) :: ps) df c = if a = c then b else Op.lookupswitch.offset ps df c := rfl
end SW
theorem yrl_yrv {A A' : xb_H} {cu sa v n p m : Nat} {f : Nat → Int} {r : Option (Nat × List Int × Nat)} {v0 : Option Value} (h : yrl A A' cu sa v n f p r v0) : yrv A A' cu sa v n f p (m + 1) (match r with
      | none => none
      | some (kd, ls, q) => some (xv_m kd ls [], q)) v0 := by
  obtain ⟨p', hp, hm, h⟩ := h
  rcases h with ⟨a, kd, ls, rfl, ht, ha, hpp, h⟩ | ⟨rfl, rfl⟩
  · refine ⟨p', hp, Or.inl ⟨a, _, rfl, ht m, ha, hpp, ymv_mono hm (by omega) (by omega), ?_⟩⟩
    rcases h with rfl | ⟨rfl, h⟩
    · exact Or.inl rfl
    · exact Or.inr ⟨rfl, h⟩
  · exact ⟨p', hp, Or.inr ⟨rfl, rfl, ymv_mono hm (by omega) (by omega)⟩⟩
theorem yk_w1 : ∀ j : Nat, j < 4 → (1 ≤ yk_f 1 j ∧ yk_f 1 j ≤ 127) ∧ yk_f 1 j = [110, 117, 108, 108].getD j 0 := by decide +kernel
theorem yk_w2 : ∀ j : Nat, j < 4 → (1 ≤ yk_f 2 j ∧ yk_f 2 j ≤ 127) ∧ yk_f 2 j = [116, 114, 117, 101].getD j 0 := by decide +kernel
theorem yk_w3 : ∀ j : Nat, j < 5 → (1 ≤ yk_f 3 j ∧ yk_f 3 j ≤ 127) ∧ yk_f 3 j = [102, 97, 108, 115, 101].getD j 0 := by decide +kernel
theorem mv_111s {w : Value} {d m : Nat} {dp : Int} (hw : w = .null ∨ w = .ref 19) (hdp : 0 ≤ dp ∧ (m : Int) + dp = 5) (IH : ¬ m = 0 → yRV w (d + 1 + 1 + 1 + 1 + 1 + 1 + 1) m (dp + 1)) : yRV w (d + 1 + 1 + 1 + 1 + 1 + 1 + 1 + 1 + 1) (m + 1) dp := by
  intro A cu sa v n p f hc hk
  have ret : ∀ {pc : Nat} {A1 : xb_H} {v0 : Option Value} {r : Option (xv (m + 1) × Nat)}, xb_gP (xt_G w) 111 pc = some (.areturn, 1, 0, 0) → yrv A A1 cu sa v n f p (m + 1) r v0 → xr_ok (xt_G w) (d + 1 + 1 + 1 + 1 + 1 + 1 + 1 + 1 + 1) 111 pc [(0, .ref cu), (1, .int (Int32.ofInt dp))] (v0.toList ++ []) A1 (fun o A' => ∃ v0, o = .inl v0 ∧ yrv A A' cu sa v n f p (m + 1) r v0) := by
    intro pc A1 v0 r hq h
    have h' := h
    obtain ⟨p', hp, ⟨a, t, rfl, -⟩ | ⟨rfl, -⟩⟩ := h
    · exact xr_retR hq rfl ⟨_, rfl, h'⟩
    · exact xr_retNull hq rfl ⟨_, rfl, h'⟩
  have hrng := ye_rng hc p
  have L1 : xb_L := [(0, .ref cu), (1, .int (Int32.ofInt dp))]
  refine xr_steps (pc' := 1) (L' := [(0, .ref cu), (1, .int (Int32.ofInt dp))]) (st' := [.ref cu]) 1 rfl ?_
  refine xr_call (q := (.invokevirtual 44, 3, 68, 1)) (av := [.ref cu]) (rest := []) rfl rfl (by decide) rfl (xr_rcv rfl hc.1) (Nat.le_of_ble_eq_true rfl) (mk_68 hw hc) ?_
  rintro _ _ ⟨rfl, eA⟩
  rw [eA]
  clear eA
  by_cases h91 : ye n f p = 91
  · refine xr_lsw (t := 64) rfl (by omega) (by rw [h91]; rfl) ?_
    refine xr_steps (pc' := 66) (L' := [(0, .ref cu), (1, .int (Int32.ofInt dp))]) (st' := [.int (Int32.ofInt dp), .ref cu]) 2 rfl ?_
    refine xr_call (q := (.invokestatic 48, 3, 112, 2)) (av := [.ref cu, .int (Int32.ofInt dp)]) (rest := []) rfl rfl (by decide) rfl rfl (Nat.le_of_ble_eq_true rfl) (mv_112 hw hdp IH hc hk h91) ?_
    rintro v0 A1 h
    exact ret rfl h
  by_cases h123 : ye n f p = 123
  · refine xr_lsw (t := 70) rfl (by omega) (by rw [h123]; rfl) ?_
    refine xr_steps (pc' := 72) (L' := [(0, .ref cu), (1, .int (Int32.ofInt dp))]) (st' := [.int (Int32.ofInt dp), .ref cu]) 2 rfl ?_
    refine xr_call (q := (.invokestatic 51, 3, 124, 2)) (av := [.ref cu, .int (Int32.ofInt dp)]) (rest := []) rfl rfl (by decide) rfl rfl (Nat.le_of_ble_eq_true rfl) (mv_124 hw hdp IH hc hk h123) ?_
    rintro v0 A1 h
    exact ret rfl h
  rw [xpv, if_neg h91, if_neg h123, xpl]
  by_cases h34 : ye n f p = 34
  · rw [if_pos h34]
    refine xr_lsw (t := 76) rfl (by omega) (by rw [h34]; rfl) ?_
    refine xr_steps (pc' := 77) (L' := [(0, .ref cu), (1, .int (Int32.ofInt dp))]) (st' := [.ref cu]) 1 rfl ?_
    refine xr_call (q := (.invokestatic 54, 3, 131, 1)) (av := [.ref cu]) (rest := []) rfl rfl (by decide) rfl rfl (Nat.le_of_ble_eq_true rfl) (mv_131 hw hc hk h34) ?_
    rintro v0 A1 h
    exact ret rfl (yrl_yrv h)
  rw [if_neg h34]
  by_cases h110 : ye n f p = 110
  · rw [if_pos h110]
    refine xr_lsw (t := 81) rfl (by omega) (by rw [h110]; rfl) ?_
    refine xr_steps (pc' := 87) (L' := [(0, .ref cu), (1, .int (Int32.ofInt dp))]) (st' := [.ref 0, .ref 10, .ref cu]) 3 rfl ?_
    refine xr_call (q := (.invokestatic 65, 3, 140, 3)) (av := [.ref cu, .ref 10, .ref 0]) (rest := []) rfl rfl (by decide) rfl rfl (Nat.le_of_ble_eq_true rfl) (mv_140 hw hc hk hk.1.2.1 ⟨by omega, by omega⟩ (fun j hj => (yk_w1 j hj).1) ⟨by omega, by omega⟩ (ls := [110, 117, 108, 108]) rfl (fun j hj => (yk_w1 j hj).2)) ?_
    rintro v0 A1 h
    exact ret rfl (yrl_yrv h)
  rw [if_neg h110]
  by_cases h116 : ye n f p = 116
  · rw [if_pos h116]
    refine xr_lsw (t := 91) rfl (by omega) (by rw [h116]; rfl) ?_
    refine xr_steps (pc' := 97) (L' := [(0, .ref cu), (1, .int (Int32.ofInt dp))]) (st' := [.ref 1, .ref 11, .ref cu]) 3 rfl ?_
    refine xr_call (q := (.invokestatic 65, 3, 140, 3)) (av := [.ref cu, .ref 11, .ref 1]) (rest := []) rfl rfl (by decide) rfl rfl (Nat.le_of_ble_eq_true rfl) (mv_140 hw hc hk hk.1.2.2.1 ⟨by omega, by omega⟩ (fun j hj => (yk_w2 j hj).1) ⟨by omega, by omega⟩ (ls := [116, 114, 117, 101]) rfl (fun j hj => (yk_w2 j hj).2)) ?_
    rintro v0 A1 h
    exact ret rfl (yrl_yrv h)
  rw [if_neg h116]
  by_cases h102 : ye n f p = 102
  · rw [if_pos h102]
    refine xr_lsw (t := 101) rfl (by omega) (by rw [h102]; rfl) ?_
    refine xr_steps (pc' := 107) (L' := [(0, .ref cu), (1, .int (Int32.ofInt dp))]) (st' := [.ref 1, .ref 12, .ref cu]) 3 rfl ?_
    refine xr_call (q := (.invokestatic 65, 3, 140, 3)) (av := [.ref cu, .ref 12, .ref 1]) (rest := []) rfl rfl (by decide) rfl rfl (Nat.le_of_ble_eq_true rfl) (mv_140 hw hc hk hk.1.2.2.2.1 ⟨by omega, by omega⟩ (fun j hj => (yk_w3 j hj).1) ⟨by omega, by omega⟩ (ls := [102, 97, 108, 115, 101]) rfl (fun j hj => (yk_w3 j hj).2)) ?_
    rintro v0 A1 h
    exact ret rfl (yrl_yrv h)
  rw [if_neg h102]
  refine xr_lsw (t := 111) rfl (by omega) (by
    rw [xr_off, if_neg (Ne.symm h34), xr_off, if_neg (Ne.symm h91), xr_off, if_neg (Ne.symm h102), xr_off, if_neg (Ne.symm h110), xr_off, if_neg (Ne.symm h116), xr_off, if_neg (Ne.symm h123)]
    rfl) ?_
  refine xr_steps (pc' := 112) (L' := [(0, .ref cu), (1, .int (Int32.ofInt dp))]) (st' := [.ref cu]) 1 rfl ?_
  refine xr_call (q := (.invokestatic 76, 3, 142, 1)) (av := [.ref cu]) (rest := []) rfl rfl (by decide) rfl rfl (Nat.le_of_ble_eq_true rfl) (mv_142 hw hc hk) ?_
  rintro v0 A1 h
  exact ret rfl (yrl_yrv h)
theorem mv_111 {w : Value} (hw : w = .null ∨ w = .ref 19) : ∀ (m d : Nat) (dp : Int), 0 ≤ dp ∧ (m : Int) + dp = 5 → yRV w (d + 2 * m + 1 + 1 + 1 + 1 + 1 + 1 + 1 + 1 + 1) (m + 1) dp := by
  intro m
  induction m with
  | zero => intro d dp h; exact mv_111s hw h (fun z => absurd rfl z)
  | succ m ih =>
    intro d dp h
    refine mv_111s (d := d + 2 * (m + 1)) hw h (fun _ => ?_)
    exact ih d (dp + 1) (by omega)
/-- what read answers -/
def yrd (A A' : xb_H) (cu sa v n : Nat) (f : Nat → Int) (p : Nat) (v0 : Option Value) : Prop := (∃ p', ymv A A' cu sa v n f p' (9 * (p' - p) + 9) (110 * (p' - p) + 110)) ∧ ((∃ (a : Nat) (t : xv 6), v0 = some (.ref a) ∧ xpv (ye n f) 6 p = some (t, n) ∧ yt A' (yP A.1 A'.1 sa v) 6 a 0 t ∧ A.1 ≤ a ∧ a < A'.1) ∨ (v0 = some .null ∧ ¬ ∃ t, xpv (ye n f) 6 p = some (t, n)))
theorem mv_110 {w : Value} {d : Nat} {A : xb_H} {cu sa v n p : Nat} {f : Nat → Int} (hw : w = .null ∨ w = .ref 19) (hc : ycu A cu sa v n f p) (hk : yk1 A) : xr_ok (xt_G w) (d + 20) 110 0 [(0, .ref cu)] [] A (fun o A' => ∃ v0, o = .inl v0 ∧ yrd A A' cu sa v n f p v0) := by
  refine xr_steps (pc' := 2) (L' := [(0, .ref cu)]) (st' := [.int (Int32.ofInt 0), .ref cu]) 2 rfl ?_
  refine xr_call (q := (.invokestatic 34, 3, 111, 2)) (av := [.ref cu, .int (Int32.ofInt 0)]) (rest := []) rfl rfl (by decide) rfl rfl (Nat.le_of_ble_eq_true rfl) (mv_111 hw 5 d 0 (by omega) hc hk) ?_
  rintro v0 A1 ⟨p', hp, ⟨a, t, rfl, ht, ha, hpp, hm, hr⟩ | ⟨rfl, hr, hm⟩⟩
  · refine xr_steps (pc' := 7) (L' := [(1, .ref a), (0, .ref cu)]) (st' := [.ref cu]) 2 rfl ?_
    by_cases hn : p' = n
    · refine xr_call (q := (.invokevirtual 38, 3, 83, 1)) (av := [.ref cu]) (rest := []) rfl rfl (by decide) rfl (xr_rcv rfl hm.1.1) (Nat.le_of_ble_eq_true rfl) (mk_83 (b := 1) hw hm.1 (Or.inl ⟨rfl, hn⟩)) ?_
      rintro _ _ ⟨rfl, eA⟩
      rw [eA]
      refine xr_if_eq rfl (by omega) (fun h => absurd h (by omega)) (fun _ => ?_)
      refine xr_steps (pc' := 18) (L' := [(1, .ref a), (0, .ref cu)]) (st' := [.ref a]) 2 rfl ?_
      refine xr_retR rfl rfl ⟨_, rfl, ⟨p', ymv_mono hm (by omega) (by omega)⟩, Or.inl ⟨a, t, rfl, ?_, ht, ha⟩⟩
      rcases hr with h | ⟨-, h, -⟩
      · rw [h, hn]
      · have := ye_in (f := f) (n := n) (p := p') (by omega); omega
    · refine xr_call (q := (.invokevirtual 38, 3, 83, 1)) (av := [.ref cu]) (rest := []) rfl rfl (by decide) rfl (xr_rcv rfl hm.1.1) (Nat.le_of_ble_eq_true rfl) (mk_83 (b := 0) hw hm.1 (Or.inr ⟨rfl, hn⟩)) ?_
      rintro _ _ ⟨rfl, eA⟩
      rw [eA]
      refine xr_if_eq rfl (by omega) (fun _ => ?_) (fun h => absurd rfl h)
      refine xr_steps (pc' := 18) (L' := [(1, .ref a), (0, .ref cu)]) (st' := [.null]) 1 rfl ?_
      refine xr_retNull rfl rfl ⟨_, rfl, ⟨p', ymv_mono hm (by omega) (by omega)⟩, Or.inr ⟨rfl, ?_⟩⟩
      rintro ⟨t', ht'⟩
      rcases hr with h | ⟨h, -⟩
      · rw [h] at ht'; cases ht'; exact hn rfl
      · rw [h] at ht'; cases ht'
  · refine xr_steps (pc' := 7) (L' := [(1, .null), (0, .ref cu)]) (st' := [.ref cu]) 2 rfl ?_
    have hQ : yrd A A1 cu sa v n f p (some .null) := ⟨⟨p', hm⟩, Or.inr ⟨rfl, fun ⟨t, ht⟩ => by rw [hr] at ht; cases ht⟩⟩
    by_cases hn : p' = n
    · refine xr_call (q := (.invokevirtual 38, 3, 83, 1)) (av := [.ref cu]) (rest := []) rfl rfl (by decide) rfl (xr_rcv rfl hm.1.1) (Nat.le_of_ble_eq_true rfl) (mk_83 (b := 1) hw hm.1 (Or.inl ⟨rfl, hn⟩)) ?_
      rintro _ _ ⟨rfl, eA⟩
      rw [eA]
      refine xr_if_eq rfl (by omega) (fun h => absurd h (by omega)) (fun _ => ?_)
      refine xr_steps (pc' := 18) (L' := [(1, .null), (0, .ref cu)]) (st' := [.null]) 2 rfl ?_
      exact xr_retNull rfl rfl ⟨_, rfl, hQ⟩
    · refine xr_call (q := (.invokevirtual 38, 3, 83, 1)) (av := [.ref cu]) (rest := []) rfl rfl (by decide) rfl (xr_rcv rfl hm.1.1) (Nat.le_of_ble_eq_true rfl) (mk_83 (b := 0) hw hm.1 (Or.inr ⟨rfl, hn⟩)) ?_
      rintro _ _ ⟨rfl, eA⟩
      rw [eA]
      refine xr_if_eq rfl (by omega) (fun _ => ?_) (fun h => absurd rfl h)
      refine xr_steps (pc' := 18) (L' := [(1, .null), (0, .ref cu)]) (st' := [.null]) 1 rfl ?_
      exact xr_retNull rfl rfl ⟨_, rfl, hQ⟩
