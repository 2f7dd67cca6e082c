/-! Arrays are read -/
def yaL (a i cu : Nat) (dp : Int) (o : Option Nat) : xb_L := (3, .int (Int32.ofInt (i : Int))) :: (match o with
  | none => [(2, .ref a), (0, .ref cu), (1, .int (Int32.ofInt dp))]
  | some x => [(4, .ref x), (2, .ref a), (0, .ref cu), (1, .int (Int32.ofInt dp))])
def yRV (w : Value) (D m : Nat) (dp : Int) : Prop := ∀ {A : xb_H} {cu sa v n p : Nat} {f : Nat → Int}, ycu A cu sa v n f p → yk1 A → xr_ok (xt_G w) D 111 0 [(0, .ref cu), (1, .int (Int32.ofInt dp))] [] A (fun o A' => ∃ v0, o = .inl v0 ∧ yrv A A' cu sa v n f p m (xpv (ye n f) m p) v0)
theorem ymv_rng {A A' : xb_H} {cu sa v n p a b : Nat} {f : Nat → Int} (h : ymv A A' cu sa v n f p a b) : p ≤ n ∧ n ≤ 100 := h.1.2.2.2
section RA
variable {w : Value} {d m : Nat} {dp : Int} {A0 : xb_H} {cu sa v n p0 a la : Nat} {f : Nat → Int} {r : Option (xv (m + 1) × Nat)}
/-- null is answered -/
theorem yrv_null {A : xb_H} {p : Nat} (hp : p0 ≤ p) (hm : ymv A0 A cu sa v n f p (9 * (p - p0) + 9) (110 * (p - p0) + 110)) (hr : r = none) : yrv A0 A cu sa v n f p0 (m + 1) r (some .null) := ⟨p, hp, Or.inr ⟨rfl, hr, hm⟩⟩
theorem mv_aloop (hw : w = .null ∨ w = .ref 19) (hdp : 0 ≤ dp ∧ dp ≤ 10) (IH : yRV w (d + 1 + 1 + 1 + 1 + 1 + 1 + 1) m (dp + 1)) : ∀ (k : Nat) (A : xb_H) (p i ed cap : Nat) (as : List Nat) (ts : List (Int × xv m)) (o : Option Nat), i + k = 100 → i = as.length → yrow A0 A cu sa v m a la ed cap 4 as ts → yk1 A → ymv A0 A cu sa v n f p (9 * (p - p0)) (110 * (p - p0)) → p0 + 1 + 2 * i ≤ p → r = (match xpa (ye n f) (xpv (ye n f) m) k p with
    | none => none
    | some (l, q) => some (xv_m 4 [] (ts ++ l), q)) → xr_ok (xt_G w) (d + 1 + 1 + 1 + 1 + 1 + 1 + 1 + 1) 112 42 (yaL a i cu dp o) [] A (fun o A' => ∃ v0, o = .inl v0 ∧ yrv A0 A' cu sa v n f p0 (m + 1) r v0) := by
  intro k
  induction k with
  | zero =>
    intro A p i ed cap as ts o hik hi hrow hk hm hp hr
    refine xr_steps (pc' := 45) (L' := yaL a i cu dp o) (st' := [.int (Int32.ofInt 100), .int (Int32.ofInt (i : Int))]) 2 (by cases o <;> rfl) ?_
    refine xr_icmp_ge rfl (by omega) (by omega) (fun _ => ?_) (fun h => absurd (show (100 : Int) ≤ (i : Int) by omega) h)
    refine xr_steps (pc' := 101) (L' := yaL a i cu dp o) (st' := [.null]) 1 (by cases o <;> rfl) ?_
    exact xr_retNull rfl rfl ⟨_, rfl, yrv_null (by omega) (ymv_mono hm (by omega) (by omega)) hr⟩
  | succ k ih =>
    intro A p i ed cap as ts o hik hi hrow hk hm hp hr
    have hrng := ymv_rng hm
    have hne := ycu_ne hm.1
    refine xr_steps (pc' := 45) (L' := yaL a i cu dp o) (st' := [.int (Int32.ofInt 100), .int (Int32.ofInt (i : Int))]) 2 (by cases o <;> rfl) ?_
    refine xr_icmp_ge rfl (by omega) (by omega) (fun h => absurd h (by omega)) (fun _ => ?_)
    refine xr_steps (pc' := 51) (L' := yaL a i cu dp o) (st' := [.int (Int32.ofInt 1), .int (Int32.ofInt dp), .ref cu]) 3 (by cases o <;> rfl) ?_
    refine xr_iadd rfl ?_
    refine xr_call (q := (.invokestatic 34, 3, 111, 2)) (av := [.ref cu, .int (Int32.ofInt (dp + 1))]) (rest := []) rfl rfl (by decide) rfl rfl (Nat.le_of_ble_eq_true rfl) (IH hm.1 hk) ?_
    rintro v1 A1 ⟨p1, hp1, hcase⟩
    rw [xpa] at hr
    rcases hcase with ⟨x, t, rfl, ht, hx, hpp, m1, hr1⟩ | ⟨rfl, hr1, m1⟩
    · have hrow1 := yrow_fr hrow m1.2 hne
      have hrng1 := ymv_rng m1
      have hk1 := yk1_mv hk m1
      obtain ⟨fs, hxc, -, hx4⟩ := yt_cell ht
      have hA1 := m1.2.1.1
      obtain ⟨b1, b2, b3, ⟨b4, b5, b6⟩, b7, b8, b9⟩ := id hrow
      obtain ⟨c1, c2, c3, c4, -⟩ := id hrow1
      refine xr_steps (pc' := 59) (L' := [(4, .ref x), (3, .int (Int32.ofInt (i : Int))), (2, .ref a), (0, .ref cu), (1, .int (Int32.ofInt dp))]) (st' := [.ref x]) 2 (by cases o <;> rfl) ?_
      refine xr_steps (pc' := 67) (L' := [(4, .ref x), (3, .int (Int32.ofInt (i : Int))), (2, .ref a), (0, .ref cu), (1, .int (Int32.ofInt dp))]) (st' := [.ref x, .ref a]) 3 rfl ?_
      refine xr_call (q := (.invokevirtual 91, 3, 117, 2)) (av := [.ref a, .ref x]) (rest := []) rfl rfl (by decide) rfl (xr_rcv rfl c1) (Nat.le_of_ble_eq_true rfl) (mv_117 c1 (by omega) c2 (by omega) (yrow_elo hrow1) hxc hx4 (by omega)) ?_
      rintro _ A2 ⟨rfl, ed2, cap2, d1, d2, d3, d4⟩
      have hrow2 := yrow_add hrow1 ht ⟨by omega, Nat.le_refl _, hx.1, hx.2⟩ ⟨by omega, by omega, by omega⟩ d1 d2 d3 d4
      obtain ⟨em, hem⟩ : ∃ em, em = if ed = 6 then la else ed := ⟨_, rfl⟩
      have hem2 : (em = la ∨ em = ed) ∧ A0.1 ≤ em := by rw [hem]; split <;> omega
      rw [← hem] at d3
      have hk2 : yk1 A2 := yk1_fr hk1 d3 (fun z hz => by simp only [List.mem_cons, List.not_mem_nil, or_false] at hz; omega)
      have cu2 : ycu A2 cu sa v n f p1 := ycu_fr m1.1 d3 (by simp only [List.mem_cons, List.not_mem_nil, or_false]; omega) (by simp only [List.mem_cons, List.not_mem_nil, or_false]; omega) (by simp only [List.mem_cons, List.not_mem_nil, or_false]; omega)
      have m2 : ymv A0 A2 cu sa v n f p1 (9 * (p1 - p0) + 1) (110 * (p1 - p0) + 110) := ⟨cu2, yfr_mono (yfr_trans (yfr_trans hm.2 m1.2 (fun z hz => Or.inl hz)) d3 (fun z hz => Or.inr (by simp only [List.mem_cons, List.not_mem_nil, or_false] at hz; omega))) (fun z hz => Or.inl hz) (by omega) (by omega)⟩
      refine xr_steps (pc' := 73) (L' := [(4, .ref x), (3, .int (Int32.ofInt (i : Int))), (2, .ref a), (0, .ref cu), (1, .int (Int32.ofInt dp))]) (st' := [.int (Int32.ofInt 44), .ref cu]) 2 rfl ?_
      by_cases h44 : ye n f p1 = 44
      · refine xr_call (q := (.invokevirtual 79, 3, 67, 2)) (av := [.ref cu, .int (Int32.ofInt 44)]) (rest := []) rfl rfl (by decide) rfl (xr_rcv rfl cu2.1) (Nat.le_of_ble_eq_true rfl) (mk_yes hw cu2 (by omega) h44) ?_
        rintro _ A3 ⟨rfl, m3⟩
        refine xr_if_ne rfl (by omega) (fun _ => ?_) (fun h => absurd h (by omega))
        refine xr_iinc (L' := [(3, .int (Int32.ofInt ((i : Int) + 1))), (4, .ref x), (2, .ref a), (0, .ref cu), (1, .int (Int32.ofInt dp))]) rfl rfl rfl ?_
        refine xr_steps (pc' := 42) (L' := [(3, .int (Int32.ofInt ((i : Int) + 1))), (4, .ref x), (2, .ref a), (0, .ref cu), (1, .int (Int32.ofInt dp))]) (st' := []) 1 rfl ?_
        have ei : (i : Int) + 1 = ((i + 1 : Nat) : Int) := by omega
        rw [ei]
        have hr1' : xpv (ye n f) m p = some (t, p1) := by
          rcases hr1 with h | ⟨-, h⟩
          · exact h
          · omega
        rw [hr1'] at hr
        dsimp only at hr
        rw [if_pos h44] at hr
        refine ih A3 (p1 + 1) (i + 1) ed2 cap2 (as ++ [x]) (ts ++ [(0, t)]) (some x) (by omega) (by rw [List.length_append, hi]; rfl) (yrow_fr hrow2 m3.2 hne) (yk1_mv hk2 m3) (ymv_mono (ymv_trans m2 m3) (by omega) (by omega)) (by omega) ?_
        rw [hr]
        cases xpa (ye n f) (xpv (ye n f) m) k (p1 + 1) with
        | none => rfl
        | some q =>
          obtain ⟨l, q⟩ := q
          show some (xv_m 4 [] (ts ++ ((0, t) :: l)), q) = some (xv_m 4 [] (ts ++ [(0, t)] ++ l), q)
          rw [List.append_assoc]
          rfl
      · refine xr_call (q := (.invokevirtual 79, 3, 67, 2)) (av := [.ref cu, .int (Int32.ofInt 44)]) (rest := []) rfl rfl (by decide) rfl (xr_rcv rfl cu2.1) (Nat.le_of_ble_eq_true rfl) (mk_no hw cu2 (by omega) h44) ?_
        rintro _ _ ⟨rfl, eA⟩
        rw [eA]
        clear eA
        refine xr_if_ne rfl (by omega) (fun h => absurd rfl h) (fun _ => ?_)
        refine xr_steps (pc' := 82) (L' := [(4, .ref x), (3, .int (Int32.ofInt (i : Int))), (2, .ref a), (0, .ref cu), (1, .int (Int32.ofInt dp))]) (st' := [.int (Int32.ofInt 93), .ref cu]) 2 rfl ?_
        by_cases h93 : ye n f p1 = 93
        · refine xr_call (q := (.invokevirtual 79, 3, 67, 2)) (av := [.ref cu, .int (Int32.ofInt 93)]) (rest := []) rfl rfl (by decide) rfl (xr_rcv rfl cu2.1) (Nat.le_of_ble_eq_true rfl) (mk_yes hw cu2 (by omega) h93) ?_
          rintro _ A3 ⟨rfl, m3⟩
          refine xr_if_eq rfl (by omega) (fun h => absurd h (by omega)) (fun _ => ?_)
          refine xr_steps (pc' := 93) (L' := [(4, .ref x), (3, .int (Int32.ofInt (i : Int))), (2, .ref a), (0, .ref cu), (1, .int (Int32.ofInt dp))]) (st' := [.ref a]) 2 rfl ?_
          have hr1' : xpv (ye n f) m p = some (t, p1) := by
            rcases hr1 with h | ⟨-, h⟩
            · exact h
            · omega
          rw [hr1'] at hr
          dsimp only at hr
          rw [if_neg h44, if_pos h93] at hr
          have hrow3 := yrow_fr hrow2 m3.2 hne
          have hA3 : a < A3.1 := hrow3.2.2.2.1.1.2
          refine xr_retR rfl rfl ⟨_, rfl, p1 + 1, by omega, Or.inl ⟨a, _, rfl, yrow_yt hrow3 (yk1_mv hk2 m3), ⟨b4.1, hA3⟩, by omega, ymv_mono (ymv_trans m2 m3) (by omega) (by omega), Or.inl hr⟩⟩
        · refine xr_call (q := (.invokevirtual 79, 3, 67, 2)) (av := [.ref cu, .int (Int32.ofInt 93)]) (rest := []) rfl rfl (by decide) rfl (xr_rcv rfl cu2.1) (Nat.le_of_ble_eq_true rfl) (mk_no hw cu2 (by omega) h93) ?_
          rintro _ _ ⟨rfl, eA⟩
          rw [eA]
          clear eA
          refine xr_if_eq rfl (by omega) (fun _ => ?_) (fun h => absurd rfl h)
          refine xr_steps (pc' := 93) (L' := [(4, .ref x), (3, .int (Int32.ofInt (i : Int))), (2, .ref a), (0, .ref cu), (1, .int (Int32.ofInt dp))]) (st' := [.null]) 1 rfl ?_
          refine xr_retNull rfl rfl ⟨_, rfl, yrv_null (p := p1) (by omega) (ymv_mono m2 (by omega) (by omega)) ?_⟩
          rw [hr]
          rcases hr1 with h | ⟨h, -⟩
          · rw [h]
            dsimp only
            rw [if_neg h44, if_neg h93]
          · rw [h]
    · refine xr_steps (pc' := 63) (L' := [(4, .null), (3, .int (Int32.ofInt (i : Int))), (2, .ref a), (0, .ref cu), (1, .int (Int32.ofInt dp))]) (st' := [.null]) 4 (by cases o <;> rfl) ?_
      refine xr_retNull rfl rfl ⟨_, rfl, yrv_null (p := p1) (by omega) (ymv_mono (ymv_trans hm m1) (by omega) (by omega)) ?_⟩
      rw [hr, hr1]
end RA
/-! readArray; objects are read -/
/-- a new array or object, behind its bracket -/
theorem yrow_new {A0 A1 A7 : xb_H} {cu sa v n kd : Nat} (r1 : xb_get A7 A1.1 = some (.inr (9, [.ref kd, .ref 9, .ref (A1.1 + 1), .int (Int32.ofInt 0), .int (Int32.ofInt 1)]))) (r2 : xb_get A7 (A1.1 + 1) = some (.inr (13, [.ref 6, .int (Int32.ofInt 0), .int (Int32.ofInt 0)]))) (r4 : A7.1 = A1.1 + 2) (hk : yk1 A7) (h0 : A0.1 ≤ A1.1) (hcu : cu < A0.1 ∧ 64 ≤ cu) (hsv : sa < A0.1 ∧ v < A0.1) : yrow A0 A7 cu sa v n A1.1 (A1.1 + 1) 6 0 kd [] ([] : List (Int × xv n)) :=
  ⟨r1, ⟨_, _, r2, hk.2, by omega, Nat.le_refl _, by omega, Or.inl ⟨rfl, rfl⟩, fun j hj => absurd hj (Nat.not_lt_zero _)⟩, rfl, ⟨by omega, by omega, Or.inl rfl⟩, hcu, hsv, fun i x p hx => by cases i <;> cases hx⟩
theorem ycu_lt {A : xb_H} {cu sa v n p : Nat} {f : Nat → Int} (h : ycu A cu sa v n f p) : cu < A.1 ∧ sa < A.1 ∧ v < A.1 := by
  obtain ⟨h1, ⟨⟨fs, h2, -⟩, h3, -⟩, -⟩ := h
  exact ⟨xb_get_lt h1, xb_get_lt h2, xb_get_lt h3⟩
theorem mv_112 {w : Value} {d m : Nat} {dp : Int} {A : xb_H} {cu sa v n p : Nat} {f : Nat → Int} (hw : w = .null ∨ w = .ref 19) (hdp : 0 ≤ dp ∧ (m : Int) + dp = 5) (IH : ¬ m = 0 → yRV w (d + 1 + 1 + 1 + 1 + 1 + 1 + 1) m (dp + 1)) (hc : ycu A cu sa v n f p) (hk : yk1 A) (h91 : ye n f p = 91) : xr_ok (xt_G w) (d + 1 + 1 + 1 + 1 + 1 + 1 + 1 + 1) 112 0 [(0, .ref cu), (1, .int (Int32.ofInt dp))] [] A (fun o A' => ∃ v0, o = .inl v0 ∧ yrv A A' cu sa v n f p (m + 1) (xpv (ye n f) (m + 1) p) v0) := by
  have hp := hc.2.2
  obtain ⟨l1, l2, l3⟩ := ycu_lt hc
  have hpn : p < n := ye_in (f := f) (by omega)
  rw [xpv, if_pos h91]
  refine xr_steps (pc' := 2) (L' := [(0, .ref cu), (1, .int (Int32.ofInt dp))]) (st' := [.int (Int32.ofInt 5), .int (Int32.ofInt dp)]) 2 rfl ?_
  refine xr_icmp_ge rfl (by omega) (by omega) (fun h5 => ?_) (fun h5 => ?_)
  · refine xr_steps (pc' := 15) (L' := [(0, .ref cu), (1, .int (Int32.ofInt dp))]) (st' := [.null]) 1 rfl ?_
    exact xr_retNull rfl rfl ⟨_, rfl, yrv_null (p := p) (Nat.le_refl _) (ymv_refl hc _ _) (by rw [if_pos (by omega)])⟩
  rw [if_neg (by omega)]
  refine xr_steps (pc' := 8) (L' := [(0, .ref cu), (1, .int (Int32.ofInt dp))]) (st' := [.int (Int32.ofInt 91), .ref cu]) 2 rfl ?_
  refine xr_call (q := (.invokevirtual 79, 3, 67, 2)) (av := [.ref cu, .int (Int32.ofInt 91)]) (rest := []) rfl rfl (by decide) rfl (xr_rcv rfl hc.1) (Nat.le_of_ble_eq_true rfl) (mk_yes hw hc (by omega) h91) ?_
  rintro _ A1 ⟨rfl, m1⟩
  refine xr_if_ne rfl (by omega) (fun _ => ?_) (fun h => absurd h (by omega))
  have hA1 := m1.2.1.1
  obtain ⟨A5, eA5⟩ : ∃ A0, xb_new A1 5 (.inr (9, [.null, .null, .null, .int (Int32.ofInt 0), .int (Int32.ofInt 0)])) = A0 := ⟨_, rfl⟩
  refine xr_newO rfl (xr_heap eA5 ?_)
  have g5 := xr_mv eA5 xb_get_new_same
  refine xr_steps (pc' := 25) (L' := [(0, .ref cu), (1, .int (Int32.ofInt dp))]) (st' := [.ref 9, .ref 4, .ref A1.1, .ref A1.1]) 3 rfl ?_
  refine xr_call (q := (.invokespecial 88, 3, 113, 3)) (av := [.ref A1.1, .ref 4, .ref 9]) (rest := [.ref A1.1]) rfl rfl (by decide) rfl (xr_rcv rfl g5) (Nat.le_of_ble_eq_true rfl) (mv_113 g5 (by omega)) ?_
  rintro _ A7 ⟨rfl, q1, q2, q3, q4⟩
  obtain ⟨r1, r2, r3, r4⟩ := mv_comb eA5 q1 q2 q3 q4
  have m7 := ymv_fr m1 r3
  have k7 := yk1_mv hk m7
  have hrow : yrow A A7 cu sa v m A1.1 (A1.1 + 1) 6 0 4 [] ([] : List (Int × xv m)) := yrow_new r1 r2 r4 k7 hA1 ⟨l1, hp.1⟩ ⟨l2, l3⟩
  have hne := ycu_ne hc
  refine xr_steps (pc' := 32) (L' := [(2, .ref A1.1), (0, .ref cu), (1, .int (Int32.ofInt dp))]) (st' := [.int (Int32.ofInt 93), .ref cu]) 3 rfl ?_
  by_cases h93 : ye n f (p + 1) = 93
  · refine xr_call (q := (.invokevirtual 79, 3, 67, 2)) (av := [.ref cu, .int (Int32.ofInt 93)]) (rest := []) rfl rfl (by decide) rfl (xr_rcv rfl m7.1.1) (Nat.le_of_ble_eq_true rfl) (mk_yes hw m7.1 (by omega) h93) ?_
    rintro _ A8 ⟨rfl, m8⟩
    refine xr_if_eq rfl (by omega) (fun h => absurd h (by omega)) (fun _ => ?_)
    refine xr_steps (pc' := 39) (L' := [(2, .ref A1.1), (0, .ref cu), (1, .int (Int32.ofInt dp))]) (st' := [.ref A1.1]) 1 rfl ?_
    have hrow8 := yrow_fr hrow m8.2 hne
    rw [if_pos h93]
    exact xr_retR rfl rfl ⟨_, rfl, p + 1 + 1, by omega, Or.inl ⟨A1.1, _, rfl, yrow_yt hrow8 (yk1_mv k7 m8), ⟨hA1, hrow8.2.2.2.1.1.2⟩, by omega, ymv_mono (ymv_trans m7 m8) (by omega) (by omega), Or.inl rfl⟩⟩
  · refine xr_call (q := (.invokevirtual 79, 3, 67, 2)) (av := [.ref cu, .int (Int32.ofInt 93)]) (rest := []) rfl rfl (by decide) rfl (xr_rcv rfl m7.1.1) (Nat.le_of_ble_eq_true rfl) (mk_no hw m7.1 (by omega) h93) ?_
    rintro _ _ ⟨rfl, eA⟩
    rw [eA]
    clear eA
    refine xr_if_eq rfl (by omega) (fun _ => ?_) (fun h => absurd rfl h)
    refine xr_steps (pc' := 42) (L' := yaL A1.1 0 cu dp none) (st' := []) 2 rfl ?_
    rw [if_neg h93]
    refine mv_aloop hw (by omega) (IH (by omega)) 100 A7 (p + 1) 0 6 0 [] [] none rfl rfl hrow k7 (ymv_mono m7 (by omega) (by omega)) (by omega) ?_
    cases xpa (ye n f) (xpv (ye n f) m) 100 (p + 1) with
    | none => rfl
    | some q => rfl
/-! objects -/
def yoL (a i cu : Nat) (dp : Int) (o : Option (Int × Nat)) : xb_L := (3, .int (Int32.ofInt (i : Int))) :: (match o with
  | none => [(2, .ref a), (0, .ref cu), (1, .int (Int32.ofInt dp))]
  | some (c, x) => [(5, .ref x), (4, .int (Int32.ofInt c)), (2, .ref a), (0, .ref cu), (1, .int (Int32.ofInt dp))])
theorem xfnd_none : ∀ (ks : List Int) (as : List Nat) (c : Int), ks.length = as.length → (xfnd ks as c = none ↔ ¬ c ∈ ks) := by
  intro ks
  induction ks with
  | nil => intro as c h; cases as with
    | nil => exact ⟨fun _ => List.not_mem_nil, fun _ => rfl⟩
    | cons x as => cases h
  | cons k ks ih =>
    intro as c h
    cases as with
    | nil => cases h
    | cons x as =>
      have e : xfnd (k :: ks) (x :: as) c = if k = c then some x else xfnd ks as c := rfl
      rw [e, List.mem_cons]
      by_cases hk : k = c
      · rw [if_pos hk]
        exact ⟨fun z => (by cases z), fun z => absurd (Or.inl hk.symm) z⟩
      · rw [if_neg hk, ih as c (by simpa using h)]
        exact ⟨fun z y => y.elim (fun e => hk e.symm) z, fun z y => z (Or.inr y)⟩
