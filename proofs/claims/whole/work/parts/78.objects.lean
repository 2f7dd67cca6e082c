/-! Objects are read -/
section RO
variable {w : Value} {d m : Nat} {dp : Int} {A0 : xb_H} {cu sa v n p0 a la : Nat} {f : Nat → Int} {r : Option (xv (m + 1) × Nat)}
theorem yrow_keys {A : xb_H} {ed cap kd : Nat} {as : List Nat} {ts : List (Int × xv m)} (h : yrow A0 A cu sa v m a la ed cap kd as ts) (hks : ∀ q ∈ ts, 97 ≤ q.1 ∧ q.1 ≤ 122) : ∀ (j x : Nat) (k : Int), as[j]? = some x → (ts.map fun q => q.1)[j]? = some k → ykey A x k := by
  intro j x k hx hk
  rw [List.getElem?_map] at hk
  cases hp : ts[j]? with
  | none => rw [hp] at hk; cases hk
  | some q =>
    rw [hp] at hk
    cases hk
    obtain ⟨lo, hi, ht, -⟩ := h.2.2.2.2.2.2 j x q hx hp
    obtain ⟨fs, h1, h2, -⟩ := yt_cell ht
    have := hks q (List.mem_of_getElem? hp)
    exact ⟨fs, h1, h2, by show 0 ≤ q.1; omega, by show q.1 ≤ 127; omega⟩
theorem mv_oloop (hw : w = .null ∨ w = .ref 19) (hdp : 0 ≤ dp ∧ dp ≤ 10) (IH : yRV w (d + 1 + 1 + 1 + 1 + 1 + 1 + 1) m (dp + 1)) : ∀ (k : Nat) (A : xb_H) (p i ed cap : Nat) (as : List Nat) (ts : List (Int × xv m)) (o : Option (Int × Nat)), i + k = 100 → i = as.length → yrow A0 A cu sa v m a la ed cap 5 as ts → (∀ q ∈ ts, 97 ≤ q.1 ∧ q.1 ≤ 122) → yk1 A → ymv A0 A cu sa v n f p (9 * (p - p0)) (110 * (p - p0)) → p0 + 1 + 2 * i ≤ p → r = (match xpo (ye n f) (xpv (ye n f) m) k (ts.map fun q => q.1) p with
    | none => none
    | some (l, q) => some (xv_m 5 [] (ts ++ l), q)) → xr_ok (xt_G w) (d + 1 + 1 + 1 + 1 + 1 + 1 + 1 + 1) 124 42 (yoL a i cu dp o) [] A (fun o A' => ∃ v0, o = .inl v0 ∧ yrv A0 A' cu sa v n f p0 (m + 1) r v0) := by
  intro k
  induction k with
  | zero =>
    intro A p i ed cap as ts o hik hi hrow hks hk hm hp hr
    refine xr_steps (pc' := 45) (L' := yoL a i cu dp o) (st' := [.int (Int32.ofInt 100), .int (Int32.ofInt (i : Int))]) 2 (by rcases o with _ | ⟨_, _⟩ <;> rfl) ?_
    refine xr_icmp_ge rfl (by omega) (by omega) (fun _ => ?_) (fun h => absurd (show (100 : Int) ≤ (i : Int) by omega) h)
    refine xr_steps (pc' := 130) (L' := yoL a i cu dp o) (st' := [.null]) 1 (by rcases o with _ | ⟨_, _⟩ <;> rfl) ?_
    exact xr_retNull rfl rfl ⟨_, rfl, yrv_null (by omega) (ymv_mono hm (by omega) (by omega)) hr⟩
  | succ k ih =>
    intro A p i ed cap as ts o hik hi hrow hks hk hm hp hr
    have hrng := ymv_rng hm
    have hne := ycu_ne hm.1
    rw [xpo] at hr
    refine xr_steps (pc' := 45) (L' := yoL a i cu dp o) (st' := [.int (Int32.ofInt 100), .int (Int32.ofInt (i : Int))]) 2 (by rcases o with _ | ⟨_, _⟩ <;> rfl) ?_
    refine xr_icmp_ge rfl (by omega) (by omega) (fun h => absurd h (by omega)) (fun _ => ?_)
    refine xr_steps (pc' := 49) (L' := yoL a i cu dp o) (st' := [.ref cu]) 1 (by rcases o with _ | ⟨_, _⟩ <;> rfl) ?_
    refine xr_call (q := (.invokestatic 98, 3, 125, 1)) (av := [.ref cu]) (rest := []) rfl rfl (by decide) rfl rfl (Nat.le_of_ble_eq_true rfl) (mv_125 (d := d + 1) hw hm.1) ?_
    rintro _ A1 ⟨c, pk, rfl, hpk1, hpk2, m1, hck⟩
    have hrow1 := yrow_fr hrow m1.2 hne
    have hk1 := yk1_mv hk m1
    have hrng1 := ymv_rng m1
    have hrc : 0 ≤ c ∧ c ≤ 127 := by
      rcases hck with ⟨-, h, -⟩ | ⟨-, h⟩
      · rw [h]; exact ye_rng hm.1 (p + 1)
      · omega
    obtain ⟨L1, hL1, e54, enull⟩ : ∃ L1 : xb_L, L1 = xb_st (yoL a i cu dp o) 4 (.int (Int32.ofInt c)) ∧ (∀ (A : xb_H) (Q : xb_R → xb_H → Prop), xr_ok (xt_G w) (d + 1 + 1 + 1 + 1 + 1 + 1 + 1 + 1) 124 56 L1 [.int (Int32.ofInt c)] A Q → xr_ok (xt_G w) (d + 1 + 1 + 1 + 1 + 1 + 1 + 1 + 1) 124 52 (yoL a i cu dp o) [.int (Int32.ofInt c)] A Q) ∧ (∀ (A : xb_H) (Q : xb_R → xb_H → Prop), Q (.inl (some .null)) A → xr_ok (xt_G w) (d + 1 + 1 + 1 + 1 + 1 + 1 + 1 + 1) 124 68 L1 [] A Q) := by
      refine ⟨_, rfl, fun A Q h => ?_, fun A Q h => ?_⟩
      · exact xr_steps (pc' := 56) (L' := xb_st (yoL a i cu dp o) 4 (.int (Int32.ofInt c))) (st' := [.int (Int32.ofInt c)]) 2 (by rcases o with _ | ⟨_, _⟩ <;> rfl) h
      · exact xr_steps (pc' := 69) (L' := xb_st (yoL a i cu dp o) 4 (.int (Int32.ofInt c))) (st' := [.null]) 1 rfl (xr_retNull rfl rfl h)
    refine e54 A1 _ ?_
    refine xr_if_eq rfl (by omega) (fun hc0 => ?_) (fun hc0 => ?_)
    · refine enull A1 _ ⟨_, rfl, yrv_null (p := pk) (by omega) (ymv_mono (ymv_trans hm m1) (by omega) (by omega)) ?_⟩
      rcases hck with ⟨h, h2, -⟩ | ⟨h, -⟩
      · have := h.2.1; omega
      · rw [hr, if_neg (fun z => h z.1)]
    obtain ⟨hkey, hcv, hpk⟩ : xpk (ye n f) p ∧ c = ye n f (p + 1) ∧ pk = p + 4 := by
      rcases hck with h | ⟨-, h⟩
      · exact h
      · exact absurd h hc0
    obtain ⟨c1, c2, c3, c4, -⟩ := id hrow1
    refine xr_steps (pc' := 62) (L' := L1) (st' := [.int (Int32.ofInt c), .ref a]) 2 (by rw [hL1]; rcases o with _ | ⟨_, _⟩ <;> rfl) ?_
    have hmem := xfnd_none (ts.map fun q => q.1) as c (by rw [List.length_map, c3])
    refine xr_call (q := (.invokevirtual 102, 3, 126, 2)) (av := [.ref a, .int (Int32.ofInt c)]) (rest := []) rfl rfl (by decide) rfl (xr_rcv rfl c1) (Nat.le_of_ble_eq_true rfl) (mv_126 (d := d + 1 + 1 + 1 + 1) (ks := ts.map fun q => q.1) hrc c1 rfl c2 (by rw [List.length_map, c3]) (yrow_keys hrow1 hks)) ?_
    rintro _ _ ⟨rfl, eA⟩
    rw [eA]
    clear eA
    cases hfd : xfnd (ts.map fun q => q.1) as c with
    | some y =>
      refine xr_steps (pc' := 68) (L' := L1) (st' := []) 1 rfl ?_
      refine enull A1 _ ⟨_, rfl, yrv_null (p := pk) (by omega) (ymv_mono (ymv_trans hm m1) (by omega) (by omega)) ?_⟩
      rw [hr, if_neg]
      intro z
      rw [← hcv] at z
      rw [hmem.mpr z.2] at hfd
      cases hfd
    | none =>
      have hnm := hmem.mp hfd
      rw [if_pos ⟨hkey, by rw [← hcv]; exact hnm⟩] at hr
      refine xr_steps (pc' := 70) (L' := L1) (st' := []) 1 rfl ?_
      refine xr_steps (pc' := 73) (L' := L1) (st' := [.int (Int32.ofInt 1), .int (Int32.ofInt dp), .ref cu]) 3 (by rw [hL1]; rcases o with _ | ⟨_, _⟩ <;> rfl) ?_
      refine xr_iadd rfl ?_
      subst hpk
      refine xr_call (q := (.invokestatic 34, 3, 111, 2)) (av := [.ref cu, .int (Int32.ofInt (dp + 1))]) (rest := []) rfl rfl (by decide) rfl rfl (Nat.le_of_ble_eq_true rfl) (IH m1.1 hk1) ?_
      rintro v1 A2 ⟨p1, hp1, hcase⟩
      have hm1 := ymv_trans hm m1
      rcases hcase with ⟨x, t, rfl, ht, hx, hpp, m2, hr1⟩ | ⟨rfl, hr1, m2⟩
      · have hrow2 := yrow_fr hrow1 m2.2 hne
        have hrng2 := ymv_rng m2
        have hk2 := yk1_mv hk1 m2
        have hA1 := m1.2.1.1
        have hA2 := m2.2.1.1
        obtain ⟨b1, b2, b3, ⟨b4, b5, b6⟩, b7, b8, b9⟩ := id hrow1
        cases m with
        | zero => exact absurd ht id
        | succ m =>
        obtain ⟨sx, lx, hxc, hyt⟩ := yt_key (k' := c) ht
        refine xr_steps (pc' := 81) (L' := [(5, .ref x), (4, .int (Int32.ofInt c)), (3, .int (Int32.ofInt (i : Int))), (2, .ref a), (0, .ref cu), (1, .int (Int32.ofInt dp))]) (st' := [.ref x]) 2 (by rw [hL1]; rcases o with _ | ⟨_, _⟩ <;> rfl) ?_
        refine xr_steps (pc' := 90) (L' := [(5, .ref x), (4, .int (Int32.ofInt c)), (3, .int (Int32.ofInt (i : Int))), (2, .ref a), (0, .ref cu), (1, .int (Int32.ofInt dp))]) (st' := [.int (Int32.ofInt c), .ref x]) 3 rfl ?_
        obtain ⟨A3, e3⟩ : ∃ A3, xb_set A2 x (.inr (9, [.ref (xv_k t), .ref sx, .ref lx, .int (Int32.ofInt c), .int (Int32.ofInt (xsz (m + 1) t : Nat))])) = A3 := ⟨_, rfl⟩
        rw [e3] at hyt
        refine xr_putf (t := .char) rfl hxc (show 64 ≤ x by omega) (Nat.le_of_ble_eq_true rfl) rfl (xr_fitC (by omega)) (xr_heap e3 ?_)
        have f3 : yfr A2 A3 [x] 0 0 := by rw [← e3]; exact yfr_set hxc (List.mem_singleton.mpr rfl) 0 0
        have n3 : A3.1 = A2.1 := by rw [← e3]; rfl
        have cu3 : ycu A3 cu sa v n f p1 := ycu_fr m2.1 f3 (by rw [List.mem_singleton]; omega) (by rw [List.mem_singleton]; omega) (by rw [List.mem_singleton]; omega)
        have hk3 : yk1 A3 := yk1_fr hk2 f3 (fun z hz => by rw [List.mem_singleton] at hz; omega)
        have hrow3 : yrow A0 A3 cu sa v (m + 1) a la ed cap 5 as ts := by
          obtain ⟨z1, z2, z3, ⟨z4, z5, z6⟩, z7, z8, z9⟩ := hrow1
          obtain ⟨y1, y2, y3, ⟨y4, y5, y6⟩, y7, y8, y9⟩ := hrow2
          refine ⟨yfr_get f3 y1 (by rw [List.mem_singleton]; omega), yal_fr y2 f3 (by rw [List.mem_singleton]; omega) (by rw [List.mem_singleton]; omega), y3, ⟨by omega, by omega, by omega⟩, y7, y8, fun j xx pp hx1 hx2 => ?_⟩
          obtain ⟨lo, hi2, w1, w2, w3, w4, w5⟩ := z9 j xx pp hx1 hx2
          refine ⟨lo, hi2, yt_keep _ _ (fun y o hy hg => ?_) _ _ _ w1, by omega, w3, w4, w5⟩
          have hy2 : xb_get A2 y = some o := by
            refine yfr_get m2.2 hg ?_
            rw [List.mem_singleton]
            rcases hy with hy | hy | hy | hy
            · omega
            · rw [hy]; exact hne.1
            · rw [hy]; exact hne.2
            · omega
          refine yfr_get f3 hy2 ?_
          rw [List.mem_singleton]
          rcases hy with hy | hy | hy | hy <;> omega
        obtain ⟨fs, hxc3, -, hx4⟩ := yt_cell hyt
        obtain ⟨c1', c2', c3', c4', -⟩ := id hrow3
        refine xr_steps (pc' := 96) (L' := [(5, .ref x), (4, .int (Int32.ofInt c)), (3, .int (Int32.ofInt (i : Int))), (2, .ref a), (0, .ref cu), (1, .int (Int32.ofInt dp))]) (st' := [.ref x, .ref a]) 2 rfl ?_
        refine xr_call (q := (.invokevirtual 91, 3, 117, 2)) (av := [.ref a, .ref x]) (rest := []) rfl rfl (by decide) rfl (xr_rcv rfl c1') (Nat.le_of_ble_eq_true rfl) (mv_117 c1' (by omega) c2' (by omega) (yrow_elo hrow3) hxc3 hx4 (by omega)) ?_
        rintro _ A4 ⟨rfl, ed2, cap2, d1, d2, d3, d4⟩
        rw [← n3] at hyt hx
        have hrow4 := yrow_add hrow3 hyt ⟨by omega, Nat.le_refl _, hx.1, hx.2⟩ ⟨by omega, by omega, by omega⟩ d1 d2 d3 d4
        obtain ⟨em, hem⟩ : ∃ em, em = if ed = 6 then la else ed := ⟨_, rfl⟩
        have hem2 : (em = la ∨ em = ed) ∧ A0.1 ≤ em := by rw [hem]; split <;> omega
        rw [← hem] at d3
        have hk4 : yk1 A4 := yk1_fr hk3 d3 (fun z hz => by simp only [List.mem_cons, List.not_mem_nil, or_false] at hz; omega)
        have cu4 : ycu A4 cu sa v n f p1 := ycu_fr cu3 d3 (by simp only [List.mem_cons, List.not_mem_nil, or_false]; omega) (by simp only [List.mem_cons, List.not_mem_nil, or_false]; omega) (by simp only [List.mem_cons, List.not_mem_nil, or_false]; omega)
        have m4 : ymv A0 A4 cu sa v n f p1 (9 * (p1 - p0) + 1) (110 * (p1 - p0) + 110) := ⟨cu4, yfr_mono (yfr_trans (yfr_trans (yfr_trans hm1.2 m2.2 (fun z hz => Or.inl hz)) f3 (fun z hz => Or.inr (by rw [List.mem_singleton] at hz; omega))) d3 (fun z hz => Or.inr (by simp only [List.mem_cons, List.not_mem_nil, or_false] at hz; omega))) (fun z hz => Or.inl hz) (by omega) (by omega)⟩
        refine xr_steps (pc' := 102) (L' := [(5, .ref x), (4, .int (Int32.ofInt c)), (3, .int (Int32.ofInt (i : Int))), (2, .ref a), (0, .ref cu), (1, .int (Int32.ofInt dp))]) (st' := [.int (Int32.ofInt 44), .ref cu]) 2 rfl ?_
        by_cases h44 : ye n f p1 = 44
        · refine xr_call (q := (.invokevirtual 79, 3, 67, 2)) (av := [.ref cu, .int (Int32.ofInt 44)]) (rest := []) rfl rfl (by decide) rfl (xr_rcv rfl cu4.1) (Nat.le_of_ble_eq_true rfl) (mk_yes hw cu4 (by omega) h44) ?_
          rintro _ A5 ⟨rfl, m5⟩
          refine xr_if_ne rfl (by omega) (fun _ => ?_) (fun h => absurd h (by omega))
          refine xr_iinc (L' := [(3, .int (Int32.ofInt ((i : Int) + 1))), (5, .ref x), (4, .int (Int32.ofInt c)), (2, .ref a), (0, .ref cu), (1, .int (Int32.ofInt dp))]) rfl rfl rfl ?_
          refine xr_steps (pc' := 42) (L' := [(3, .int (Int32.ofInt ((i : Int) + 1))), (5, .ref x), (4, .int (Int32.ofInt c)), (2, .ref a), (0, .ref cu), (1, .int (Int32.ofInt dp))]) (st' := []) 1 rfl ?_
          have ei : (i : Int) + 1 = ((i + 1 : Nat) : Int) := by omega
          rw [ei]
          have hr1' : xpv (ye n f) (m + 1) (p + 4) = some (t, p1) := by
            rcases hr1 with h | ⟨-, h⟩
            · exact h
            · omega
          rw [hr1'] at hr
          dsimp only at hr
          rw [if_pos h44] at hr
          refine ih A5 (p1 + 1) (i + 1) ed2 cap2 (as ++ [x]) (ts ++ [(c, t)]) (some (c, x)) (by omega) (by rw [List.length_append, hi]; rfl) (yrow_fr hrow4 m5.2 hne) ?_ (yk1_mv hk4 m5) (ymv_mono (ymv_trans m4 m5) (by omega) (by omega)) (by omega) ?_
          · intro q hq
            rcases List.mem_append.mp hq with hq | hq
            · exact hks q hq
            · rw [List.mem_singleton] at hq
              rw [hq, hcv]
              exact hkey.2.1
          · rw [hr, List.map_append, ← hcv]
            rw [show List.map (fun q : Int × xv (m + 1) => q.1) [(c, t)] = [c] from rfl]
            cases xpo (ye n f) (xpv (ye n f) (m + 1)) k ((ts.map fun q => q.1) ++ [c]) (p1 + 1) with
            | none => rfl
            | some q =>
              obtain ⟨l, q⟩ := q
              show some (xv_m 5 [] (ts ++ ((c, t) :: l)), q) = some (xv_m 5 [] (ts ++ [(c, t)] ++ l), q)
              rw [List.append_assoc]
              rfl
        · refine xr_call (q := (.invokevirtual 79, 3, 67, 2)) (av := [.ref cu, .int (Int32.ofInt 44)]) (rest := []) rfl rfl (by decide) rfl (xr_rcv rfl cu4.1) (Nat.le_of_ble_eq_true rfl) (mk_no hw cu4 (by omega) h44) ?_
          rintro _ _ ⟨rfl, eA⟩
          rw [eA]
          clear eA
          refine xr_if_ne rfl (by omega) (fun h => absurd rfl h) (fun _ => ?_)
          refine xr_steps (pc' := 111) (L' := [(5, .ref x), (4, .int (Int32.ofInt c)), (3, .int (Int32.ofInt (i : Int))), (2, .ref a), (0, .ref cu), (1, .int (Int32.ofInt dp))]) (st' := [.int (Int32.ofInt 125), .ref cu]) 2 rfl ?_
          by_cases h125 : ye n f p1 = 125
          · refine xr_call (q := (.invokevirtual 79, 3, 67, 2)) (av := [.ref cu, .int (Int32.ofInt 125)]) (rest := []) rfl rfl (by decide) rfl (xr_rcv rfl cu4.1) (Nat.le_of_ble_eq_true rfl) (mk_yes hw cu4 (by omega) h125) ?_
            rintro _ A5 ⟨rfl, m5⟩
            refine xr_if_eq rfl (by omega) (fun h => absurd h (by omega)) (fun _ => ?_)
            refine xr_steps (pc' := 122) (L' := [(5, .ref x), (4, .int (Int32.ofInt c)), (3, .int (Int32.ofInt (i : Int))), (2, .ref a), (0, .ref cu), (1, .int (Int32.ofInt dp))]) (st' := [.ref a]) 2 rfl ?_
            have hr1' : xpv (ye n f) (m + 1) (p + 4) = some (t, p1) := by
              rcases hr1 with h | ⟨-, h⟩
              · exact h
              · omega
            rw [hr1'] at hr
            dsimp only at hr
            rw [if_neg h44, if_pos h125, ← hcv] at hr
            have hrow5 := yrow_fr hrow4 m5.2 hne
            have hA5 : a < A5.1 := hrow5.2.2.2.1.1.2
            refine xr_retR rfl rfl ⟨_, rfl, p1 + 1, by omega, Or.inl ⟨a, _, rfl, yrow_yt hrow5 (yk1_mv hk4 m5), ⟨b4.1, hA5⟩, by omega, ymv_mono (ymv_trans m4 m5) (by omega) (by omega), Or.inl hr⟩⟩
          · refine xr_call (q := (.invokevirtual 79, 3, 67, 2)) (av := [.ref cu, .int (Int32.ofInt 125)]) (rest := []) rfl rfl (by decide) rfl (xr_rcv rfl cu4.1) (Nat.le_of_ble_eq_true rfl) (mk_no hw cu4 (by omega) h125) ?_
            rintro _ _ ⟨rfl, eA⟩
            rw [eA]
            clear eA
            refine xr_if_eq rfl (by omega) (fun _ => ?_) (fun h => absurd rfl h)
            refine xr_steps (pc' := 122) (L' := [(5, .ref x), (4, .int (Int32.ofInt c)), (3, .int (Int32.ofInt (i : Int))), (2, .ref a), (0, .ref cu), (1, .int (Int32.ofInt dp))]) (st' := [.null]) 1 rfl ?_
            refine xr_retNull rfl rfl ⟨_, rfl, yrv_null (p := p1) (by omega) (ymv_mono m4 (by omega) (by omega)) ?_⟩
            rw [hr]
            rcases hr1 with h | ⟨h, -⟩
            · rw [h]
              dsimp only
              rw [if_neg h44, if_neg h125]
            · rw [h]
      · refine xr_steps (pc' := 85) (L' := [(5, .null), (4, .int (Int32.ofInt c)), (3, .int (Int32.ofInt (i : Int))), (2, .ref a), (0, .ref cu), (1, .int (Int32.ofInt dp))]) (st' := [.null]) 4 (by rw [hL1]; rcases o with _ | ⟨_, _⟩ <;> rfl) ?_
        refine xr_retNull rfl rfl ⟨_, rfl, yrv_null (p := p1) (by omega) (ymv_mono (ymv_trans hm1 m2) (by omega) (by omega)) ?_⟩
        rw [hr, hr1]
end RO
