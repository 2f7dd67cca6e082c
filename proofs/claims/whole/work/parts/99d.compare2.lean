/-! Comparison.compare -/
section CR
variable {w : Value} {B : Nat} {P P0 : Nat → Prop} {x rr sr : Nat} {st : Int} {rs : List (List Int × List (Int × Int × List Int) × Int)} {ns : List Int} {ex : Option (xv 6)} {sl : List Int → Bool} {H : (n : Nat) → xv (n + 1) → xv (n + 1) → List Int → Nat} {Q : xb_R → xb_H → Prop}
theorem mn_175s {d n : Nat} {dp : Int} (hw : w = .null ∨ w = .ref 19) (hP : ∀ y, P y → y < B ∧ (y < 71 ∨ 165 ≤ y)) (hPP : ∀ y, P0 y → P y) (hPx : P x ∧ P rr ∧ P sr) (hSL : xSL rs sl) (hHO : xHO rs H) (hn : (n : Int) + dp = 5) (IH : yCM w B P P0 x rr sr st rs ns ex sl H (d + 2 * n + 13) n (dp + 1)) : yCM w B P P0 x rr sr st rs ns ex sl H (d + 2 * n + 15) (n + 1) dp := by
  intro A a b k1 k2 t u l es vv hcs hi h1 h2 hw1 hw2 hs hdp hle
  have hln : l.length + n = 5 := by omega
  have hrl : rs.length ≤ 8 := hi.choose_spec.choose_spec.choose_spec.2.2.2.1.1
  refine xr_steps (pc' := 2) (L' := [(0, .ref 71), (1, .ref a), (2, .ref b), (3, .int (Int32.ofInt dp))]) (st' := [.int (Int32.ofInt 5), .int (Int32.ofInt dp)]) 2 rfl ?_
  refine xr_icmp_le rfl (by omega) (by omega) (fun z31 => ?_) (fun z31 => ?_)
  · refine xr_steps (pc' := 7) (L' := [(0, .ref 71), (1, .ref a), (2, .ref b), (3, .int (Int32.ofInt dp))]) (st' := [.ref 71]) 1 rfl ?_
    refine xr_getf (v := .ref x) rfl hcs.2.1 rfl ?_
    refine xr_steps (pc' := 11) (L' := [(0, .ref 71), (1, .ref a), (2, .ref b), (3, .int (Int32.ofInt dp))]) (st' := [.ref 71, .ref x]) 1 rfl ?_
    refine xr_getf (v := .ref x) rfl hcs.2.1 rfl ?_
    refine xr_steps (pc' := 15) (L' := [(0, .ref 71), (1, .ref a), (2, .ref b), (3, .int (Int32.ofInt dp))]) (st' := [.ref 71, .ref x, .ref x]) 1 rfl ?_
    refine xr_getf (v := .ref 72) rfl hcs.2.1 rfl ?_
    refine xr_call (q := (.invokevirtual 56, 3, 84, 2)) (av := [.ref x, .ref 72]) (rest := [.ref x]) rfl rfl (by decide) rfl (xr_rcv rfl hi.choose_spec.choose_spec.choose_spec.1) (Nat.le_of_ble_eq_true rfl) (mi_84 hi hcs.2.2.1) ?_
    rintro _ _ ⟨bs, ⟨rfl, eA⟩, hBS⟩
    rw [eA]
    clear eA
    have hbr := xBS_rng _ _ _ _ hBS
    obtain ⟨hO1, hO2⟩ := hHO n t u l bs hBS
    obtain ⟨b2, hBS2, hsl2⟩ := hSL l
    obtain rfl := xBS_uni _ _ _ _ _ hBS2 hBS
    refine xr_call (q := (.invokevirtual 60, 3, 176, 2)) (av := [.ref x, .int (Int32.ofInt b2)]) (rest := []) rfl rfl (by decide) rfl (xr_rcv rfl hi.choose_spec.choose_spec.choose_spec.1) (Nat.le_of_ble_eq_true rfl) (mi_176 (k := b2) hi (by omega)) ?_
    rintro _ _ (⟨ru, r, hr0, hr1, hyr, rfl, eA⟩ | ⟨hr0, rfl, eA⟩)
    · rw [eA]
      clear eA
      obtain ⟨hO3, hO4, hO5⟩ := hO2 r hr0 hr1
      obtain ⟨z1, z2, z3, z4, z5, z6, z7, z8, hru, -⟩ := id hyr
      refine xr_steps (pc' := 56) (L' := [(4, .ref ru), (0, .ref 71), (1, .ref a), (2, .ref b), (3, .int (Int32.ofInt dp))]) (st' := [.ref b, .ref a, .ref ru]) 8 rfl ?_
      refine xr_call (q := (.invokevirtual 73, 3, 187, 3)) (av := [.ref ru, .ref a, .ref b]) (rest := []) rfl rfl (by decide) rfl (xr_rcv rfl hru) (Nat.le_of_ble_eq_true rfl) (mr_187 hw hcs.2.2.2.2.1 hyr h1 h2 hw1 hw2 (by omega)) ?_
      rintro _ _ ⟨bb, ⟨rfl, eA⟩, hb32⟩
      rw [eA]
      clear eA
      rcases hb32 with ⟨rfl, y32⟩ | ⟨rfl, y32⟩
      · refine xr_if_ne rfl (by omega) (fun z33 => ?_) (fun z33 => ?_)
        · refine xr_steps (pc' := 71) (L' := [(4, .ref ru), (0, .ref 71), (1, .ref a), (2, .ref b), (3, .int (Int32.ofInt dp))]) (st' := [.ref a]) 1 rfl ?_
          refine xr_call (q := (.invokevirtual 79, 3, 189, 1)) (av := [.ref a]) (rest := []) rfl rfl (by decide) rfl (xr_rcv rfl (yt_obj h1).choose_spec) (Nat.le_of_ble_eq_true rfl) (mt_189 h1) ?_
          rintro _ _ ⟨rfl, eA⟩
          rw [eA]
          clear eA
          refine xr_steps (pc' := 77) (L' := [(4, .ref ru), (0, .ref 71), (1, .ref a), (2, .ref b), (3, .int (Int32.ofInt dp))]) (st' := [.ref 4, .ref (xv_k t)]) 1 rfl ?_
          refine xr_acmp (e := false) (t := 118) rfl rfl rfl (xk_dist hw1.1) (by decide) (fun z34 => ?_) (fun z34 => ?_)
          · refine xr_steps (pc' := 81) (L' := [(4, .ref ru), (0, .ref 71), (1, .ref a), (2, .ref b), (3, .int (Int32.ofInt dp))]) (st' := [.ref b]) 1 rfl ?_
            refine xr_call (q := (.invokevirtual 79, 3, 189, 1)) (av := [.ref b]) (rest := []) rfl rfl (by decide) rfl (xr_rcv rfl (yt_obj h2).choose_spec) (Nat.le_of_ble_eq_true rfl) (mt_189 h2) ?_
            rintro _ _ ⟨rfl, eA⟩
            rw [eA]
            clear eA
            refine xr_steps (pc' := 87) (L' := [(4, .ref ru), (0, .ref 71), (1, .ref a), (2, .ref b), (3, .int (Int32.ofInt dp))]) (st' := [.ref 4, .ref (xv_k u)]) 1 rfl ?_
            refine xr_acmp (e := false) (t := 118) rfl rfl rfl (xk_dist hw2.1) (by decide) (fun z35 => ?_) (fun z35 => ?_)
            · refine xr_steps (pc' := 100) (L' := [(4, .ref ru), (0, .ref 71), (1, .ref a), (2, .ref b), (3, .int (Int32.ofInt dp))]) (st' := [.ref ru, .ref b, .ref a, .ref 71]) 6 rfl ?_
              refine xr_call (q := (.invokevirtual 89, 3, 196, 1)) (av := [.ref ru]) (rest := [.ref b, .ref a, .ref 71]) rfl rfl (by decide) rfl (xr_rcv rfl hru) (Nat.le_of_ble_eq_true rfl) (mr_196 hyr) ?_
              rintro _ _ ⟨bb, ⟨rfl, eA⟩, hb36⟩
              rw [eA]
              clear eA
              rcases hb36 with ⟨rfl, y36⟩ | ⟨rfl, y36⟩
              · refine xr_if_eq rfl (by omega) (fun z37 => ?_) (fun z37 => ?_)
                · exfalso; omega
                · refine xr_steps (pc' := 112) (L' := [(4, .ref ru), (0, .ref 71), (1, .ref a), (2, .ref b), (3, .int (Int32.ofInt dp))]) (st' := [.int (Int32.ofInt dp), .int (Int32.ofInt 1), .ref b, .ref a, .ref 71]) 3 rfl ?_
                  have hx := xcm_arr (sl := sl) (st := st) (hO4.2 y32) ⟨z34, z35⟩
                  rw [hx] at hle ⊢
                  have hlb : decide (H n t u l = 3) = true ↔ (1 : Int) = 1 := ⟨fun _ => rfl, fun _ => decide_eq_true ((hO5 (hO4.2 y32)).2 y36)⟩
                  have hsw : (if ¬ H n t u l = 3 ∧ ¬ (xv_p t).length = (xv_p u).length then [((2 : Int), l)] else []) = (if ¬ decide (H n t u l = 3) = true ∧ ¬ (xv_p t).length = (xv_p u).length then [((2 : Int), l)] else []) := by simp only [decide_eq_true_eq]
                  rw [hsw] at hle ⊢
                  refine xr_call (q := (.invokevirtual 93, 3, 197, 5)) (av := [.ref 71, .ref a, .ref b, .int (Int32.ofInt 1), .int (Int32.ofInt dp)]) (rest := []) rfl rfl (by decide) rfl (xr_rcv rfl hcs.2.1) (Nat.le_of_ble_eq_true rfl) (mn_197 (d := d) (lb := decide (H n t u l = 3)) hP hPP hPx hw1 hw2 hs hln hdp IH (by omega) hlb hcs hi h1 h2 hle) ?_
                  rintro _ B38 ⟨rfl, co38⟩
                  refine xr_steps (pc' := 161) (L' := [(4, .ref ru), (0, .ref 71), (1, .ref a), (2, .ref b), (3, .int (Int32.ofInt dp))]) (st' := []) 1 rfl ?_
                  exact xr_retN rfl rfl ⟨_, rfl, rfl, co38⟩
              · refine xr_if_eq rfl (by omega) (fun z39 => ?_) (fun z39 => ?_)
                · refine xr_steps (pc' := 112) (L' := [(4, .ref ru), (0, .ref 71), (1, .ref a), (2, .ref b), (3, .int (Int32.ofInt dp))]) (st' := [.int (Int32.ofInt dp), .int (Int32.ofInt 0), .ref b, .ref a, .ref 71]) 2 rfl ?_
                  have hx := xcm_arr (sl := sl) (st := st) (hO4.2 y32) ⟨z34, z35⟩
                  rw [hx] at hle ⊢
                  have hlb : decide (H n t u l = 3) = true ↔ (0 : Int) = 1 := ⟨fun h => absurd (of_decide_eq_true h) (show ¬ H n t u l = 3 from fun h => y36 ((hO5 (hO4.2 y32)).1 h)), fun h => absurd h (by omega)⟩
                  have hsw : (if ¬ H n t u l = 3 ∧ ¬ (xv_p t).length = (xv_p u).length then [((2 : Int), l)] else []) = (if ¬ decide (H n t u l = 3) = true ∧ ¬ (xv_p t).length = (xv_p u).length then [((2 : Int), l)] else []) := by simp only [decide_eq_true_eq]
                  rw [hsw] at hle ⊢
                  refine xr_call (q := (.invokevirtual 93, 3, 197, 5)) (av := [.ref 71, .ref a, .ref b, .int (Int32.ofInt 0), .int (Int32.ofInt dp)]) (rest := []) rfl rfl (by decide) rfl (xr_rcv rfl hcs.2.1) (Nat.le_of_ble_eq_true rfl) (mn_197 (d := d) (lb := decide (H n t u l = 3)) hP hPP hPx hw1 hw2 hs hln hdp IH (by omega) hlb hcs hi h1 h2 hle) ?_
                  rintro _ B40 ⟨rfl, co40⟩
                  refine xr_steps (pc' := 161) (L' := [(4, .ref ru), (0, .ref 71), (1, .ref a), (2, .ref b), (3, .int (Int32.ofInt dp))]) (st' := []) 1 rfl ?_
                  exact xr_retN rfl rfl ⟨_, rfl, rfl, co40⟩
                · exfalso; omega
            · refine xr_steps (pc' := 119) (L' := [(4, .ref ru), (0, .ref 71), (1, .ref a), (2, .ref b), (3, .int (Int32.ofInt dp))]) (st' := [.ref a]) 1 rfl ?_
              refine xr_call (q := (.invokevirtual 79, 3, 189, 1)) (av := [.ref a]) (rest := []) rfl rfl (by decide) rfl (xr_rcv rfl (yt_obj h1).choose_spec) (Nat.le_of_ble_eq_true rfl) (mt_189 h1) ?_
              rintro _ _ ⟨rfl, eA⟩
              rw [eA]
              clear eA
              refine xr_steps (pc' := 125) (L' := [(4, .ref ru), (0, .ref 71), (1, .ref a), (2, .ref b), (3, .int (Int32.ofInt dp))]) (st' := [.ref 5, .ref (xv_k t)]) 1 rfl ?_
              refine xr_acmp (e := false) (t := 161) rfl rfl rfl (xk_dist hw1.1) (by decide) (fun z41 => ?_) (fun z41 => ?_)
              · refine xr_steps (pc' := 129) (L' := [(4, .ref ru), (0, .ref 71), (1, .ref a), (2, .ref b), (3, .int (Int32.ofInt dp))]) (st' := [.ref b]) 1 rfl ?_
                refine xr_call (q := (.invokevirtual 79, 3, 189, 1)) (av := [.ref b]) (rest := []) rfl rfl (by decide) rfl (xr_rcv rfl (yt_obj h2).choose_spec) (Nat.le_of_ble_eq_true rfl) (mt_189 h2) ?_
                rintro _ _ ⟨rfl, eA⟩
                rw [eA]
                clear eA
                refine xr_steps (pc' := 135) (L' := [(4, .ref ru), (0, .ref 71), (1, .ref a), (2, .ref b), (3, .int (Int32.ofInt dp))]) (st' := [.ref 5, .ref (xv_k u)]) 1 rfl ?_
                refine xr_acmp (e := false) (t := 161) rfl rfl rfl (xk_dist hw2.1) (by decide) (fun z42 => ?_) (fun z42 => ?_)
                · refine xr_steps (pc' := 142) (L' := [(4, .ref ru), (0, .ref 71), (1, .ref a), (2, .ref b), (3, .int (Int32.ofInt dp))]) (st' := [.int (Int32.ofInt dp), .ref b, .ref a, .ref 71]) 4 rfl ?_
                  have hx := xcm_obj (sl := sl) (st := st) (hO4.2 y32) ⟨z41, z42⟩
                  rw [hx] at hle ⊢
                  rw [List.length_append] at hle
                  refine xr_call (q := (.invokevirtual 100, 3, 199, 4)) (av := [.ref 71, .ref a, .ref b, .int (Int32.ofInt dp)]) (rest := []) rfl rfl (by decide) rfl (xr_rcv rfl hcs.2.1) (Nat.le_of_ble_eq_true rfl) (mn_199 (d := d) hP hPP hPx hw1 hw2 hs hln hdp IH hcs hi h1 h2 (by omega)) ?_
                  rintro _ B43 ⟨rfl, co43⟩
                  obtain ⟨vv43, cs43, kp43⟩ := id co43
                  have t44 := yt_keep (n + 1) P kp43.2.2 _ _ _ h1
                  have t45 := yt_keep (n + 1) P kp43.2.2 _ _ _ h2
                  have i46 := yin_kp hi kp43 hPP hPx
                  refine xr_steps (pc' := 146) (L' := [(4, .ref ru), (0, .ref 71), (1, .ref a), (2, .ref b), (3, .int (Int32.ofInt dp))]) (st' := [.ref 71]) 1 rfl ?_
                  refine xr_getf (v := .ref x) rfl cs43.2.1 rfl ?_
                  have hst := i46.choose_spec.choose_spec.choose_spec.2.2.2.2.2.2.2.2.2.1
                  refine xr_call (q := (.invokevirtual 103, 3, 201, 1)) (av := [.ref x]) (rest := []) rfl rfl (by decide) rfl (xr_rcv rfl i46.choose_spec.choose_spec.choose_spec.1) (Nat.le_of_ble_eq_true rfl) (mi_201 i46) ?_
                  rintro _ _ ⟨rfl, eA⟩
                  rw [eA]
                  clear eA
                  refine xr_if_eq rfl (by omega) (fun z47 => ?_) (fun z47 => ?_)
                  · rw [if_neg (show ¬ st = 1 by omega), List.append_nil]
                    exact xr_retN rfl rfl ⟨_, rfl, rfl, co43⟩
                  · refine xr_steps (pc' := 158) (L' := [(4, .ref ru), (0, .ref 71), (1, .ref a), (2, .ref b), (3, .int (Int32.ofInt dp))]) (st' := [.ref b, .ref a, .ref 71]) 3 rfl ?_
                    rw [if_pos (show st = 1 by omega)] at hle ⊢
                    refine xr_call (q := (.invokevirtual 106, 3, 202, 3)) (av := [.ref 71, .ref a, .ref b]) (rest := []) rfl rfl (by decide) rfl (xr_rcv rfl cs43.2.1) (Nat.le_of_ble_eq_true rfl) (mn_202 (d := d) hP hw1 hw2 hs hln cs43 t44 t45 (by rw [List.length_append]; omega)) ?_
                    rintro _ B48 ⟨rfl, co48⟩
                    exact xr_retN rfl rfl ⟨_, rfl, rfl, yco_trans co43 co48⟩
                · rw [xcm_els (hO4.2 y32) (by omega) (by omega)]
                  exact xr_retN rfl rfl ⟨_, rfl, rfl, yco_nil hcs⟩
              · rw [xcm_els (hO4.2 y32) (by omega) (by omega)]
                exact xr_retN rfl rfl ⟨_, rfl, rfl, yco_nil hcs⟩
          · refine xr_steps (pc' := 119) (L' := [(4, .ref ru), (0, .ref 71), (1, .ref a), (2, .ref b), (3, .int (Int32.ofInt dp))]) (st' := [.ref a]) 1 rfl ?_
            refine xr_call (q := (.invokevirtual 79, 3, 189, 1)) (av := [.ref a]) (rest := []) rfl rfl (by decide) rfl (xr_rcv rfl (yt_obj h1).choose_spec) (Nat.le_of_ble_eq_true rfl) (mt_189 h1) ?_
            rintro _ _ ⟨rfl, eA⟩
            rw [eA]
            clear eA
            refine xr_steps (pc' := 125) (L' := [(4, .ref ru), (0, .ref 71), (1, .ref a), (2, .ref b), (3, .int (Int32.ofInt dp))]) (st' := [.ref 5, .ref (xv_k t)]) 1 rfl ?_
            refine xr_acmp (e := false) (t := 161) rfl rfl rfl (xk_dist hw1.1) (by decide) (fun z49 => ?_) (fun z49 => ?_)
            · refine xr_steps (pc' := 129) (L' := [(4, .ref ru), (0, .ref 71), (1, .ref a), (2, .ref b), (3, .int (Int32.ofInt dp))]) (st' := [.ref b]) 1 rfl ?_
              refine xr_call (q := (.invokevirtual 79, 3, 189, 1)) (av := [.ref b]) (rest := []) rfl rfl (by decide) rfl (xr_rcv rfl (yt_obj h2).choose_spec) (Nat.le_of_ble_eq_true rfl) (mt_189 h2) ?_
              rintro _ _ ⟨rfl, eA⟩
              rw [eA]
              clear eA
              refine xr_steps (pc' := 135) (L' := [(4, .ref ru), (0, .ref 71), (1, .ref a), (2, .ref b), (3, .int (Int32.ofInt dp))]) (st' := [.ref 5, .ref (xv_k u)]) 1 rfl ?_
              refine xr_acmp (e := false) (t := 161) rfl rfl rfl (xk_dist hw2.1) (by decide) (fun z50 => ?_) (fun z50 => ?_)
              · refine xr_steps (pc' := 142) (L' := [(4, .ref ru), (0, .ref 71), (1, .ref a), (2, .ref b), (3, .int (Int32.ofInt dp))]) (st' := [.int (Int32.ofInt dp), .ref b, .ref a, .ref 71]) 4 rfl ?_
                have hx := xcm_obj (sl := sl) (st := st) (hO4.2 y32) ⟨z49, z50⟩
                rw [hx] at hle ⊢
                rw [List.length_append] at hle
                refine xr_call (q := (.invokevirtual 100, 3, 199, 4)) (av := [.ref 71, .ref a, .ref b, .int (Int32.ofInt dp)]) (rest := []) rfl rfl (by decide) rfl (xr_rcv rfl hcs.2.1) (Nat.le_of_ble_eq_true rfl) (mn_199 (d := d) hP hPP hPx hw1 hw2 hs hln hdp IH hcs hi h1 h2 (by omega)) ?_
                rintro _ B51 ⟨rfl, co51⟩
                obtain ⟨vv51, cs51, kp51⟩ := id co51
                have t52 := yt_keep (n + 1) P kp51.2.2 _ _ _ h1
                have t53 := yt_keep (n + 1) P kp51.2.2 _ _ _ h2
                have i54 := yin_kp hi kp51 hPP hPx
                refine xr_steps (pc' := 146) (L' := [(4, .ref ru), (0, .ref 71), (1, .ref a), (2, .ref b), (3, .int (Int32.ofInt dp))]) (st' := [.ref 71]) 1 rfl ?_
                refine xr_getf (v := .ref x) rfl cs51.2.1 rfl ?_
                have hst := i54.choose_spec.choose_spec.choose_spec.2.2.2.2.2.2.2.2.2.1
                refine xr_call (q := (.invokevirtual 103, 3, 201, 1)) (av := [.ref x]) (rest := []) rfl rfl (by decide) rfl (xr_rcv rfl i54.choose_spec.choose_spec.choose_spec.1) (Nat.le_of_ble_eq_true rfl) (mi_201 i54) ?_
                rintro _ _ ⟨rfl, eA⟩
                rw [eA]
                clear eA
                refine xr_if_eq rfl (by omega) (fun z55 => ?_) (fun z55 => ?_)
                · rw [if_neg (show ¬ st = 1 by omega), List.append_nil]
                  exact xr_retN rfl rfl ⟨_, rfl, rfl, co51⟩
                · refine xr_steps (pc' := 158) (L' := [(4, .ref ru), (0, .ref 71), (1, .ref a), (2, .ref b), (3, .int (Int32.ofInt dp))]) (st' := [.ref b, .ref a, .ref 71]) 3 rfl ?_
                  rw [if_pos (show st = 1 by omega)] at hle ⊢
                  refine xr_call (q := (.invokevirtual 106, 3, 202, 3)) (av := [.ref 71, .ref a, .ref b]) (rest := []) rfl rfl (by decide) rfl (xr_rcv rfl cs51.2.1) (Nat.le_of_ble_eq_true rfl) (mn_202 (d := d) hP hw1 hw2 hs hln cs51 t52 t53 (by rw [List.length_append]; omega)) ?_
                  rintro _ B56 ⟨rfl, co56⟩
                  exact xr_retN rfl rfl ⟨_, rfl, rfl, yco_trans co51 co56⟩
              · rw [xcm_els (hO4.2 y32) (by omega) (by omega)]
                exact xr_retN rfl rfl ⟨_, rfl, rfl, yco_nil hcs⟩
            · rw [xcm_els (hO4.2 y32) (by omega) (by omega)]
              exact xr_retN rfl rfl ⟨_, rfl, rfl, yco_nil hcs⟩
        · exfalso; omega
      · refine xr_if_ne rfl (by omega) (fun z57 => ?_) (fun z57 => ?_)
        · exfalso; omega
        · have hx := xcm_bad (sl := sl) (st := st) (Classical.byContradiction fun h => y32 (hO4.1 h))
          rw [show (if sl l = true then (5 : Int) else 1) = 5 from if_pos (hsl2.2 (by omega))] at hx
          rw [hx] at hle ⊢
          refine xr_steps (pc' := 64) (L' := [(4, .ref ru), (0, .ref 71), (1, .ref a), (2, .ref b), (3, .int (Int32.ofInt dp))]) (st' := [.int (Int32.ofInt 5), .ref 71]) 2 rfl ?_
          refine xr_call (q := (.invokevirtual 70, 3, 177, 2)) (av := [.ref 71, .int (Int32.ofInt 5)]) (rest := []) rfl rfl (by decide) rfl (xr_rcv rfl hcs.2.1) (Nat.le_of_ble_eq_true rfl) (mn_177 (kd := 5) hP hcs hs (by omega)) ?_
          rintro _ B58 ⟨rfl, co58⟩
          obtain ⟨vv58, cs58, kp58⟩ := id co58
          have t59 := yt_keep (n + 1) P kp58.2.2 _ _ _ h1
          have t60 := yt_keep (n + 1) P kp58.2.2 _ _ _ h2
          have i61 := yin_kp hi kp58 hPP hPx
          refine xr_steps (pc' := 161) (L' := [(4, .ref ru), (0, .ref 71), (1, .ref a), (2, .ref b), (3, .int (Int32.ofInt dp))]) (st' := []) 1 rfl ?_
          exact xr_retN rfl rfl ⟨_, rfl, rfl, co58⟩
    · rw [eA]
      clear eA
      obtain ⟨hO3, hO4⟩ := hO1 hr0
      refine xr_steps (pc' := 33) (L' := [(4, .null), (0, .ref 71), (1, .ref a), (2, .ref b), (3, .int (Int32.ofInt dp))]) (st' := [.ref b, .ref a]) 5 rfl ?_
      refine xr_call (q := (.invokevirtual 64, 3, 146, 2)) (av := [.ref a, .ref b]) (rest := []) rfl rfl (by decide) rfl (xr_rcv rfl (yt_obj h1).choose_spec) (Nat.le_of_ble_eq_true rfl) (mv_146 hcs.2.2.2.2.1 h1 h2 hw1 hw2) ?_
      rintro _ _ ⟨bb, ⟨rfl, eA⟩, hb62⟩
      rw [eA]
      clear eA
      rcases hb62 with ⟨rfl, y62⟩ | ⟨rfl, y62⟩
      · refine xr_if_ne rfl (by omega) (fun z63 => ?_) (fun z63 => ?_)
        · refine xr_steps (pc' := 71) (L' := [(4, .null), (0, .ref 71), (1, .ref a), (2, .ref b), (3, .int (Int32.ofInt dp))]) (st' := [.ref a]) 3 rfl ?_
          refine xr_call (q := (.invokevirtual 79, 3, 189, 1)) (av := [.ref a]) (rest := []) rfl rfl (by decide) rfl (xr_rcv rfl (yt_obj h1).choose_spec) (Nat.le_of_ble_eq_true rfl) (mt_189 h1) ?_
          rintro _ _ ⟨rfl, eA⟩
          rw [eA]
          clear eA
          refine xr_steps (pc' := 77) (L' := [(4, .null), (0, .ref 71), (1, .ref a), (2, .ref b), (3, .int (Int32.ofInt dp))]) (st' := [.ref 4, .ref (xv_k t)]) 1 rfl ?_
          refine xr_acmp (e := false) (t := 118) rfl rfl rfl (xk_dist hw1.1) (by decide) (fun z64 => ?_) (fun z64 => ?_)
          · refine xr_steps (pc' := 81) (L' := [(4, .null), (0, .ref 71), (1, .ref a), (2, .ref b), (3, .int (Int32.ofInt dp))]) (st' := [.ref b]) 1 rfl ?_
            refine xr_call (q := (.invokevirtual 79, 3, 189, 1)) (av := [.ref b]) (rest := []) rfl rfl (by decide) rfl (xr_rcv rfl (yt_obj h2).choose_spec) (Nat.le_of_ble_eq_true rfl) (mt_189 h2) ?_
            rintro _ _ ⟨rfl, eA⟩
            rw [eA]
            clear eA
            refine xr_steps (pc' := 87) (L' := [(4, .null), (0, .ref 71), (1, .ref a), (2, .ref b), (3, .int (Int32.ofInt dp))]) (st' := [.ref 4, .ref (xv_k u)]) 1 rfl ?_
            refine xr_acmp (e := false) (t := 118) rfl rfl rfl (xk_dist hw2.1) (by decide) (fun z65 => ?_) (fun z65 => ?_)
            · refine xr_steps (pc' := 112) (L' := [(4, .null), (0, .ref 71), (1, .ref a), (2, .ref b), (3, .int (Int32.ofInt dp))]) (st' := [.int (Int32.ofInt dp), .int (Int32.ofInt 0), .ref b, .ref a, .ref 71]) 7 rfl ?_
              have hx := xcm_arr (sl := sl) (st := st) (show ¬ H n t u l = 0 from fun h => by have := hO4.2 y62; omega) ⟨z64, z65⟩
              rw [hx] at hle ⊢
              have hlb : decide (H n t u l = 3) = true ↔ (0 : Int) = 1 := ⟨fun h => absurd (of_decide_eq_true h) (show ¬ H n t u l = 3 by omega), fun h => absurd h (by omega)⟩
              have hsw : (if ¬ H n t u l = 3 ∧ ¬ (xv_p t).length = (xv_p u).length then [((2 : Int), l)] else []) = (if ¬ decide (H n t u l = 3) = true ∧ ¬ (xv_p t).length = (xv_p u).length then [((2 : Int), l)] else []) := by simp only [decide_eq_true_eq]
              rw [hsw] at hle ⊢
              refine xr_call (q := (.invokevirtual 93, 3, 197, 5)) (av := [.ref 71, .ref a, .ref b, .int (Int32.ofInt 0), .int (Int32.ofInt dp)]) (rest := []) rfl rfl (by decide) rfl (xr_rcv rfl hcs.2.1) (Nat.le_of_ble_eq_true rfl) (mn_197 (d := d) (lb := decide (H n t u l = 3)) hP hPP hPx hw1 hw2 hs hln hdp IH (by omega) hlb hcs hi h1 h2 hle) ?_
              rintro _ B66 ⟨rfl, co66⟩
              refine xr_steps (pc' := 161) (L' := [(4, .null), (0, .ref 71), (1, .ref a), (2, .ref b), (3, .int (Int32.ofInt dp))]) (st' := []) 1 rfl ?_
              exact xr_retN rfl rfl ⟨_, rfl, rfl, co66⟩
            · refine xr_steps (pc' := 119) (L' := [(4, .null), (0, .ref 71), (1, .ref a), (2, .ref b), (3, .int (Int32.ofInt dp))]) (st' := [.ref a]) 1 rfl ?_
              refine xr_call (q := (.invokevirtual 79, 3, 189, 1)) (av := [.ref a]) (rest := []) rfl rfl (by decide) rfl (xr_rcv rfl (yt_obj h1).choose_spec) (Nat.le_of_ble_eq_true rfl) (mt_189 h1) ?_
              rintro _ _ ⟨rfl, eA⟩
              rw [eA]
              clear eA
              refine xr_steps (pc' := 125) (L' := [(4, .null), (0, .ref 71), (1, .ref a), (2, .ref b), (3, .int (Int32.ofInt dp))]) (st' := [.ref 5, .ref (xv_k t)]) 1 rfl ?_
              refine xr_acmp (e := false) (t := 161) rfl rfl rfl (xk_dist hw1.1) (by decide) (fun z67 => ?_) (fun z67 => ?_)
              · refine xr_steps (pc' := 129) (L' := [(4, .null), (0, .ref 71), (1, .ref a), (2, .ref b), (3, .int (Int32.ofInt dp))]) (st' := [.ref b]) 1 rfl ?_
                refine xr_call (q := (.invokevirtual 79, 3, 189, 1)) (av := [.ref b]) (rest := []) rfl rfl (by decide) rfl (xr_rcv rfl (yt_obj h2).choose_spec) (Nat.le_of_ble_eq_true rfl) (mt_189 h2) ?_
                rintro _ _ ⟨rfl, eA⟩
                rw [eA]
                clear eA
                refine xr_steps (pc' := 135) (L' := [(4, .null), (0, .ref 71), (1, .ref a), (2, .ref b), (3, .int (Int32.ofInt dp))]) (st' := [.ref 5, .ref (xv_k u)]) 1 rfl ?_
                refine xr_acmp (e := false) (t := 161) rfl rfl rfl (xk_dist hw2.1) (by decide) (fun z68 => ?_) (fun z68 => ?_)
                · refine xr_steps (pc' := 142) (L' := [(4, .null), (0, .ref 71), (1, .ref a), (2, .ref b), (3, .int (Int32.ofInt dp))]) (st' := [.int (Int32.ofInt dp), .ref b, .ref a, .ref 71]) 4 rfl ?_
                  have hx := xcm_obj (sl := sl) (st := st) (show ¬ H n t u l = 0 from fun h => by have := hO4.2 y62; omega) ⟨z67, z68⟩
                  rw [hx] at hle ⊢
                  rw [List.length_append] at hle
                  refine xr_call (q := (.invokevirtual 100, 3, 199, 4)) (av := [.ref 71, .ref a, .ref b, .int (Int32.ofInt dp)]) (rest := []) rfl rfl (by decide) rfl (xr_rcv rfl hcs.2.1) (Nat.le_of_ble_eq_true rfl) (mn_199 (d := d) hP hPP hPx hw1 hw2 hs hln hdp IH hcs hi h1 h2 (by omega)) ?_
                  rintro _ B69 ⟨rfl, co69⟩
                  obtain ⟨vv69, cs69, kp69⟩ := id co69
                  have t70 := yt_keep (n + 1) P kp69.2.2 _ _ _ h1
                  have t71 := yt_keep (n + 1) P kp69.2.2 _ _ _ h2
                  have i72 := yin_kp hi kp69 hPP hPx
                  refine xr_steps (pc' := 146) (L' := [(4, .null), (0, .ref 71), (1, .ref a), (2, .ref b), (3, .int (Int32.ofInt dp))]) (st' := [.ref 71]) 1 rfl ?_
                  refine xr_getf (v := .ref x) rfl cs69.2.1 rfl ?_
                  have hst := i72.choose_spec.choose_spec.choose_spec.2.2.2.2.2.2.2.2.2.1
                  refine xr_call (q := (.invokevirtual 103, 3, 201, 1)) (av := [.ref x]) (rest := []) rfl rfl (by decide) rfl (xr_rcv rfl i72.choose_spec.choose_spec.choose_spec.1) (Nat.le_of_ble_eq_true rfl) (mi_201 i72) ?_
                  rintro _ _ ⟨rfl, eA⟩
                  rw [eA]
                  clear eA
                  refine xr_if_eq rfl (by omega) (fun z73 => ?_) (fun z73 => ?_)
                  · rw [if_neg (show ¬ st = 1 by omega), List.append_nil]
                    exact xr_retN rfl rfl ⟨_, rfl, rfl, co69⟩
                  · refine xr_steps (pc' := 158) (L' := [(4, .null), (0, .ref 71), (1, .ref a), (2, .ref b), (3, .int (Int32.ofInt dp))]) (st' := [.ref b, .ref a, .ref 71]) 3 rfl ?_
                    rw [if_pos (show st = 1 by omega)] at hle ⊢
                    refine xr_call (q := (.invokevirtual 106, 3, 202, 3)) (av := [.ref 71, .ref a, .ref b]) (rest := []) rfl rfl (by decide) rfl (xr_rcv rfl cs69.2.1) (Nat.le_of_ble_eq_true rfl) (mn_202 (d := d) hP hw1 hw2 hs hln cs69 t70 t71 (by rw [List.length_append]; omega)) ?_
                    rintro _ B74 ⟨rfl, co74⟩
                    exact xr_retN rfl rfl ⟨_, rfl, rfl, yco_trans co69 co74⟩
                · rw [xcm_els (show ¬ H n t u l = 0 from fun h => by have := hO4.2 y62; omega) (by omega) (by omega)]
                  exact xr_retN rfl rfl ⟨_, rfl, rfl, yco_nil hcs⟩
              · rw [xcm_els (show ¬ H n t u l = 0 from fun h => by have := hO4.2 y62; omega) (by omega) (by omega)]
                exact xr_retN rfl rfl ⟨_, rfl, rfl, yco_nil hcs⟩
          · refine xr_steps (pc' := 119) (L' := [(4, .null), (0, .ref 71), (1, .ref a), (2, .ref b), (3, .int (Int32.ofInt dp))]) (st' := [.ref a]) 1 rfl ?_
            refine xr_call (q := (.invokevirtual 79, 3, 189, 1)) (av := [.ref a]) (rest := []) rfl rfl (by decide) rfl (xr_rcv rfl (yt_obj h1).choose_spec) (Nat.le_of_ble_eq_true rfl) (mt_189 h1) ?_
            rintro _ _ ⟨rfl, eA⟩
            rw [eA]
            clear eA
            refine xr_steps (pc' := 125) (L' := [(4, .null), (0, .ref 71), (1, .ref a), (2, .ref b), (3, .int (Int32.ofInt dp))]) (st' := [.ref 5, .ref (xv_k t)]) 1 rfl ?_
            refine xr_acmp (e := false) (t := 161) rfl rfl rfl (xk_dist hw1.1) (by decide) (fun z75 => ?_) (fun z75 => ?_)
            · refine xr_steps (pc' := 129) (L' := [(4, .null), (0, .ref 71), (1, .ref a), (2, .ref b), (3, .int (Int32.ofInt dp))]) (st' := [.ref b]) 1 rfl ?_
              refine xr_call (q := (.invokevirtual 79, 3, 189, 1)) (av := [.ref b]) (rest := []) rfl rfl (by decide) rfl (xr_rcv rfl (yt_obj h2).choose_spec) (Nat.le_of_ble_eq_true rfl) (mt_189 h2) ?_
              rintro _ _ ⟨rfl, eA⟩
              rw [eA]
              clear eA
              refine xr_steps (pc' := 135) (L' := [(4, .null), (0, .ref 71), (1, .ref a), (2, .ref b), (3, .int (Int32.ofInt dp))]) (st' := [.ref 5, .ref (xv_k u)]) 1 rfl ?_
              refine xr_acmp (e := false) (t := 161) rfl rfl rfl (xk_dist hw2.1) (by decide) (fun z76 => ?_) (fun z76 => ?_)
              · refine xr_steps (pc' := 142) (L' := [(4, .null), (0, .ref 71), (1, .ref a), (2, .ref b), (3, .int (Int32.ofInt dp))]) (st' := [.int (Int32.ofInt dp), .ref b, .ref a, .ref 71]) 4 rfl ?_
                have hx := xcm_obj (sl := sl) (st := st) (show ¬ H n t u l = 0 from fun h => by have := hO4.2 y62; omega) ⟨z75, z76⟩
                rw [hx] at hle ⊢
                rw [List.length_append] at hle
                refine xr_call (q := (.invokevirtual 100, 3, 199, 4)) (av := [.ref 71, .ref a, .ref b, .int (Int32.ofInt dp)]) (rest := []) rfl rfl (by decide) rfl (xr_rcv rfl hcs.2.1) (Nat.le_of_ble_eq_true rfl) (mn_199 (d := d) hP hPP hPx hw1 hw2 hs hln hdp IH hcs hi h1 h2 (by omega)) ?_
                rintro _ B77 ⟨rfl, co77⟩
                obtain ⟨vv77, cs77, kp77⟩ := id co77
                have t78 := yt_keep (n + 1) P kp77.2.2 _ _ _ h1
                have t79 := yt_keep (n + 1) P kp77.2.2 _ _ _ h2
                have i80 := yin_kp hi kp77 hPP hPx
                refine xr_steps (pc' := 146) (L' := [(4, .null), (0, .ref 71), (1, .ref a), (2, .ref b), (3, .int (Int32.ofInt dp))]) (st' := [.ref 71]) 1 rfl ?_
                refine xr_getf (v := .ref x) rfl cs77.2.1 rfl ?_
                have hst := i80.choose_spec.choose_spec.choose_spec.2.2.2.2.2.2.2.2.2.1
                refine xr_call (q := (.invokevirtual 103, 3, 201, 1)) (av := [.ref x]) (rest := []) rfl rfl (by decide) rfl (xr_rcv rfl i80.choose_spec.choose_spec.choose_spec.1) (Nat.le_of_ble_eq_true rfl) (mi_201 i80) ?_
                rintro _ _ ⟨rfl, eA⟩
                rw [eA]
                clear eA
                refine xr_if_eq rfl (by omega) (fun z81 => ?_) (fun z81 => ?_)
                · rw [if_neg (show ¬ st = 1 by omega), List.append_nil]
                  exact xr_retN rfl rfl ⟨_, rfl, rfl, co77⟩
                · refine xr_steps (pc' := 158) (L' := [(4, .null), (0, .ref 71), (1, .ref a), (2, .ref b), (3, .int (Int32.ofInt dp))]) (st' := [.ref b, .ref a, .ref 71]) 3 rfl ?_
                  rw [if_pos (show st = 1 by omega)] at hle ⊢
                  refine xr_call (q := (.invokevirtual 106, 3, 202, 3)) (av := [.ref 71, .ref a, .ref b]) (rest := []) rfl rfl (by decide) rfl (xr_rcv rfl cs77.2.1) (Nat.le_of_ble_eq_true rfl) (mn_202 (d := d) hP hw1 hw2 hs hln cs77 t78 t79 (by rw [List.length_append]; omega)) ?_
                  rintro _ B82 ⟨rfl, co82⟩
                  exact xr_retN rfl rfl ⟨_, rfl, rfl, yco_trans co77 co82⟩
              · rw [xcm_els (show ¬ H n t u l = 0 from fun h => by have := hO4.2 y62; omega) (by omega) (by omega)]
                exact xr_retN rfl rfl ⟨_, rfl, rfl, yco_nil hcs⟩
            · rw [xcm_els (show ¬ H n t u l = 0 from fun h => by have := hO4.2 y62; omega) (by omega) (by omega)]
              exact xr_retN rfl rfl ⟨_, rfl, rfl, yco_nil hcs⟩
        · exfalso; omega
      · refine xr_if_ne rfl (by omega) (fun z83 => ?_) (fun z83 => ?_)
        · exfalso; omega
        · have hx := xcm_bad (sl := sl) (st := st) (show H n t u l = 0 by rcases hO3 with h | h; exact h; exact absurd (hO4.1 h) y62)
          rw [show (if sl l = true then (5 : Int) else 1) = 1 from if_neg (fun h => hsl2.1 h hr0)] at hx
          rw [hx] at hle ⊢
          refine xr_steps (pc' := 41) (L' := [(4, .null), (0, .ref 71), (1, .ref a), (2, .ref b), (3, .int (Int32.ofInt dp))]) (st' := [.int (Int32.ofInt 1), .ref 71]) 2 rfl ?_
          refine xr_call (q := (.invokevirtual 70, 3, 177, 2)) (av := [.ref 71, .int (Int32.ofInt 1)]) (rest := []) rfl rfl (by decide) rfl (xr_rcv rfl hcs.2.1) (Nat.le_of_ble_eq_true rfl) (mn_177 (kd := 1) hP hcs hs (by omega)) ?_
          rintro _ B84 ⟨rfl, co84⟩
          obtain ⟨vv84, cs84, kp84⟩ := id co84
          have t85 := yt_keep (n + 1) P kp84.2.2 _ _ _ h1
          have t86 := yt_keep (n + 1) P kp84.2.2 _ _ _ h2
          have i87 := yin_kp hi kp84 hPP hPx
          refine xr_steps (pc' := 161) (L' := [(4, .null), (0, .ref 71), (1, .ref a), (2, .ref b), (3, .int (Int32.ofInt dp))]) (st' := []) 1 rfl ?_
          exact xr_retN rfl rfl ⟨_, rfl, rfl, co84⟩
  · exfalso; omega
theorem mn_175 (hw : w = .null ∨ w = .ref 19) (hP : ∀ y, P y → y < B ∧ (y < 71 ∨ 165 ≤ y)) (hPP : ∀ y, P0 y → P y) (hPx : P x ∧ P rr ∧ P sr) (hSL : xSL rs sl) (hHO : xHO rs H) : ∀ (n d : Nat) (dp : Int), (n : Int) + dp = 6 → yCM w B P P0 x rr sr st rs ns ex sl H (d + 2 * n + 13) n dp := by
  intro n
  induction n with
  | zero => intro d dp _ A a b k1 k2 t u l es vv hcs hi h1; exact absurd h1 id
  | succ n ih =>
    intro d dp hn
    exact mn_175s hw hP hPP hPx hSL hHO (by omega) (ih d (dp + 1) (by omega))
end CR
/-! Comparison.run -/
section CS
variable {w : Value} {B : Nat} {P P0 : Nat → Prop} {x rr sr : Nat} {st : Int} {rs : List (List Int × List (Int × Int × List Int) × Int)} {ns : List Int} {sl : List Int → Bool} {H : (n : Nat) → xv (n + 1) → xv (n + 1) → List Int → Nat} {Q : xb_R → xb_H → Prop}
theorem yml_nil {A : xb_H} {vv : Nat → Nat} {es : List (Int × List Int)} (h : yml A P vv es) : yml A P vv [] := by
  obtain ⟨h1, h2, h3⟩ := h
  refine ⟨h1, fun k hk => ?_, h3⟩
  obtain ⟨kd, n, L, e1, -⟩ := h2 k hk
  exact ⟨kd, n, L, e1, fun e he => by rw [List.getElem?_nil] at he; cases he⟩
theorem yml_71 {A A' : xb_H} {vv : Nat → Nat} {es : List (Int × List Int)} {p q : Nat} (h : yml A P vv es) (hf : yfr A A' [71] p q) : yml A' P vv es := by
  refine yml_fr h hf (fun y hy => ?_)
  rw [List.mem_singleton] at hy
  refine ⟨by omega, fun k hk e => ?_⟩
  have := (h.2.2.1 k hk).2
  omega
theorem mn_173 {d : Nat} {A : xb_H} {b : Nat} {t u : xv 6} {l : List Int} {es : List (Int × List Int)} {vv : Nat → Nat} {ir : Value} (hw : w = .null ∨ w = .ref 19) (hP : ∀ y, P y → y < B ∧ (y < 71 ∨ 165 ≤ y)) (hPP : ∀ y, P0 y → P y) (hPx : P x ∧ P rr ∧ P sr) (hSL : xSL rs sl) (hHO : xHO rs H) (hcs : ycs A B P vv ir es l) (hi : yin A P0 x rr sr st rs ns (some t)) (hb : yt A P 6 b 0 u) (hwb : xwf 6 u) (hle : (xcm sl H st 6 t u []).length ≤ 100000) : xr_ok (xt_G w) (d + 26) 173 0 [(0, .ref 71), (1, .ref x), (2, .ref b)] [] A (fun o A' => ∃ v0, o = .inl v0 ∧ v0 = some (.int (Int32.ofInt ((xcm sl H st 6 t u []).length : Int))) ∧ ∃ vv' : Nat → Nat, ycs A' B P vv' (.ref x) (xcm sl H st 6 t u []) [] ∧ ykp A A' P 30 1800) := by
  obtain ⟨hB, h71, hp, hm, hk2, hk3⟩ := hcs
  have f31 := yfr_refl A [71] 0 0
  refine xr_steps (pc' := 2) (L' := [(0, .ref 71), (1, .ref x), (2, .ref b)]) (st' := [.ref x, .ref 71]) 2 rfl ?_
  obtain ⟨A32, eA32⟩ : ∃ A0, xb_set A 71 (.inr (1, [.ref 72, .ref 74, .int (Int32.ofInt (es.length : Int)), .ref x])) = A0 := ⟨_, rfl⟩
  refine xr_putf (t := .object "ContractDesk$Interaction") rfl h71 (by decide) (Nat.le_of_ble_eq_true rfl) rfl (xr_fitR _ rfl) (xr_heap eA32 ?_)
  have g33 := xr_mv eA32 (xb_get_set_same h71)
  have nA32 : A32.1 = A.1 := by rw [← eA32]; rfl
  have f34 := yfr_mv eA32 (yfr_step_set f31 h71 (Or.inl (by simp)))
  refine xr_steps (pc' := 7) (L' := [(0, .ref 71), (1, .ref x), (2, .ref b)]) (st' := [.int (Int32.ofInt 0), .ref 71]) 2 rfl ?_
  obtain ⟨A35, eA35⟩ : ∃ A0, xb_set A32 71 (.inr (1, [.ref 72, .ref 74, .int (Int32.ofInt 0), .ref x])) = A0 := ⟨_, rfl⟩
  refine xr_putf (t := .int) rfl g33 (by decide) (Nat.le_of_ble_eq_true rfl) rfl (xr_fitI _) (xr_heap eA35 ?_)
  have g36 := xr_mv eA35 (xb_get_set_same g33)
  have nA35 : A35.1 = A32.1 := by rw [← eA35]; rfl
  have f37 := yfr_mv eA35 (yfr_step_set f34 g33 (Or.inl (by simp)))
  refine xr_steps (pc' := 11) (L' := [(0, .ref 71), (1, .ref x), (2, .ref b)]) (st' := [.ref 71]) 1 rfl ?_
  refine xr_getf (v := .ref 72) rfl g36 rfl ?_
  have hp1 := ypa_fr hp f37 (by decide) (by decide)
  refine xr_call (q := (.invokevirtual 35, 3, 174, 1)) (av := [.ref 72]) (rest := []) rfl rfl (by decide) rfl (xr_rcv rfl hp1.choose_spec.1) (Nat.le_of_ble_eq_true rfl) (mp_174 hp1) ?_
  rintro _ A3 ⟨rfl, hp3, fr3⟩
  have hcs3 : ycs A3 B P vv (.ref x) [] [] := ⟨by have := fr3.1; have := f37.1; omega, yfr_get fr3 g36 (by decide), hp3, yml_fr (yml_nil (yml_71 hm f37)) fr3 (fun y hy => by rw [List.mem_singleton] at hy; exact ⟨by omega, fun k hk e => by have := (hm.2.2.1 k hk).2; omega⟩), yk2_fr (yk2_fr hk2 f37 (fun y hy => by rw [List.mem_singleton] at hy; omega)) fr3 (fun y hy => by rw [List.mem_singleton] at hy; omega), yk3_fr (yk3_fr hk3 f37 (fun y hy => by rw [List.mem_singleton] at hy; omega)) fr3 (fun y hy => by rw [List.mem_singleton] at hy; omega)⟩
  have kp3 : ykp A A3 P 0 0 := ykp_trans (p := 0) (q := 0) (ykp_fr f37 (fun y hy hh => by rw [List.mem_singleton] at hy; have := hP y hh; omega)) (ykp_fr fr3 (fun y hy hh => by rw [List.mem_singleton] at hy; have := hP y hh; omega))
  have hi3 := yin_kp hi kp3 hPP hPx
  have hb3 := yt_keep 6 P kp3.2.2 _ _ _ hb
  refine xr_steps (pc' := 19) (L' := [(0, .ref 71), (1, .ref x), (2, .ref b)]) (st' := [.ref x, .ref 71]) 2 rfl ?_
  refine xr_call (q := (.invokevirtual 38, 3, 164, 1)) (av := [.ref x]) (rest := [.ref 71]) rfl rfl (by decide) rfl (xr_rcv rfl hi3.choose_spec.choose_spec.choose_spec.1) (Nat.le_of_ble_eq_true rfl) (mi_164 hi3 rfl) ?_
  rintro _ _ ⟨a, ⟨rfl, eA⟩, ha, hwa⟩
  rw [eA]
  clear eA
  have ha2 := yt_mono 6 P0 P hPP _ _ _ ha
  refine xr_steps (pc' := 24) (L' := [(0, .ref 71), (1, .ref x), (2, .ref b)]) (st' := [.int (Int32.ofInt 0), .ref b, .ref a, .ref 71]) 2 rfl ?_
  refine xr_call (q := (.invokevirtual 44, 3, 175, 4)) (av := [.ref 71, .ref a, .ref b, .int (Int32.ofInt 0)]) (rest := []) rfl rfl (by decide) rfl (xr_rcv rfl hcs3.2.1) (Nat.le_of_ble_eq_true rfl) (mn_175 hw hP hPP hPx hSL hHO 6 d 0 (by omega) hcs3 hi3 ha2 hb3 hwa hwb (fun i hi => absurd hi (Nat.not_lt_zero _)) rfl (by rw [List.length_nil, Nat.zero_add]; exact hle)) ?_
  rintro _ A4 ⟨rfl, co4⟩
  obtain ⟨vv4, cs4, kp4⟩ := co4
  rw [List.nil_append] at cs4 kp4
  refine xr_steps (pc' := 28) (L' := [(0, .ref 71), (1, .ref x), (2, .ref b)]) (st' := [.ref 71]) 1 rfl ?_
  refine xr_getf (v := .int (Int32.ofInt ((xcm sl H st 6 t u []).length : Int))) rfl cs4.2.1 rfl ?_
  refine xr_retI2 rfl rfl ⟨_, rfl, rfl, vv4, cs4, ykp_mono (ykp_trans kp3 kp4) ?_ ?_⟩
  · unfold xmn; simp only [List.length_nil]; omega
  · unfold xmn; simp only [List.length_nil]; omega
end CS
