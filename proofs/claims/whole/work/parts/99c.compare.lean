/-! Two values are compared -/
theorem xp_drop {α : Type} {l : List α} {i : Nat} {q : α} (h : l[i]? = some q) : l.drop i = q :: l.drop (i + 1) := by
  obtain ⟨h1, h2⟩ := List.getElem?_eq_some_iff.mp h
  rw [← h2]
  exact List.drop_eq_getElem_cons h1
theorem xwf_n {n : Nat} {q : xv n} (h : xwf n q) : 1 ≤ n := by
  cases n with
  | zero => exact absurd h id
  | succ n => omega
section CO
variable {w : Value} {B : Nat} {P P0 : Nat → Prop} {x rr sr : Nat} {st : Int} {rs : List (List Int × List (Int × Int × List Int) × Int)} {ns : List Int} {ex : Option (xv 6)} {sl : List Int → Bool} {H : (n : Nat) → xv (n + 1) → xv (n + 1) → List Int → Nat} {Q : xb_R → xb_H → Prop}
/-- what is said of compare for values of n levels at the depth dp -/
def yCM (w : Value) (B : Nat) (P P0 : Nat → Prop) (x rr sr : Nat) (st : Int) (rs : List (List Int × List (Int × Int × List Int) × Int)) (ns : List Int) (ex : Option (xv 6)) (sl : List Int → Bool) (H : (n : Nat) → xv (n + 1) → xv (n + 1) → List Int → Nat) (D n : Nat) (dp : Int) : Prop := ∀ {A : xb_H} {a b : Nat} {k k' : Int} {t u : xv n} {l : List Int} {es : List (Int × List Int)} {vv : Nat → Nat}, ycs A B P vv (.ref x) es l → yin A P0 x rr sr st rs ns ex → yt A P n a k t → yt A P n b k' u → xwf n t → xwf n u → xok l → (l.length : Int) = dp → es.length + (xcm sl H st n t u l).length ≤ 100000 → xr_ok (xt_G w) D 175 0 [(0, .ref 71), (1, .ref a), (2, .ref b), (3, .int (Int32.ofInt dp))] [] A (fun o A' => ∃ v0, o = .inl v0 ∧ v0 = none ∧ yco A A' B P (.ref x) es (xcm sl H st n t u l) l)
theorem yin_kp {A A' : xb_H} {p q : Nat} (h : yin A P0 x rr sr st rs ns ex) (hk : ykp A A' P p q) (hPP : ∀ y, P0 y → P y) (hPx : P x ∧ P rr ∧ P sr) : yin A' P0 x rr sr st rs ns ex := by
  refine yin_keep h (fun y o hy => hk.2.2 y o (hPP y hy)) (fun y o hy => hk.2.2 y o ?_)
  rcases hy with rfl | rfl | rfl
  · exact hPx.1
  · exact hPx.2.1
  · exact hPx.2.2
theorem mt_200r {d n a : Nat} {A : xb_H} {k : Int} {t : xv n} (h : yt A P n a k t) (hw : xwf n t) (hk : 0 ≤ k ∧ k ≤ 127) : xr_ok (xt_G w) d 200 0 [(0, .ref a)] [] A (fun o A' => ∃ v0, o = .inl v0 ∧ v0 = some (.int (Int32.ofInt k)) ∧ A' = A) := by
  cases n with
  | zero => exact absurd hw id
  | succ n => exact mt_200 h hk
theorem yt_objr {n a : Nat} {A : xb_H} {k : Int} {t : xv n} (h : yt A P n a k t) (hw : xwf n t) : ∃ fs, xb_get A a = some (.inr (9, fs)) := by
  cases n with
  | zero => exact absurd hw id
  | succ n => exact yt_obj h
theorem mn_202l {d n a b : Nat} {k1 k2 : Int} {t u : xv (n + 1)} {l : List Int} (hP : ∀ y, P y → y < B ∧ (y < 71 ∨ 165 ≤ y)) (hw1 : xwf (n + 1) t) (hw2 : xwf (n + 1) u) (hs : xok l) (hln : l.length + n = 5) : ∀ (k i : Nat) (A : xb_H) (es : List (Int × List Int)) (vv : Nat → Nat), i + k = (xv_p u).length → ycs A B P vv (.ref x) es l → yt A P (n + 1) a k1 t → yt A P (n + 1) b k2 u → es.length + (xun (xv_p t) l ((xv_p u).drop i)).length ≤ 100000 → (∀ A' : xb_H, yco A A' B P (.ref x) es (xun (xv_p t) l ((xv_p u).drop i)) l → Q (.inl none) A') → xr_ok (xt_G w) (d + 2 * n + 14) 202 2 [(3, .int (Int32.ofInt (i : Int))), (0, .ref 71), (1, .ref a), (2, .ref b)] [] A Q := by
  intro k
  induction k using Nat.strongRecOn with
  | _ k ih =>
    intro i A es vv hk hcs h1 h2 hle hQ
    have hlu := hw2.2.2.2.2.2.1
    refine xr_steps (pc' := 4) (L' := [(3, .int (Int32.ofInt (i : Int))), (0, .ref 71), (1, .ref a), (2, .ref b)]) (st' := [.ref b, .int (Int32.ofInt (i : Int))]) 2 rfl ?_
    refine xr_call (q := (.invokevirtual 110, 3, 149, 1)) (av := [.ref b]) (rest := [.int (Int32.ofInt (i : Int))]) rfl rfl (by decide) rfl (xr_rcv rfl (yt_obj h2).choose_spec) (Nat.le_of_ble_eq_true rfl) (mt_149 h2) ?_
    rintro _ _ ⟨rfl, eA⟩
    rw [eA]
    clear eA
    refine xr_icmp_ge rfl (by omega) (by omega) (fun z31 => ?_) (fun z31 => ?_)
    · obtain rfl : k = 0 := by omega
      refine xr_retN rfl rfl (hQ A ?_)
      rw [show i = (xv_p u).length by omega, List.drop_length]
      exact yco_nil hcs
    · refine xr_steps (pc' := 12) (L' := [(3, .int (Int32.ofInt (i : Int))), (0, .ref 71), (1, .ref a), (2, .ref b)]) (st' := [.int (Int32.ofInt (i : Int)), .ref b]) 2 rfl ?_
      refine xr_call (q := (.invokevirtual 113, 3, 150, 2)) (av := [.ref b, .int (Int32.ofInt (i : Int))]) (rest := []) rfl rfl (by decide) rfl (xr_rcv rfl (yt_obj h2).choose_spec) (Nat.le_of_ble_eq_true rfl) (mt_150 h2 hw2 (by omega)) ?_
      rintro _ _ (⟨q32, x32, i32, e32, rfl, y32, eA⟩ | ⟨rfl, e32, eA⟩)
      · rw [eA]
        clear eA
        have w32 := hw2.2.2.2.2.2.2 q32 (List.mem_of_getElem? e32)
        have hn32 := xwf_n w32.1
        refine xr_steps (pc' := 25) (L' := [(4, .ref x32), (3, .int (Int32.ofInt (i : Int))), (0, .ref 71), (1, .ref a), (2, .ref b)]) (st' := [.ref x32, .ref a]) 5 rfl ?_
        refine xr_call (q := (.invokevirtual 123, 3, 200, 1)) (av := [.ref x32]) (rest := [.ref a]) rfl rfl (by decide) rfl (xr_rcv rfl (yt_objr y32 w32.1).choose_spec) (Nat.le_of_ble_eq_true rfl) (mt_200r y32 w32.1 ⟨w32.2.1, w32.2.2⟩) ?_
        rintro _ _ ⟨rfl, eA⟩
        rw [eA]
        clear eA
        refine xr_call (q := (.invokevirtual 131, 3, 126, 2)) (av := [.ref a, .int (Int32.ofInt q32.1)]) (rest := []) rfl rfl (by decide) rfl (xr_rcv rfl (yt_obj h1).choose_spec) (Nat.le_of_ble_eq_true rfl) (mt_126 h1 hw1 (by omega)) ?_
        rintro _ _ (⟨u33, x33, e33, rfl, y33, eA⟩ | ⟨rfl, e33, eA⟩)
        · rw [eA]
          clear eA
          obtain ⟨v33, mv33, ev33, ew33⟩ := xmem_mem _ _ _ e33
          have wm := (hw1.2.2.2.2.2.2 v33 mv33).1
          rw [ev33] at wm
          refine xr_steps (pc' := 61) (L' := [(4, .ref x32), (3, .int (Int32.ofInt (i : Int))), (0, .ref 71), (1, .ref a), (2, .ref b)]) (st' := []) 1 rfl ?_
          refine xr_iinc (L' := [(3, .int (Int32.ofInt ((i : Int) + 1))), (4, .ref x32), (0, .ref 71), (1, .ref a), (2, .ref b)]) rfl rfl rfl ?_
          refine xr_steps (pc' := 2) (L' := [(3, .int (Int32.ofInt ((i : Int) + 1))), (4, .ref x32), (0, .ref 71), (1, .ref a), (2, .ref b)]) (st' := []) 1 rfl ?_
          refine xr_loc (L := [(3, .int (Int32.ofInt ((i : Int) + 1))), (0, .ref 71), (1, .ref a), (2, .ref b)]) (show [3, 0, 1, 2].Nodup by decide) ⟨rfl, rfl, rfl, rfl, trivial⟩ ?_
          rw [show (i : Int) + 1 = ((i + 1 : Nat) : Int) by omega]
          have hd := xp_drop (show (xv_p u)[i]? = some q32 from e32)
          refine ih (k - 1) (by omega) (i + 1) A _ _ (by omega) hcs h1 h2 (by rw [hd, xun, e33] at hle; exact hle) (fun A' h => hQ A' ?_)
          rw [hd, xun, e33]
          exact h
        · rw [eA]
          clear eA
          refine xr_steps (pc' := 35) (L' := [(4, .ref x32), (3, .int (Int32.ofInt (i : Int))), (0, .ref 71), (1, .ref a), (2, .ref b)]) (st' := [.ref 71]) 2 rfl ?_
          refine xr_getf (v := .ref 72) rfl hcs.2.1 rfl ?_
          refine xr_steps (pc' := 40) (L' := [(4, .ref x32), (3, .int (Int32.ofInt (i : Int))), (0, .ref 71), (1, .ref a), (2, .ref b)]) (st' := [.ref x32, .ref 72]) 1 rfl ?_
          refine xr_call (q := (.invokevirtual 123, 3, 200, 1)) (av := [.ref x32]) (rest := [.ref 72]) rfl rfl (by decide) rfl (xr_rcv rfl (yt_objr y32 w32.1).choose_spec) (Nat.le_of_ble_eq_true rfl) (mt_200r y32 w32.1 ⟨w32.2.1, w32.2.2⟩) ?_
          rintro _ _ ⟨rfl, eA⟩
          rw [eA]
          clear eA
          refine xr_call (q := (.invokestatic 127, 3, 78, 1)) (av := [.int (Int32.ofInt q32.1)]) (rest := [.ref 72]) rfl rfl (by decide) rfl rfl (Nat.le_of_ble_eq_true rfl) (mp_78 (by omega)) ?_
          rintro _ _ ⟨rfl, eA⟩
          rw [eA]
          clear eA
          refine xr_call (q := (.invokevirtual 117, 3, 82, 2)) (av := [.ref 72, .int (Int32.ofInt (1000 + q32.1))]) (rest := []) rfl rfl (by decide) rfl (xr_rcv rfl hcs.2.2.1.choose_spec.1) (Nat.le_of_ble_eq_true rfl) (mp_82 hcs.2.2.1 (by omega) (by omega)) ?_
          rintro _ B34 ⟨rfl, hp34, fr34⟩
          have cs34 := ycs_path hcs hp34 fr34
          have kp34 := ykp_path hP fr34
          have t35 := yt_keep (n + 1) P kp34.2.2 _ _ _ h1
          have t36 := yt_keep (n + 1) P kp34.2.2 _ _ _ h2
          have t37 := yt_keep n P kp34.2.2 _ _ _ y32
          refine xr_steps (pc' := 51) (L' := [(4, .ref x32), (3, .int (Int32.ofInt (i : Int))), (0, .ref 71), (1, .ref a), (2, .ref b)]) (st' := [.int (Int32.ofInt 4), .ref 71]) 2 rfl ?_
          refine xr_call (q := (.invokevirtual 70, 3, 177, 2)) (av := [.ref 71, .int (Int32.ofInt 4)]) (rest := []) rfl rfl (by decide) rfl (xr_rcv rfl cs34.2.1) (Nat.le_of_ble_eq_true rfl) (mn_177 (kd := 4) hP cs34 (xok_app hs (by omega)) (by omega)) ?_
          rintro _ B38 ⟨rfl, co38⟩
          obtain ⟨vv38, cs38, kp38⟩ := id co38
          have t39 := yt_keep (n + 1) P kp38.2.2 _ _ _ t35
          have t40 := yt_keep (n + 1) P kp38.2.2 _ _ _ t36
          have t41 := yt_keep n P kp38.2.2 _ _ _ t37
          refine xr_steps (pc' := 55) (L' := [(4, .ref x32), (3, .int (Int32.ofInt (i : Int))), (0, .ref 71), (1, .ref a), (2, .ref b)]) (st' := [.ref 71]) 1 rfl ?_
          refine xr_getf (v := .ref 72) rfl cs38.2.1 rfl ?_
          refine xr_call (q := (.invokevirtual 120, 3, 198, 1)) (av := [.ref 72]) (rest := []) rfl rfl (by decide) rfl (xr_rcv rfl cs38.2.2.1.choose_spec.1) (Nat.le_of_ble_eq_true rfl) (mp_198 (l := l) cs38.2.2.1) ?_
          rintro _ B42 ⟨rfl, hp42, fr42⟩
          have fz42 : yfr B38 B42 [72, 73] 0 0 := yfr_mono fr42 (fun z hz => Or.inl (by rw [List.mem_singleton] at hz; rw [hz]; decide)) (Nat.le_refl _) (Nat.le_refl _)
          have cs42 := ycs_path cs38 hp42 fz42
          have kp42 := ykp_path hP fz42
          have t43 := yt_keep (n + 1) P kp42.2.2 _ _ _ t39
          have t44 := yt_keep (n + 1) P kp42.2.2 _ _ _ t40
          have t45 := yt_keep n P kp42.2.2 _ _ _ t41
          refine xr_iinc (L' := [(3, .int (Int32.ofInt ((i : Int) + 1))), (4, .ref x32), (0, .ref 71), (1, .ref a), (2, .ref b)]) rfl rfl rfl ?_
          refine xr_steps (pc' := 2) (L' := [(3, .int (Int32.ofInt ((i : Int) + 1))), (4, .ref x32), (0, .ref 71), (1, .ref a), (2, .ref b)]) (st' := []) 1 rfl ?_
          refine xr_loc (L := [(3, .int (Int32.ofInt ((i : Int) + 1))), (0, .ref 71), (1, .ref a), (2, .ref b)]) (show [3, 0, 1, 2].Nodup by decide) ⟨rfl, rfl, rfl, rfl, trivial⟩ ?_
          rw [show (i : Int) + 1 = ((i + 1 : Nat) : Int) by omega]
          have hd := xp_drop (show (xv_p u)[i]? = some q32 from e32)
          have co := yco_in hP fr34 co38 fz42 hp42
          have hle2 : es.length + ([(4, l ++ [1000 + q32.1])] ++ xun (xv_p t) l ((xv_p u).drop (i + 1))).length ≤ 100000 := by
            rw [hd, xun, e33] at hle
            exact hle
          rw [List.length_append, List.length_singleton] at hle2
          refine ih (k - 1) (by omega) (i + 1) B42 _ _ (by omega) cs42 t43 t44 (by rw [List.length_append, List.length_singleton]; omega) (fun A' h => hQ A' ?_)
          have h2 := yco_trans co h
          rw [hd, xun, e33]
          exact h2
      · exfalso; omega
theorem mn_202 {A : xb_H} {es : List (Int × List Int)} {vv : Nat → Nat} {d n a b : Nat} {k1 k2 : Int} {t u : xv (n + 1)} {l : List Int} (hP : ∀ y, P y → y < B ∧ (y < 71 ∨ 165 ≤ y)) (hw1 : xwf (n + 1) t) (hw2 : xwf (n + 1) u) (hs : xok l) (hln : l.length + n = 5) (hcs : ycs A B P vv (.ref x) es l) (h1 : yt A P (n + 1) a k1 t) (h2 : yt A P (n + 1) b k2 u) (hle : es.length + (xun (xv_p t) l (xv_p u)).length ≤ 100000) : xr_ok (xt_G w) (d + 2 * n + 14) 202 0 [(0, .ref 71), (1, .ref a), (2, .ref b)] [] A (fun o A' => ∃ v0, o = .inl v0 ∧ v0 = none ∧ yco A A' B P (.ref x) es (xun (xv_p t) l (xv_p u)) l) := by
  refine xr_steps (pc' := 2) (L' := [(3, .int (Int32.ofInt 0)), (0, .ref 71), (1, .ref a), (2, .ref b)]) (st' := []) 2 rfl ?_
  exact mn_202l hP hw1 hw2 hs hln (xv_p u).length 0 A es vv (by omega) hcs h1 h2 hle (fun A2 e => ⟨_, rfl, rfl, e⟩)
theorem mn_199l {d n a b : Nat} {k1 k2 : Int} {t u : xv (n + 1)} {l : List Int} {dp : Int} (hP : ∀ y, P y → y < B ∧ (y < 71 ∨ 165 ≤ y)) (hPP : ∀ y, P0 y → P y) (hPx : P x ∧ P rr ∧ P sr) (hw1 : xwf (n + 1) t) (hw2 : xwf (n + 1) u) (hs : xok l) (hln : l.length + n = 5) (hdp : (l.length : Int) = dp) (IH : yCM w B P P0 x rr sr st rs ns ex sl H (d + 2 * n + 13) n (dp + 1)) : ∀ (k i : Nat) (A : xb_H) (es : List (Int × List Int)) (vv : Nat → Nat), i + k = (xv_p t).length → ycs A B P vv (.ref x) es l → yin A P0 x rr sr st rs ns ex → yt A P (n + 1) a k1 t → yt A P (n + 1) b k2 u → es.length + (xme (xcm sl H st n) (xv_p u) l ((xv_p t).drop i)).length ≤ 100000 → (∀ A' : xb_H, yco A A' B P (.ref x) es (xme (xcm sl H st n) (xv_p u) l ((xv_p t).drop i)) l → Q (.inl none) A') → xr_ok (xt_G w) (d + 2 * n + 14) 199 3 [(4, .int (Int32.ofInt (i : Int))), (0, .ref 71), (1, .ref a), (2, .ref b), (3, .int (Int32.ofInt dp))] [] A Q := by
  intro k
  induction k using Nat.strongRecOn with
  | _ k ih =>
    intro i A es vv hk hcs hi h1 h2 hle hQ
    have hlu := hw1.2.2.2.2.2.1
    refine xr_steps (pc' := 6) (L' := [(4, .int (Int32.ofInt (i : Int))), (0, .ref 71), (1, .ref a), (2, .ref b), (3, .int (Int32.ofInt dp))]) (st' := [.ref a, .int (Int32.ofInt (i : Int))]) 2 rfl ?_
    refine xr_call (q := (.invokevirtual 110, 3, 149, 1)) (av := [.ref a]) (rest := [.int (Int32.ofInt (i : Int))]) rfl rfl (by decide) rfl (xr_rcv rfl (yt_obj h1).choose_spec) (Nat.le_of_ble_eq_true rfl) (mt_149 h1) ?_
    rintro _ _ ⟨rfl, eA⟩
    rw [eA]
    clear eA
    refine xr_icmp_ge rfl (by omega) (by omega) (fun z31 => ?_) (fun z31 => ?_)
    · obtain rfl : k = 0 := by omega
      refine xr_retN rfl rfl (hQ A ?_)
      rw [show i = (xv_p t).length by omega, List.drop_length]
      exact yco_nil hcs
    · refine xr_steps (pc' := 15) (L' := [(4, .int (Int32.ofInt (i : Int))), (0, .ref 71), (1, .ref a), (2, .ref b), (3, .int (Int32.ofInt dp))]) (st' := [.int (Int32.ofInt (i : Int)), .ref a]) 2 rfl ?_
      refine xr_call (q := (.invokevirtual 113, 3, 150, 2)) (av := [.ref a, .int (Int32.ofInt (i : Int))]) (rest := []) rfl rfl (by decide) rfl (xr_rcv rfl (yt_obj h1).choose_spec) (Nat.le_of_ble_eq_true rfl) (mt_150 h1 hw1 (by omega)) ?_
      rintro _ _ (⟨q32, x32, i32, e32, rfl, y32, eA⟩ | ⟨rfl, e32, eA⟩)
      · rw [eA]
        clear eA
        have w32 := hw1.2.2.2.2.2.2 q32 (List.mem_of_getElem? e32)
        have hn32 := xwf_n w32.1
        refine xr_steps (pc' := 26) (L' := [(5, .ref x32), (4, .int (Int32.ofInt (i : Int))), (0, .ref 71), (1, .ref a), (2, .ref b), (3, .int (Int32.ofInt dp))]) (st' := [.ref 71]) 4 rfl ?_
        refine xr_getf (v := .ref 72) rfl hcs.2.1 rfl ?_
        refine xr_steps (pc' := 31) (L' := [(5, .ref x32), (4, .int (Int32.ofInt (i : Int))), (0, .ref 71), (1, .ref a), (2, .ref b), (3, .int (Int32.ofInt dp))]) (st' := [.ref x32, .ref 72]) 1 rfl ?_
        refine xr_call (q := (.invokevirtual 123, 3, 200, 1)) (av := [.ref x32]) (rest := [.ref 72]) rfl rfl (by decide) rfl (xr_rcv rfl (yt_objr y32 w32.1).choose_spec) (Nat.le_of_ble_eq_true rfl) (mt_200r y32 w32.1 ⟨w32.2.1, w32.2.2⟩) ?_
        rintro _ _ ⟨rfl, eA⟩
        rw [eA]
        clear eA
        refine xr_call (q := (.invokestatic 127, 3, 78, 1)) (av := [.int (Int32.ofInt q32.1)]) (rest := [.ref 72]) rfl rfl (by decide) rfl rfl (Nat.le_of_ble_eq_true rfl) (mp_78 (by omega)) ?_
        rintro _ _ ⟨rfl, eA⟩
        rw [eA]
        clear eA
        refine xr_call (q := (.invokevirtual 117, 3, 82, 2)) (av := [.ref 72, .int (Int32.ofInt (1000 + q32.1))]) (rest := []) rfl rfl (by decide) rfl (xr_rcv rfl hcs.2.2.1.choose_spec.1) (Nat.le_of_ble_eq_true rfl) (mp_82 hcs.2.2.1 (by omega) (by omega)) ?_
        rintro _ B33 ⟨rfl, hp33, fr33⟩
        have cs33 := ycs_path hcs hp33 fr33
        have kp33 := ykp_path hP fr33
        have t34 := yt_keep (n + 1) P kp33.2.2 _ _ _ h1
        have t35 := yt_keep (n + 1) P kp33.2.2 _ _ _ h2
        have t36 := yt_keep n P kp33.2.2 _ _ _ y32
        have i37 := yin_kp hi kp33 hPP hPx
        refine xr_steps (pc' := 43) (L' := [(5, .ref x32), (4, .int (Int32.ofInt (i : Int))), (0, .ref 71), (1, .ref a), (2, .ref b), (3, .int (Int32.ofInt dp))]) (st' := [.ref x32, .ref b]) 2 rfl ?_
        refine xr_call (q := (.invokevirtual 123, 3, 200, 1)) (av := [.ref x32]) (rest := [.ref b]) rfl rfl (by decide) rfl (xr_rcv rfl (yt_objr t36 w32.1).choose_spec) (Nat.le_of_ble_eq_true rfl) (mt_200r t36 w32.1 ⟨w32.2.1, w32.2.2⟩) ?_
        rintro _ _ ⟨rfl, eA⟩
        rw [eA]
        clear eA
        refine xr_call (q := (.invokevirtual 131, 3, 126, 2)) (av := [.ref b, .int (Int32.ofInt q32.1)]) (rest := []) rfl rfl (by decide) rfl (xr_rcv rfl (yt_obj t35).choose_spec) (Nat.le_of_ble_eq_true rfl) (mt_126 t35 hw2 (by omega)) ?_
        rintro _ _ (⟨u38, x38, e38, rfl, y38, eA⟩ | ⟨rfl, e38, eA⟩)
        · rw [eA]
          clear eA
          obtain ⟨v38, mv38, ev38, ew38⟩ := xmem_mem _ _ _ e38
          have wm := (hw2.2.2.2.2.2.2 v38 mv38).1
          rw [ev38] at wm
          refine xr_steps (pc' := 51) (L' := [(6, .ref x38), (5, .ref x32), (4, .int (Int32.ofInt (i : Int))), (0, .ref 71), (1, .ref a), (2, .ref b), (3, .int (Int32.ofInt dp))]) (st' := []) 1 rfl ?_
          have hd : xme (xcm sl H st n) (xv_p u) l ((xv_p t).drop i) = xcm sl H st n q32.2 u38 (l ++ [1000 + q32.1]) ++ xme (xcm sl H st n) (xv_p u) l ((xv_p t).drop (i + 1)) := by rw [xp_drop (show (xv_p t)[i]? = some q32 from e32), xme, e38]
          rw [hd, List.length_append] at hle
          refine xr_steps (pc' := 71) (L' := [(6, .ref x38), (5, .ref x32), (4, .int (Int32.ofInt (i : Int))), (0, .ref 71), (1, .ref a), (2, .ref b), (3, .int (Int32.ofInt dp))]) (st' := [.int (Int32.ofInt 1), .int (Int32.ofInt dp), .ref x38, .ref x32, .ref 71]) 7 rfl ?_
          refine xr_iadd rfl ?_
          refine xr_call (q := (.invokevirtual 44, 3, 175, 4)) (av := [.ref 71, .ref x32, .ref x38, .int (Int32.ofInt (dp + 1))]) (rest := []) rfl rfl (by decide) rfl (xr_rcv rfl cs33.2.1) (Nat.le_of_ble_eq_true rfl) (IH cs33 i37 t36 y38 w32.1 wm (xok_app hs (by omega)) (by rw [List.length_append, List.length_singleton]; omega) (by omega)) ?_
          rintro _ B39 ⟨rfl, co39⟩
          obtain ⟨vv39, cs39, kp39⟩ := id co39
          have t40 := yt_keep (n + 1) P kp39.2.2 _ _ _ t34
          have t41 := yt_keep (n + 1) P kp39.2.2 _ _ _ t35
          have t42 := yt_keep n P kp39.2.2 _ _ _ t36
          have t43 := yt_keep n P kp39.2.2 _ _ _ y38
          have i44 := yin_kp i37 kp39 hPP hPx
          refine xr_steps (pc' := 76) (L' := [(6, .ref x38), (5, .ref x32), (4, .int (Int32.ofInt (i : Int))), (0, .ref 71), (1, .ref a), (2, .ref b), (3, .int (Int32.ofInt dp))]) (st' := [.ref 71]) 1 rfl ?_
          refine xr_getf (v := .ref 72) rfl cs39.2.1 rfl ?_
          refine xr_call (q := (.invokevirtual 120, 3, 198, 1)) (av := [.ref 72]) (rest := []) rfl rfl (by decide) rfl (xr_rcv rfl cs39.2.2.1.choose_spec.1) (Nat.le_of_ble_eq_true rfl) (mp_198 (l := l) cs39.2.2.1) ?_
          rintro _ B45 ⟨rfl, hp45, fr45⟩
          have fz45 : yfr B39 B45 [72, 73] 0 0 := yfr_mono fr45 (fun z hz => Or.inl (by rw [List.mem_singleton] at hz; rw [hz]; decide)) (Nat.le_refl _) (Nat.le_refl _)
          have cs45 := ycs_path cs39 hp45 fz45
          have kp45 := ykp_path hP fz45
          have t46 := yt_keep (n + 1) P kp45.2.2 _ _ _ t40
          have t47 := yt_keep (n + 1) P kp45.2.2 _ _ _ t41
          have t48 := yt_keep n P kp45.2.2 _ _ _ t42
          have t49 := yt_keep n P kp45.2.2 _ _ _ t43
          have i50 := yin_kp i44 kp45 hPP hPx
          refine xr_iinc (L' := [(4, .int (Int32.ofInt ((i : Int) + 1))), (6, .ref x38), (5, .ref x32), (0, .ref 71), (1, .ref a), (2, .ref b), (3, .int (Int32.ofInt dp))]) rfl rfl rfl ?_
          refine xr_steps (pc' := 3) (L' := [(4, .int (Int32.ofInt ((i : Int) + 1))), (6, .ref x38), (5, .ref x32), (0, .ref 71), (1, .ref a), (2, .ref b), (3, .int (Int32.ofInt dp))]) (st' := []) 1 rfl ?_
          refine xr_loc (L := [(4, .int (Int32.ofInt ((i : Int) + 1))), (0, .ref 71), (1, .ref a), (2, .ref b), (3, .int (Int32.ofInt dp))]) (show [4, 0, 1, 2, 3].Nodup by decide) ⟨rfl, rfl, rfl, rfl, rfl, trivial⟩ ?_
          rw [show (i : Int) + 1 = ((i + 1 : Nat) : Int) by omega]
          have co := yco_in hP fr33 co39 fz45 hp45
          refine ih (k - 1) (by omega) (i + 1) B45 _ _ (by omega) cs45 i50 t46 t47 (by rw [List.length_append]; omega) (fun A' h => hQ A' ?_)
          have h2 := yco_trans co h
          rw [hd]
          exact h2
        · rw [eA]
          clear eA
          refine xr_steps (pc' := 51) (L' := [(6, .null), (5, .ref x32), (4, .int (Int32.ofInt (i : Int))), (0, .ref 71), (1, .ref a), (2, .ref b), (3, .int (Int32.ofInt dp))]) (st' := []) 1 rfl ?_
          have hd : xme (xcm sl H st n) (xv_p u) l ((xv_p t).drop i) = [(3, l ++ [1000 + q32.1])] ++ xme (xcm sl H st n) (xv_p u) l ((xv_p t).drop (i + 1)) := by rw [xp_drop (show (xv_p t)[i]? = some q32 from e32), xme, e38]
          rw [hd, List.length_append] at hle
          refine xr_steps (pc' := 58) (L' := [(6, .null), (5, .ref x32), (4, .int (Int32.ofInt (i : Int))), (0, .ref 71), (1, .ref a), (2, .ref b), (3, .int (Int32.ofInt dp))]) (st' := [.int (Int32.ofInt 3), .ref 71]) 4 rfl ?_
          refine xr_call (q := (.invokevirtual 70, 3, 177, 2)) (av := [.ref 71, .int (Int32.ofInt 3)]) (rest := []) rfl rfl (by decide) rfl (xr_rcv rfl cs33.2.1) (Nat.le_of_ble_eq_true rfl) (mn_177 (kd := 3) hP cs33 (xok_app hs (by omega)) (by omega)) ?_
          rintro _ B51 ⟨rfl, co51⟩
          obtain ⟨vv51, cs51, kp51⟩ := id co51
          have t52 := yt_keep (n + 1) P kp51.2.2 _ _ _ t34
          have t53 := yt_keep (n + 1) P kp51.2.2 _ _ _ t35
          have t54 := yt_keep n P kp51.2.2 _ _ _ t36
          have i55 := yin_kp i37 kp51 hPP hPx
          refine xr_steps (pc' := 76) (L' := [(6, .null), (5, .ref x32), (4, .int (Int32.ofInt (i : Int))), (0, .ref 71), (1, .ref a), (2, .ref b), (3, .int (Int32.ofInt dp))]) (st' := [.ref 71]) 2 rfl ?_
          refine xr_getf (v := .ref 72) rfl cs51.2.1 rfl ?_
          refine xr_call (q := (.invokevirtual 120, 3, 198, 1)) (av := [.ref 72]) (rest := []) rfl rfl (by decide) rfl (xr_rcv rfl cs51.2.2.1.choose_spec.1) (Nat.le_of_ble_eq_true rfl) (mp_198 (l := l) cs51.2.2.1) ?_
          rintro _ B56 ⟨rfl, hp56, fr56⟩
          have fz56 : yfr B51 B56 [72, 73] 0 0 := yfr_mono fr56 (fun z hz => Or.inl (by rw [List.mem_singleton] at hz; rw [hz]; decide)) (Nat.le_refl _) (Nat.le_refl _)
          have cs56 := ycs_path cs51 hp56 fz56
          have kp56 := ykp_path hP fz56
          have t57 := yt_keep (n + 1) P kp56.2.2 _ _ _ t52
          have t58 := yt_keep (n + 1) P kp56.2.2 _ _ _ t53
          have t59 := yt_keep n P kp56.2.2 _ _ _ t54
          have i60 := yin_kp i55 kp56 hPP hPx
          refine xr_iinc (L' := [(4, .int (Int32.ofInt ((i : Int) + 1))), (6, .null), (5, .ref x32), (0, .ref 71), (1, .ref a), (2, .ref b), (3, .int (Int32.ofInt dp))]) rfl rfl rfl ?_
          refine xr_steps (pc' := 3) (L' := [(4, .int (Int32.ofInt ((i : Int) + 1))), (6, .null), (5, .ref x32), (0, .ref 71), (1, .ref a), (2, .ref b), (3, .int (Int32.ofInt dp))]) (st' := []) 1 rfl ?_
          refine xr_loc (L := [(4, .int (Int32.ofInt ((i : Int) + 1))), (0, .ref 71), (1, .ref a), (2, .ref b), (3, .int (Int32.ofInt dp))]) (show [4, 0, 1, 2, 3].Nodup by decide) ⟨rfl, rfl, rfl, rfl, rfl, trivial⟩ ?_
          rw [show (i : Int) + 1 = ((i + 1 : Nat) : Int) by omega]
          have co := yco_in hP fr33 co51 fz56 hp56
          refine ih (k - 1) (by omega) (i + 1) B56 _ _ (by omega) cs56 i60 t57 t58 (by rw [List.length_append]; omega) (fun A' h => hQ A' ?_)
          have h2 := yco_trans co h
          rw [hd]
          exact h2
      · exfalso; omega
theorem mn_199 {A : xb_H} {es : List (Int × List Int)} {vv : Nat → Nat} {d n a b : Nat} {k1 k2 : Int} {t u : xv (n + 1)} {l : List Int} {dp : Int} (hP : ∀ y, P y → y < B ∧ (y < 71 ∨ 165 ≤ y)) (hPP : ∀ y, P0 y → P y) (hPx : P x ∧ P rr ∧ P sr) (hw1 : xwf (n + 1) t) (hw2 : xwf (n + 1) u) (hs : xok l) (hln : l.length + n = 5) (hdp : (l.length : Int) = dp) (IH : yCM w B P P0 x rr sr st rs ns ex sl H (d + 2 * n + 13) n (dp + 1)) (hcs : ycs A B P vv (.ref x) es l) (hi : yin A P0 x rr sr st rs ns ex) (h1 : yt A P (n + 1) a k1 t) (h2 : yt A P (n + 1) b k2 u) (hle : es.length + (xme (xcm sl H st n) (xv_p u) l (xv_p t)).length ≤ 100000) : xr_ok (xt_G w) (d + 2 * n + 14) 199 0 [(0, .ref 71), (1, .ref a), (2, .ref b), (3, .int (Int32.ofInt dp))] [] A (fun o A' => ∃ v0, o = .inl v0 ∧ v0 = none ∧ yco A A' B P (.ref x) es (xme (xcm sl H st n) (xv_p u) l (xv_p t)) l) := by
  refine xr_steps (pc' := 3) (L' := [(4, .int (Int32.ofInt 0)), (0, .ref 71), (1, .ref a), (2, .ref b), (3, .int (Int32.ofInt dp))]) (st' := []) 2 rfl ?_
  exact mn_199l hP hPP hPx hw1 hw2 hs hln hdp IH (xv_p t).length 0 A es vv (by omega) hcs hi h1 h2 hle (fun A2 e => ⟨_, rfl, rfl, e⟩)
end CO
/-! Two arrays are compared; compare itself -/
section CQ
variable {w : Value} {B : Nat} {P P0 : Nat → Prop} {x rr sr : Nat} {st : Int} {rs : List (List Int × List (Int × Int × List Int) × Int)} {ns : List Int} {ex : Option (xv 6)} {sl : List Int → Bool} {H : (n : Nat) → xv (n + 1) → xv (n + 1) → List Int → Nat} {Q : xb_R → xb_H → Prop}
theorem xcm_bad {n : Nat} {t u : xv (n + 1)} {l : List Int} (h : H n t u l = 0) : xcm sl H st (n + 1) t u l = [(if sl l = true then 5 else 1, l)] := if_pos h
theorem xcm_arr {n : Nat} {t u : xv (n + 1)} {l : List Int} (h : ¬ H n t u l = 0) (h4 : xv_k t = 4 ∧ xv_k u = 4) : xcm sl H st (n + 1) t u l = (if ¬ H n t u l = 3 ∧ ¬ (xv_p t).length = (xv_p u).length then [(2, l)] else []) ++ xel (xcm sl H st n) (xv_p t) (decide (H n t u l = 3)) l (xv_p u) 0 := by
  rw [xcm, if_neg h, if_pos h4]
theorem xcm_obj {n : Nat} {t u : xv (n + 1)} {l : List Int} (h : ¬ H n t u l = 0) (h5 : xv_k t = 5 ∧ xv_k u = 5) : xcm sl H st (n + 1) t u l = xme (xcm sl H st n) (xv_p u) l (xv_p t) ++ (if st = 1 then xun (xv_p t) l (xv_p u) else []) := by
  rw [xcm, if_neg h, if_neg (by omega), if_pos h5]
theorem xcm_els {n : Nat} {t u : xv (n + 1)} {l : List Int} (h : ¬ H n t u l = 0) (h4 : ¬ (xv_k t = 4 ∧ xv_k u = 4)) (h5 : ¬ (xv_k t = 5 ∧ xv_k u = 5)) : xcm sl H st (n + 1) t u l = [] := by
  rw [xcm, if_neg h, if_neg h4, if_neg h5]
theorem mn_197l {d n a b : Nat} {k1 k2 : Int} {t u : xv (n + 1)} {l : List Int} {dp lo : Int} {lb : Bool} (hP : ∀ y, P y → y < B ∧ (y < 71 ∨ 165 ≤ y)) (hPP : ∀ y, P0 y → P y) (hPx : P x ∧ P rr ∧ P sr) (hw1 : xwf (n + 1) t) (hw2 : xwf (n + 1) u) (hs : xok l) (hln : l.length + n = 5) (hdp : (l.length : Int) = dp) (IH : yCM w B P P0 x rr sr st rs ns ex sl H (d + 2 * n + 13) n (dp + 1)) (hlo : lo = 0 ∨ lo = 1) (hlb : lb = true ↔ lo = 1) (h50 : (xv_p u).length ≤ 100) : ∀ (k i : Nat) (A : xb_H) (es : List (Int × List Int)) (vv : Nat → Nat), i + k = (xv_p u).length → ycs A B P vv (.ref x) es l → yin A P0 x rr sr st rs ns ex → yt A P (n + 1) a k1 t → yt A P (n + 1) b k2 u → es.length + (xel (xcm sl H st n) (xv_p t) lb l ((xv_p u).drop i) i).length ≤ 100000 → (∀ A' : xb_H, yco A A' B P (.ref x) es (xel (xcm sl H st n) (xv_p t) lb l ((xv_p u).drop i) i) l → Q (.inl none) A') → xr_ok (xt_G w) (d + 2 * n + 14) 197 31 [(6, .int (Int32.ofInt (i : Int))), (5, .int (Int32.ofInt (((xv_p t).length : Int) - 1))), (0, .ref 71), (1, .ref a), (2, .ref b), (3, .int (Int32.ofInt lo)), (4, .int (Int32.ofInt dp))] [] A Q := by
  intro k
  induction k using Nat.strongRecOn with
  | _ k ih =>
    intro i A es vv hk hcs hi h1 h2 hle hQ
    have hlu := hw2.2.2.2.2.2.1
    have hlt := hw1.2.2.2.2.2.1
    refine xr_steps (pc' := 34) (L' := [(6, .int (Int32.ofInt (i : Int))), (5, .int (Int32.ofInt (((xv_p t).length : Int) - 1))), (0, .ref 71), (1, .ref a), (2, .ref b), (3, .int (Int32.ofInt lo)), (4, .int (Int32.ofInt dp))]) (st' := [.ref b, .int (Int32.ofInt (i : Int))]) 2 rfl ?_
    refine xr_call (q := (.invokevirtual 110, 3, 149, 1)) (av := [.ref b]) (rest := [.int (Int32.ofInt (i : Int))]) rfl rfl (by decide) rfl (xr_rcv rfl (yt_obj h2).choose_spec) (Nat.le_of_ble_eq_true rfl) (mt_149 h2) ?_
    rintro _ _ ⟨rfl, eA⟩
    rw [eA]
    clear eA
    refine xr_icmp_ge rfl (by omega) (by omega) (fun z31 => ?_) (fun z31 => ?_)
    · obtain rfl : k = 0 := by omega
      refine xr_retN rfl rfl (hQ A ?_)
      rw [show i = (xv_p u).length by omega, List.drop_length]
      exact yco_nil hcs
    · refine xr_steps (pc' := 42) (L' := [(6, .int (Int32.ofInt (i : Int))), (5, .int (Int32.ofInt (((xv_p t).length : Int) - 1))), (0, .ref 71), (1, .ref a), (2, .ref b), (3, .int (Int32.ofInt lo)), (4, .int (Int32.ofInt dp))]) (st' := [.int (Int32.ofInt lo), .ref a]) 2 rfl ?_
      refine xr_if_eq rfl (by omega) (fun z32 => ?_) (fun z32 => ?_)
      · refine xr_steps (pc' := 59) (L' := [(6, .int (Int32.ofInt (i : Int))), (5, .int (Int32.ofInt (((xv_p t).length : Int) - 1))), (0, .ref 71), (1, .ref a), (2, .ref b), (3, .int (Int32.ofInt lo)), (4, .int (Int32.ofInt dp))]) (st' := [.int (Int32.ofInt (i : Int)), .ref a]) 1 rfl ?_
        refine xr_call (q := (.invokevirtual 113, 3, 150, 2)) (av := [.ref a, .int (Int32.ofInt (i : Int))]) (rest := []) rfl rfl (by decide) rfl (xr_rcv rfl (yt_obj h1).choose_spec) (Nat.le_of_ble_eq_true rfl) (mt_150 h1 hw1 (by omega)) ?_
        rintro _ _ (⟨q33, x33, i33, e33, rfl, y33, eA⟩ | ⟨rfl, e33, eA⟩)
        · rw [eA]
          clear eA
          have w33 := hw1.2.2.2.2.2.2 q33 (List.mem_of_getElem? e33)
          have hn33 := xwf_n w33.1
          refine xr_steps (pc' := 67) (L' := [(7, .ref x33), (6, .int (Int32.ofInt (i : Int))), (5, .int (Int32.ofInt (((xv_p t).length : Int) - 1))), (0, .ref 71), (1, .ref a), (2, .ref b), (3, .int (Int32.ofInt lo)), (4, .int (Int32.ofInt dp))]) (st' := [.int (Int32.ofInt (i : Int)), .ref b]) 3 rfl ?_
          refine xr_call (q := (.invokevirtual 113, 3, 150, 2)) (av := [.ref b, .int (Int32.ofInt (i : Int))]) (rest := []) rfl rfl (by decide) rfl (xr_rcv rfl (yt_obj h2).choose_spec) (Nat.le_of_ble_eq_true rfl) (mt_150 h2 hw2 (by omega)) ?_
          rintro _ _ (⟨q34, x34, i34, e34, rfl, y34, eA⟩ | ⟨rfl, e34, eA⟩)
          · rw [eA]
            clear eA
            have w34 := hw2.2.2.2.2.2.2 q34 (List.mem_of_getElem? e34)
            have hn34 := xwf_n w34.1
            refine xr_steps (pc' := 72) (L' := [(8, .ref x34), (7, .ref x33), (6, .int (Int32.ofInt (i : Int))), (5, .int (Int32.ofInt (((xv_p t).length : Int) - 1))), (0, .ref 71), (1, .ref a), (2, .ref b), (3, .int (Int32.ofInt lo)), (4, .int (Int32.ofInt dp))]) (st' := []) 1 rfl ?_
            have hx : (xv_p t)[(if lb = true ∧ (xv_p t).length ≤ i then (xv_p t).length - 1 else i)]? = some q33 := by rw [if_neg (fun h => absurd (hlb.1 h.1) (by omega))]; exact e33
            have hd : xel (xcm sl H st n) (xv_p t) lb l ((xv_p u).drop i) i = xcm sl H st n q33.2 q34.2 (l ++ [(i : Int)]) ++ xel (xcm sl H st n) (xv_p t) lb l ((xv_p u).drop (i + 1)) (i + 1) := by rw [xp_drop (show (xv_p u)[i]? = some q34 from e34), xel, hx]
            rw [hd, List.length_append] at hle
            refine xr_steps (pc' := 83) (L' := [(8, .ref x34), (7, .ref x33), (6, .int (Int32.ofInt (i : Int))), (5, .int (Int32.ofInt (((xv_p t).length : Int) - 1))), (0, .ref 71), (1, .ref a), (2, .ref b), (3, .int (Int32.ofInt lo)), (4, .int (Int32.ofInt dp))]) (st' := [.ref 71]) 5 rfl ?_
            refine xr_getf (v := .ref 72) rfl hcs.2.1 rfl ?_
            refine xr_steps (pc' := 88) (L' := [(8, .ref x34), (7, .ref x33), (6, .int (Int32.ofInt (i : Int))), (5, .int (Int32.ofInt (((xv_p t).length : Int) - 1))), (0, .ref 71), (1, .ref a), (2, .ref b), (3, .int (Int32.ofInt lo)), (4, .int (Int32.ofInt dp))]) (st' := [.int (Int32.ofInt (i : Int)), .ref 72]) 1 rfl ?_
            refine xr_call (q := (.invokevirtual 117, 3, 82, 2)) (av := [.ref 72, .int (Int32.ofInt (i : Int))]) (rest := []) rfl rfl (by decide) rfl (xr_rcv rfl hcs.2.2.1.choose_spec.1) (Nat.le_of_ble_eq_true rfl) (mp_82 hcs.2.2.1 (by omega) (by omega)) ?_
            rintro _ B35 ⟨rfl, hp35, fr35⟩
            have cs35 := ycs_path hcs hp35 fr35
            have kp35 := ykp_path hP fr35
            have t36 := yt_keep (n + 1) P kp35.2.2 _ _ _ h1
            have t37 := yt_keep (n + 1) P kp35.2.2 _ _ _ h2
            have t38 := yt_keep n P kp35.2.2 _ _ _ y33
            have t39 := yt_keep n P kp35.2.2 _ _ _ y34
            have i40 := yin_kp hi kp35 hPP hPx
            refine xr_steps (pc' := 99) (L' := [(8, .ref x34), (7, .ref x33), (6, .int (Int32.ofInt (i : Int))), (5, .int (Int32.ofInt (((xv_p t).length : Int) - 1))), (0, .ref 71), (1, .ref a), (2, .ref b), (3, .int (Int32.ofInt lo)), (4, .int (Int32.ofInt dp))]) (st' := [.int (Int32.ofInt 1), .int (Int32.ofInt dp), .ref x34, .ref x33, .ref 71]) 5 rfl ?_
            refine xr_iadd rfl ?_
            refine xr_call (q := (.invokevirtual 44, 3, 175, 4)) (av := [.ref 71, .ref x33, .ref x34, .int (Int32.ofInt (dp + 1))]) (rest := []) rfl rfl (by decide) rfl (xr_rcv rfl cs35.2.1) (Nat.le_of_ble_eq_true rfl) (IH cs35 i40 t38 t39 w33.1 w34.1 (xok_app hs (by omega)) (by rw [List.length_append, List.length_singleton]; omega) (by omega)) ?_
            rintro _ B41 ⟨rfl, co41⟩
            obtain ⟨vv41, cs41, kp41⟩ := id co41
            have t42 := yt_keep (n + 1) P kp41.2.2 _ _ _ t36
            have t43 := yt_keep (n + 1) P kp41.2.2 _ _ _ t37
            have t44 := yt_keep n P kp41.2.2 _ _ _ t38
            have t45 := yt_keep n P kp41.2.2 _ _ _ t39
            have i46 := yin_kp i40 kp41 hPP hPx
            refine xr_steps (pc' := 104) (L' := [(8, .ref x34), (7, .ref x33), (6, .int (Int32.ofInt (i : Int))), (5, .int (Int32.ofInt (((xv_p t).length : Int) - 1))), (0, .ref 71), (1, .ref a), (2, .ref b), (3, .int (Int32.ofInt lo)), (4, .int (Int32.ofInt dp))]) (st' := [.ref 71]) 1 rfl ?_
            refine xr_getf (v := .ref 72) rfl cs41.2.1 rfl ?_
            refine xr_call (q := (.invokevirtual 120, 3, 198, 1)) (av := [.ref 72]) (rest := []) rfl rfl (by decide) rfl (xr_rcv rfl cs41.2.2.1.choose_spec.1) (Nat.le_of_ble_eq_true rfl) (mp_198 (l := l) cs41.2.2.1) ?_
            rintro _ B47 ⟨rfl, hp47, fr47⟩
            have fz47 : yfr B41 B47 [72, 73] 0 0 := yfr_mono fr47 (fun z hz => Or.inl (by rw [List.mem_singleton] at hz; rw [hz]; decide)) (Nat.le_refl _) (Nat.le_refl _)
            have cs47 := ycs_path cs41 hp47 fz47
            have kp47 := ykp_path hP fz47
            have t48 := yt_keep (n + 1) P kp47.2.2 _ _ _ t42
            have t49 := yt_keep (n + 1) P kp47.2.2 _ _ _ t43
            have t50 := yt_keep n P kp47.2.2 _ _ _ t44
            have t51 := yt_keep n P kp47.2.2 _ _ _ t45
            have i52 := yin_kp i46 kp47 hPP hPx
            refine xr_iinc (L' := [(6, .int (Int32.ofInt ((i : Int) + 1))), (8, .ref x34), (7, .ref x33), (5, .int (Int32.ofInt (((xv_p t).length : Int) - 1))), (0, .ref 71), (1, .ref a), (2, .ref b), (3, .int (Int32.ofInt lo)), (4, .int (Int32.ofInt dp))]) rfl rfl rfl ?_
            refine xr_steps (pc' := 31) (L' := [(6, .int (Int32.ofInt ((i : Int) + 1))), (8, .ref x34), (7, .ref x33), (5, .int (Int32.ofInt (((xv_p t).length : Int) - 1))), (0, .ref 71), (1, .ref a), (2, .ref b), (3, .int (Int32.ofInt lo)), (4, .int (Int32.ofInt dp))]) (st' := []) 1 rfl ?_
            refine xr_loc (L := [(6, .int (Int32.ofInt ((i : Int) + 1))), (5, .int (Int32.ofInt (((xv_p t).length : Int) - 1))), (0, .ref 71), (1, .ref a), (2, .ref b), (3, .int (Int32.ofInt lo)), (4, .int (Int32.ofInt dp))]) (show [6, 5, 0, 1, 2, 3, 4].Nodup by decide) ⟨rfl, rfl, rfl, rfl, rfl, rfl, rfl, trivial⟩ ?_
            rw [show (i : Int) + 1 = ((i + 1 : Nat) : Int) by omega]
            have co := yco_in hP fr35 co41 fz47 hp47
            refine ih (k - 1) (by omega) (i + 1) B47 _ _ (by omega) cs47 i52 t48 t49 (by rw [List.length_append]; omega) (fun A' h => hQ A' ?_)
            have h2 := yco_trans co h
            rw [hd]
            exact h2
          · exfalso; omega
        · rw [eA]
          clear eA
          refine xr_steps (pc' := 67) (L' := [(7, .null), (6, .int (Int32.ofInt (i : Int))), (5, .int (Int32.ofInt (((xv_p t).length : Int) - 1))), (0, .ref 71), (1, .ref a), (2, .ref b), (3, .int (Int32.ofInt lo)), (4, .int (Int32.ofInt dp))]) (st' := [.int (Int32.ofInt (i : Int)), .ref b]) 3 rfl ?_
          refine xr_call (q := (.invokevirtual 113, 3, 150, 2)) (av := [.ref b, .int (Int32.ofInt (i : Int))]) (rest := []) rfl rfl (by decide) rfl (xr_rcv rfl (yt_obj h2).choose_spec) (Nat.le_of_ble_eq_true rfl) (mt_150 h2 hw2 (by omega)) ?_
          rintro _ _ (⟨q53, x53, i53, e53, rfl, y53, eA⟩ | ⟨rfl, e53, eA⟩)
          · rw [eA]
            clear eA
            have w53 := hw2.2.2.2.2.2.2 q53 (List.mem_of_getElem? e53)
            have hn53 := xwf_n w53.1
            refine xr_steps (pc' := 72) (L' := [(8, .ref x53), (7, .null), (6, .int (Int32.ofInt (i : Int))), (5, .int (Int32.ofInt (((xv_p t).length : Int) - 1))), (0, .ref 71), (1, .ref a), (2, .ref b), (3, .int (Int32.ofInt lo)), (4, .int (Int32.ofInt dp))]) (st' := []) 1 rfl ?_
            have hx : (xv_p t)[(if lb = true ∧ (xv_p t).length ≤ i then (xv_p t).length - 1 else i)]? = none := by rw [if_neg (fun h => absurd (hlb.1 h.1) (by omega))]; exact List.getElem?_eq_none (by omega)
            have hd : xel (xcm sl H st n) (xv_p t) lb l ((xv_p u).drop i) i = [] ++ xel (xcm sl H st n) (xv_p t) lb l ((xv_p u).drop (i + 1)) (i + 1) := by rw [xp_drop (show (xv_p u)[i]? = some q53 from e53), xel, hx]
            rw [hd, List.length_append] at hle
            refine xr_steps (pc' := 110) (L' := [(8, .ref x53), (7, .null), (6, .int (Int32.ofInt (i : Int))), (5, .int (Int32.ofInt (((xv_p t).length : Int) - 1))), (0, .ref 71), (1, .ref a), (2, .ref b), (3, .int (Int32.ofInt lo)), (4, .int (Int32.ofInt dp))]) (st' := []) 2 rfl ?_
            refine xr_iinc (L' := [(6, .int (Int32.ofInt ((i : Int) + 1))), (8, .ref x53), (7, .null), (5, .int (Int32.ofInt (((xv_p t).length : Int) - 1))), (0, .ref 71), (1, .ref a), (2, .ref b), (3, .int (Int32.ofInt lo)), (4, .int (Int32.ofInt dp))]) rfl rfl rfl ?_
            refine xr_steps (pc' := 31) (L' := [(6, .int (Int32.ofInt ((i : Int) + 1))), (8, .ref x53), (7, .null), (5, .int (Int32.ofInt (((xv_p t).length : Int) - 1))), (0, .ref 71), (1, .ref a), (2, .ref b), (3, .int (Int32.ofInt lo)), (4, .int (Int32.ofInt dp))]) (st' := []) 1 rfl ?_
            refine xr_loc (L := [(6, .int (Int32.ofInt ((i : Int) + 1))), (5, .int (Int32.ofInt (((xv_p t).length : Int) - 1))), (0, .ref 71), (1, .ref a), (2, .ref b), (3, .int (Int32.ofInt lo)), (4, .int (Int32.ofInt dp))]) (show [6, 5, 0, 1, 2, 3, 4].Nodup by decide) ⟨rfl, rfl, rfl, rfl, rfl, rfl, rfl, trivial⟩ ?_
            rw [show (i : Int) + 1 = ((i + 1 : Nat) : Int) by omega]
            refine ih (k - 1) (by omega) (i + 1) A _ _ (by omega) hcs hi h1 h2 (by rw [List.length_nil] at hle; omega) (fun A' h => hQ A' ?_)
            rw [hd]
            exact h
          · exfalso; omega
      · refine xr_steps (pc' := 49) (L' := [(6, .int (Int32.ofInt (i : Int))), (5, .int (Int32.ofInt (((xv_p t).length : Int) - 1))), (0, .ref 71), (1, .ref a), (2, .ref b), (3, .int (Int32.ofInt lo)), (4, .int (Int32.ofInt dp))]) (st' := [.int (Int32.ofInt (((xv_p t).length : Int) - 1)), .int (Int32.ofInt (i : Int)), .ref a]) 2 rfl ?_
        refine xr_icmp_le rfl (by omega) (by omega) (fun z54 => ?_) (fun z54 => ?_)
        · refine xr_steps (pc' := 59) (L' := [(6, .int (Int32.ofInt (i : Int))), (5, .int (Int32.ofInt (((xv_p t).length : Int) - 1))), (0, .ref 71), (1, .ref a), (2, .ref b), (3, .int (Int32.ofInt lo)), (4, .int (Int32.ofInt dp))]) (st' := [.int (Int32.ofInt (i : Int)), .ref a]) 1 rfl ?_
          refine xr_call (q := (.invokevirtual 113, 3, 150, 2)) (av := [.ref a, .int (Int32.ofInt (i : Int))]) (rest := []) rfl rfl (by decide) rfl (xr_rcv rfl (yt_obj h1).choose_spec) (Nat.le_of_ble_eq_true rfl) (mt_150 h1 hw1 (by omega)) ?_
          rintro _ _ (⟨q55, x55, i55, e55, rfl, y55, eA⟩ | ⟨rfl, e55, eA⟩)
          · rw [eA]
            clear eA
            have w55 := hw1.2.2.2.2.2.2 q55 (List.mem_of_getElem? e55)
            have hn55 := xwf_n w55.1
            refine xr_steps (pc' := 67) (L' := [(7, .ref x55), (6, .int (Int32.ofInt (i : Int))), (5, .int (Int32.ofInt (((xv_p t).length : Int) - 1))), (0, .ref 71), (1, .ref a), (2, .ref b), (3, .int (Int32.ofInt lo)), (4, .int (Int32.ofInt dp))]) (st' := [.int (Int32.ofInt (i : Int)), .ref b]) 3 rfl ?_
            refine xr_call (q := (.invokevirtual 113, 3, 150, 2)) (av := [.ref b, .int (Int32.ofInt (i : Int))]) (rest := []) rfl rfl (by decide) rfl (xr_rcv rfl (yt_obj h2).choose_spec) (Nat.le_of_ble_eq_true rfl) (mt_150 h2 hw2 (by omega)) ?_
            rintro _ _ (⟨q56, x56, i56, e56, rfl, y56, eA⟩ | ⟨rfl, e56, eA⟩)
            · rw [eA]
              clear eA
              have w56 := hw2.2.2.2.2.2.2 q56 (List.mem_of_getElem? e56)
              have hn56 := xwf_n w56.1
              refine xr_steps (pc' := 72) (L' := [(8, .ref x56), (7, .ref x55), (6, .int (Int32.ofInt (i : Int))), (5, .int (Int32.ofInt (((xv_p t).length : Int) - 1))), (0, .ref 71), (1, .ref a), (2, .ref b), (3, .int (Int32.ofInt lo)), (4, .int (Int32.ofInt dp))]) (st' := []) 1 rfl ?_
              have hx : (xv_p t)[(if lb = true ∧ (xv_p t).length ≤ i then (xv_p t).length - 1 else i)]? = some q55 := by rw [if_neg (fun h => absurd h.2 (by omega))]; exact e55
              have hd : xel (xcm sl H st n) (xv_p t) lb l ((xv_p u).drop i) i = xcm sl H st n q55.2 q56.2 (l ++ [(i : Int)]) ++ xel (xcm sl H st n) (xv_p t) lb l ((xv_p u).drop (i + 1)) (i + 1) := by rw [xp_drop (show (xv_p u)[i]? = some q56 from e56), xel, hx]
              rw [hd, List.length_append] at hle
              refine xr_steps (pc' := 83) (L' := [(8, .ref x56), (7, .ref x55), (6, .int (Int32.ofInt (i : Int))), (5, .int (Int32.ofInt (((xv_p t).length : Int) - 1))), (0, .ref 71), (1, .ref a), (2, .ref b), (3, .int (Int32.ofInt lo)), (4, .int (Int32.ofInt dp))]) (st' := [.ref 71]) 5 rfl ?_
              refine xr_getf (v := .ref 72) rfl hcs.2.1 rfl ?_
              refine xr_steps (pc' := 88) (L' := [(8, .ref x56), (7, .ref x55), (6, .int (Int32.ofInt (i : Int))), (5, .int (Int32.ofInt (((xv_p t).length : Int) - 1))), (0, .ref 71), (1, .ref a), (2, .ref b), (3, .int (Int32.ofInt lo)), (4, .int (Int32.ofInt dp))]) (st' := [.int (Int32.ofInt (i : Int)), .ref 72]) 1 rfl ?_
              refine xr_call (q := (.invokevirtual 117, 3, 82, 2)) (av := [.ref 72, .int (Int32.ofInt (i : Int))]) (rest := []) rfl rfl (by decide) rfl (xr_rcv rfl hcs.2.2.1.choose_spec.1) (Nat.le_of_ble_eq_true rfl) (mp_82 hcs.2.2.1 (by omega) (by omega)) ?_
              rintro _ B57 ⟨rfl, hp57, fr57⟩
              have cs57 := ycs_path hcs hp57 fr57
              have kp57 := ykp_path hP fr57
              have t58 := yt_keep (n + 1) P kp57.2.2 _ _ _ h1
              have t59 := yt_keep (n + 1) P kp57.2.2 _ _ _ h2
              have t60 := yt_keep n P kp57.2.2 _ _ _ y55
              have t61 := yt_keep n P kp57.2.2 _ _ _ y56
              have i62 := yin_kp hi kp57 hPP hPx
              refine xr_steps (pc' := 99) (L' := [(8, .ref x56), (7, .ref x55), (6, .int (Int32.ofInt (i : Int))), (5, .int (Int32.ofInt (((xv_p t).length : Int) - 1))), (0, .ref 71), (1, .ref a), (2, .ref b), (3, .int (Int32.ofInt lo)), (4, .int (Int32.ofInt dp))]) (st' := [.int (Int32.ofInt 1), .int (Int32.ofInt dp), .ref x56, .ref x55, .ref 71]) 5 rfl ?_
              refine xr_iadd rfl ?_
              refine xr_call (q := (.invokevirtual 44, 3, 175, 4)) (av := [.ref 71, .ref x55, .ref x56, .int (Int32.ofInt (dp + 1))]) (rest := []) rfl rfl (by decide) rfl (xr_rcv rfl cs57.2.1) (Nat.le_of_ble_eq_true rfl) (IH cs57 i62 t60 t61 w55.1 w56.1 (xok_app hs (by omega)) (by rw [List.length_append, List.length_singleton]; omega) (by omega)) ?_
              rintro _ B63 ⟨rfl, co63⟩
              obtain ⟨vv63, cs63, kp63⟩ := id co63
              have t64 := yt_keep (n + 1) P kp63.2.2 _ _ _ t58
              have t65 := yt_keep (n + 1) P kp63.2.2 _ _ _ t59
              have t66 := yt_keep n P kp63.2.2 _ _ _ t60
              have t67 := yt_keep n P kp63.2.2 _ _ _ t61
              have i68 := yin_kp i62 kp63 hPP hPx
              refine xr_steps (pc' := 104) (L' := [(8, .ref x56), (7, .ref x55), (6, .int (Int32.ofInt (i : Int))), (5, .int (Int32.ofInt (((xv_p t).length : Int) - 1))), (0, .ref 71), (1, .ref a), (2, .ref b), (3, .int (Int32.ofInt lo)), (4, .int (Int32.ofInt dp))]) (st' := [.ref 71]) 1 rfl ?_
              refine xr_getf (v := .ref 72) rfl cs63.2.1 rfl ?_
              refine xr_call (q := (.invokevirtual 120, 3, 198, 1)) (av := [.ref 72]) (rest := []) rfl rfl (by decide) rfl (xr_rcv rfl cs63.2.2.1.choose_spec.1) (Nat.le_of_ble_eq_true rfl) (mp_198 (l := l) cs63.2.2.1) ?_
              rintro _ B69 ⟨rfl, hp69, fr69⟩
              have fz69 : yfr B63 B69 [72, 73] 0 0 := yfr_mono fr69 (fun z hz => Or.inl (by rw [List.mem_singleton] at hz; rw [hz]; decide)) (Nat.le_refl _) (Nat.le_refl _)
              have cs69 := ycs_path cs63 hp69 fz69
              have kp69 := ykp_path hP fz69
              have t70 := yt_keep (n + 1) P kp69.2.2 _ _ _ t64
              have t71 := yt_keep (n + 1) P kp69.2.2 _ _ _ t65
              have t72 := yt_keep n P kp69.2.2 _ _ _ t66
              have t73 := yt_keep n P kp69.2.2 _ _ _ t67
              have i74 := yin_kp i68 kp69 hPP hPx
              refine xr_iinc (L' := [(6, .int (Int32.ofInt ((i : Int) + 1))), (8, .ref x56), (7, .ref x55), (5, .int (Int32.ofInt (((xv_p t).length : Int) - 1))), (0, .ref 71), (1, .ref a), (2, .ref b), (3, .int (Int32.ofInt lo)), (4, .int (Int32.ofInt dp))]) rfl rfl rfl ?_
              refine xr_steps (pc' := 31) (L' := [(6, .int (Int32.ofInt ((i : Int) + 1))), (8, .ref x56), (7, .ref x55), (5, .int (Int32.ofInt (((xv_p t).length : Int) - 1))), (0, .ref 71), (1, .ref a), (2, .ref b), (3, .int (Int32.ofInt lo)), (4, .int (Int32.ofInt dp))]) (st' := []) 1 rfl ?_
              refine xr_loc (L := [(6, .int (Int32.ofInt ((i : Int) + 1))), (5, .int (Int32.ofInt (((xv_p t).length : Int) - 1))), (0, .ref 71), (1, .ref a), (2, .ref b), (3, .int (Int32.ofInt lo)), (4, .int (Int32.ofInt dp))]) (show [6, 5, 0, 1, 2, 3, 4].Nodup by decide) ⟨rfl, rfl, rfl, rfl, rfl, rfl, rfl, trivial⟩ ?_
              rw [show (i : Int) + 1 = ((i + 1 : Nat) : Int) by omega]
              have co := yco_in hP fr57 co63 fz69 hp69
              refine ih (k - 1) (by omega) (i + 1) B69 _ _ (by omega) cs69 i74 t70 t71 (by rw [List.length_append]; omega) (fun A' h => hQ A' ?_)
              have h2 := yco_trans co h
              rw [hd]
              exact h2
            · exfalso; omega
          · rw [eA]
            clear eA
            refine xr_steps (pc' := 67) (L' := [(7, .null), (6, .int (Int32.ofInt (i : Int))), (5, .int (Int32.ofInt (((xv_p t).length : Int) - 1))), (0, .ref 71), (1, .ref a), (2, .ref b), (3, .int (Int32.ofInt lo)), (4, .int (Int32.ofInt dp))]) (st' := [.int (Int32.ofInt (i : Int)), .ref b]) 3 rfl ?_
            refine xr_call (q := (.invokevirtual 113, 3, 150, 2)) (av := [.ref b, .int (Int32.ofInt (i : Int))]) (rest := []) rfl rfl (by decide) rfl (xr_rcv rfl (yt_obj h2).choose_spec) (Nat.le_of_ble_eq_true rfl) (mt_150 h2 hw2 (by omega)) ?_
            rintro _ _ (⟨q75, x75, i75, e75, rfl, y75, eA⟩ | ⟨rfl, e75, eA⟩)
            · rw [eA]
              clear eA
              have w75 := hw2.2.2.2.2.2.2 q75 (List.mem_of_getElem? e75)
              have hn75 := xwf_n w75.1
              refine xr_steps (pc' := 72) (L' := [(8, .ref x75), (7, .null), (6, .int (Int32.ofInt (i : Int))), (5, .int (Int32.ofInt (((xv_p t).length : Int) - 1))), (0, .ref 71), (1, .ref a), (2, .ref b), (3, .int (Int32.ofInt lo)), (4, .int (Int32.ofInt dp))]) (st' := []) 1 rfl ?_
              have hx : (xv_p t)[(if lb = true ∧ (xv_p t).length ≤ i then (xv_p t).length - 1 else i)]? = none := by rw [if_neg (fun h => absurd h.2 (by omega))]; exact List.getElem?_eq_none (by omega)
              have hd : xel (xcm sl H st n) (xv_p t) lb l ((xv_p u).drop i) i = [] ++ xel (xcm sl H st n) (xv_p t) lb l ((xv_p u).drop (i + 1)) (i + 1) := by rw [xp_drop (show (xv_p u)[i]? = some q75 from e75), xel, hx]
              rw [hd, List.length_append] at hle
              refine xr_steps (pc' := 110) (L' := [(8, .ref x75), (7, .null), (6, .int (Int32.ofInt (i : Int))), (5, .int (Int32.ofInt (((xv_p t).length : Int) - 1))), (0, .ref 71), (1, .ref a), (2, .ref b), (3, .int (Int32.ofInt lo)), (4, .int (Int32.ofInt dp))]) (st' := []) 2 rfl ?_
              refine xr_iinc (L' := [(6, .int (Int32.ofInt ((i : Int) + 1))), (8, .ref x75), (7, .null), (5, .int (Int32.ofInt (((xv_p t).length : Int) - 1))), (0, .ref 71), (1, .ref a), (2, .ref b), (3, .int (Int32.ofInt lo)), (4, .int (Int32.ofInt dp))]) rfl rfl rfl ?_
              refine xr_steps (pc' := 31) (L' := [(6, .int (Int32.ofInt ((i : Int) + 1))), (8, .ref x75), (7, .null), (5, .int (Int32.ofInt (((xv_p t).length : Int) - 1))), (0, .ref 71), (1, .ref a), (2, .ref b), (3, .int (Int32.ofInt lo)), (4, .int (Int32.ofInt dp))]) (st' := []) 1 rfl ?_
              refine xr_loc (L := [(6, .int (Int32.ofInt ((i : Int) + 1))), (5, .int (Int32.ofInt (((xv_p t).length : Int) - 1))), (0, .ref 71), (1, .ref a), (2, .ref b), (3, .int (Int32.ofInt lo)), (4, .int (Int32.ofInt dp))]) (show [6, 5, 0, 1, 2, 3, 4].Nodup by decide) ⟨rfl, rfl, rfl, rfl, rfl, rfl, rfl, trivial⟩ ?_
              rw [show (i : Int) + 1 = ((i + 1 : Nat) : Int) by omega]
              refine ih (k - 1) (by omega) (i + 1) A _ _ (by omega) hcs hi h1 h2 (by rw [List.length_nil] at hle; omega) (fun A' h => hQ A' ?_)
              rw [hd]
              exact h
            · exfalso; omega
        · refine xr_steps (pc' := 59) (L' := [(6, .int (Int32.ofInt (i : Int))), (5, .int (Int32.ofInt (((xv_p t).length : Int) - 1))), (0, .ref 71), (1, .ref a), (2, .ref b), (3, .int (Int32.ofInt lo)), (4, .int (Int32.ofInt dp))]) (st' := [.int (Int32.ofInt (((xv_p t).length : Int) - 1)), .ref a]) 2 rfl ?_
          refine xr_call (q := (.invokevirtual 113, 3, 150, 2)) (av := [.ref a, .int (Int32.ofInt (((xv_p t).length : Int) - 1))]) (rest := []) rfl rfl (by decide) rfl (xr_rcv rfl (yt_obj h1).choose_spec) (Nat.le_of_ble_eq_true rfl) (mt_150 h1 hw1 (by omega)) ?_
          rintro _ _ (⟨q76, x76, i76, e76, rfl, y76, eA⟩ | ⟨rfl, e76, eA⟩)
          · rw [eA]
            clear eA
            have w76 := hw1.2.2.2.2.2.2 q76 (List.mem_of_getElem? e76)
            have hn76 := xwf_n w76.1
            refine xr_steps (pc' := 67) (L' := [(7, .ref x76), (6, .int (Int32.ofInt (i : Int))), (5, .int (Int32.ofInt (((xv_p t).length : Int) - 1))), (0, .ref 71), (1, .ref a), (2, .ref b), (3, .int (Int32.ofInt lo)), (4, .int (Int32.ofInt dp))]) (st' := [.int (Int32.ofInt (i : Int)), .ref b]) 3 rfl ?_
            refine xr_call (q := (.invokevirtual 113, 3, 150, 2)) (av := [.ref b, .int (Int32.ofInt (i : Int))]) (rest := []) rfl rfl (by decide) rfl (xr_rcv rfl (yt_obj h2).choose_spec) (Nat.le_of_ble_eq_true rfl) (mt_150 h2 hw2 (by omega)) ?_
            rintro _ _ (⟨q77, x77, i77, e77, rfl, y77, eA⟩ | ⟨rfl, e77, eA⟩)
            · rw [eA]
              clear eA
              have w77 := hw2.2.2.2.2.2.2 q77 (List.mem_of_getElem? e77)
              have hn77 := xwf_n w77.1
              refine xr_steps (pc' := 72) (L' := [(8, .ref x77), (7, .ref x76), (6, .int (Int32.ofInt (i : Int))), (5, .int (Int32.ofInt (((xv_p t).length : Int) - 1))), (0, .ref 71), (1, .ref a), (2, .ref b), (3, .int (Int32.ofInt lo)), (4, .int (Int32.ofInt dp))]) (st' := []) 1 rfl ?_
              have hx : (xv_p t)[(if lb = true ∧ (xv_p t).length ≤ i then (xv_p t).length - 1 else i)]? = some q76 := by rw [if_pos ⟨hlb.2 (by omega), by omega⟩]; rw [show (xv_p t).length - 1 = (((xv_p t).length : Int) - 1).toNat by omega]; exact e76
              have hd : xel (xcm sl H st n) (xv_p t) lb l ((xv_p u).drop i) i = xcm sl H st n q76.2 q77.2 (l ++ [(i : Int)]) ++ xel (xcm sl H st n) (xv_p t) lb l ((xv_p u).drop (i + 1)) (i + 1) := by rw [xp_drop (show (xv_p u)[i]? = some q77 from e77), xel, hx]
              rw [hd, List.length_append] at hle
              refine xr_steps (pc' := 83) (L' := [(8, .ref x77), (7, .ref x76), (6, .int (Int32.ofInt (i : Int))), (5, .int (Int32.ofInt (((xv_p t).length : Int) - 1))), (0, .ref 71), (1, .ref a), (2, .ref b), (3, .int (Int32.ofInt lo)), (4, .int (Int32.ofInt dp))]) (st' := [.ref 71]) 5 rfl ?_
              refine xr_getf (v := .ref 72) rfl hcs.2.1 rfl ?_
              refine xr_steps (pc' := 88) (L' := [(8, .ref x77), (7, .ref x76), (6, .int (Int32.ofInt (i : Int))), (5, .int (Int32.ofInt (((xv_p t).length : Int) - 1))), (0, .ref 71), (1, .ref a), (2, .ref b), (3, .int (Int32.ofInt lo)), (4, .int (Int32.ofInt dp))]) (st' := [.int (Int32.ofInt (i : Int)), .ref 72]) 1 rfl ?_
              refine xr_call (q := (.invokevirtual 117, 3, 82, 2)) (av := [.ref 72, .int (Int32.ofInt (i : Int))]) (rest := []) rfl rfl (by decide) rfl (xr_rcv rfl hcs.2.2.1.choose_spec.1) (Nat.le_of_ble_eq_true rfl) (mp_82 hcs.2.2.1 (by omega) (by omega)) ?_
              rintro _ B78 ⟨rfl, hp78, fr78⟩
              have cs78 := ycs_path hcs hp78 fr78
              have kp78 := ykp_path hP fr78
              have t79 := yt_keep (n + 1) P kp78.2.2 _ _ _ h1
              have t80 := yt_keep (n + 1) P kp78.2.2 _ _ _ h2
              have t81 := yt_keep n P kp78.2.2 _ _ _ y76
              have t82 := yt_keep n P kp78.2.2 _ _ _ y77
              have i83 := yin_kp hi kp78 hPP hPx
              refine xr_steps (pc' := 99) (L' := [(8, .ref x77), (7, .ref x76), (6, .int (Int32.ofInt (i : Int))), (5, .int (Int32.ofInt (((xv_p t).length : Int) - 1))), (0, .ref 71), (1, .ref a), (2, .ref b), (3, .int (Int32.ofInt lo)), (4, .int (Int32.ofInt dp))]) (st' := [.int (Int32.ofInt 1), .int (Int32.ofInt dp), .ref x77, .ref x76, .ref 71]) 5 rfl ?_
              refine xr_iadd rfl ?_
              refine xr_call (q := (.invokevirtual 44, 3, 175, 4)) (av := [.ref 71, .ref x76, .ref x77, .int (Int32.ofInt (dp + 1))]) (rest := []) rfl rfl (by decide) rfl (xr_rcv rfl cs78.2.1) (Nat.le_of_ble_eq_true rfl) (IH cs78 i83 t81 t82 w76.1 w77.1 (xok_app hs (by omega)) (by rw [List.length_append, List.length_singleton]; omega) (by omega)) ?_
              rintro _ B84 ⟨rfl, co84⟩
              obtain ⟨vv84, cs84, kp84⟩ := id co84
              have t85 := yt_keep (n + 1) P kp84.2.2 _ _ _ t79
              have t86 := yt_keep (n + 1) P kp84.2.2 _ _ _ t80
              have t87 := yt_keep n P kp84.2.2 _ _ _ t81
              have t88 := yt_keep n P kp84.2.2 _ _ _ t82
              have i89 := yin_kp i83 kp84 hPP hPx
              refine xr_steps (pc' := 104) (L' := [(8, .ref x77), (7, .ref x76), (6, .int (Int32.ofInt (i : Int))), (5, .int (Int32.ofInt (((xv_p t).length : Int) - 1))), (0, .ref 71), (1, .ref a), (2, .ref b), (3, .int (Int32.ofInt lo)), (4, .int (Int32.ofInt dp))]) (st' := [.ref 71]) 1 rfl ?_
              refine xr_getf (v := .ref 72) rfl cs84.2.1 rfl ?_
              refine xr_call (q := (.invokevirtual 120, 3, 198, 1)) (av := [.ref 72]) (rest := []) rfl rfl (by decide) rfl (xr_rcv rfl cs84.2.2.1.choose_spec.1) (Nat.le_of_ble_eq_true rfl) (mp_198 (l := l) cs84.2.2.1) ?_
              rintro _ B90 ⟨rfl, hp90, fr90⟩
              have fz90 : yfr B84 B90 [72, 73] 0 0 := yfr_mono fr90 (fun z hz => Or.inl (by rw [List.mem_singleton] at hz; rw [hz]; decide)) (Nat.le_refl _) (Nat.le_refl _)
              have cs90 := ycs_path cs84 hp90 fz90
              have kp90 := ykp_path hP fz90
              have t91 := yt_keep (n + 1) P kp90.2.2 _ _ _ t85
              have t92 := yt_keep (n + 1) P kp90.2.2 _ _ _ t86
              have t93 := yt_keep n P kp90.2.2 _ _ _ t87
              have t94 := yt_keep n P kp90.2.2 _ _ _ t88
              have i95 := yin_kp i89 kp90 hPP hPx
              refine xr_iinc (L' := [(6, .int (Int32.ofInt ((i : Int) + 1))), (8, .ref x77), (7, .ref x76), (5, .int (Int32.ofInt (((xv_p t).length : Int) - 1))), (0, .ref 71), (1, .ref a), (2, .ref b), (3, .int (Int32.ofInt lo)), (4, .int (Int32.ofInt dp))]) rfl rfl rfl ?_
              refine xr_steps (pc' := 31) (L' := [(6, .int (Int32.ofInt ((i : Int) + 1))), (8, .ref x77), (7, .ref x76), (5, .int (Int32.ofInt (((xv_p t).length : Int) - 1))), (0, .ref 71), (1, .ref a), (2, .ref b), (3, .int (Int32.ofInt lo)), (4, .int (Int32.ofInt dp))]) (st' := []) 1 rfl ?_
              refine xr_loc (L := [(6, .int (Int32.ofInt ((i : Int) + 1))), (5, .int (Int32.ofInt (((xv_p t).length : Int) - 1))), (0, .ref 71), (1, .ref a), (2, .ref b), (3, .int (Int32.ofInt lo)), (4, .int (Int32.ofInt dp))]) (show [6, 5, 0, 1, 2, 3, 4].Nodup by decide) ⟨rfl, rfl, rfl, rfl, rfl, rfl, rfl, trivial⟩ ?_
              rw [show (i : Int) + 1 = ((i + 1 : Nat) : Int) by omega]
              have co := yco_in hP fr78 co84 fz90 hp90
              refine ih (k - 1) (by omega) (i + 1) B90 _ _ (by omega) cs90 i95 t91 t92 (by rw [List.length_append]; omega) (fun A' h => hQ A' ?_)
              have h2 := yco_trans co h
              rw [hd]
              exact h2
            · exfalso; omega
          · rw [eA]
            clear eA
            refine xr_steps (pc' := 67) (L' := [(7, .null), (6, .int (Int32.ofInt (i : Int))), (5, .int (Int32.ofInt (((xv_p t).length : Int) - 1))), (0, .ref 71), (1, .ref a), (2, .ref b), (3, .int (Int32.ofInt lo)), (4, .int (Int32.ofInt dp))]) (st' := [.int (Int32.ofInt (i : Int)), .ref b]) 3 rfl ?_
            refine xr_call (q := (.invokevirtual 113, 3, 150, 2)) (av := [.ref b, .int (Int32.ofInt (i : Int))]) (rest := []) rfl rfl (by decide) rfl (xr_rcv rfl (yt_obj h2).choose_spec) (Nat.le_of_ble_eq_true rfl) (mt_150 h2 hw2 (by omega)) ?_
            rintro _ _ (⟨q96, x96, i96, e96, rfl, y96, eA⟩ | ⟨rfl, e96, eA⟩)
            · rw [eA]
              clear eA
              have w96 := hw2.2.2.2.2.2.2 q96 (List.mem_of_getElem? e96)
              have hn96 := xwf_n w96.1
              refine xr_steps (pc' := 72) (L' := [(8, .ref x96), (7, .null), (6, .int (Int32.ofInt (i : Int))), (5, .int (Int32.ofInt (((xv_p t).length : Int) - 1))), (0, .ref 71), (1, .ref a), (2, .ref b), (3, .int (Int32.ofInt lo)), (4, .int (Int32.ofInt dp))]) (st' := []) 1 rfl ?_
              have hx : (xv_p t)[(if lb = true ∧ (xv_p t).length ≤ i then (xv_p t).length - 1 else i)]? = none := by rw [if_pos ⟨hlb.2 (by omega), by omega⟩]; exact List.getElem?_eq_none (by omega)
              have hd : xel (xcm sl H st n) (xv_p t) lb l ((xv_p u).drop i) i = [] ++ xel (xcm sl H st n) (xv_p t) lb l ((xv_p u).drop (i + 1)) (i + 1) := by rw [xp_drop (show (xv_p u)[i]? = some q96 from e96), xel, hx]
              rw [hd, List.length_append] at hle
              refine xr_steps (pc' := 110) (L' := [(8, .ref x96), (7, .null), (6, .int (Int32.ofInt (i : Int))), (5, .int (Int32.ofInt (((xv_p t).length : Int) - 1))), (0, .ref 71), (1, .ref a), (2, .ref b), (3, .int (Int32.ofInt lo)), (4, .int (Int32.ofInt dp))]) (st' := []) 2 rfl ?_
              refine xr_iinc (L' := [(6, .int (Int32.ofInt ((i : Int) + 1))), (8, .ref x96), (7, .null), (5, .int (Int32.ofInt (((xv_p t).length : Int) - 1))), (0, .ref 71), (1, .ref a), (2, .ref b), (3, .int (Int32.ofInt lo)), (4, .int (Int32.ofInt dp))]) rfl rfl rfl ?_
              refine xr_steps (pc' := 31) (L' := [(6, .int (Int32.ofInt ((i : Int) + 1))), (8, .ref x96), (7, .null), (5, .int (Int32.ofInt (((xv_p t).length : Int) - 1))), (0, .ref 71), (1, .ref a), (2, .ref b), (3, .int (Int32.ofInt lo)), (4, .int (Int32.ofInt dp))]) (st' := []) 1 rfl ?_
              refine xr_loc (L := [(6, .int (Int32.ofInt ((i : Int) + 1))), (5, .int (Int32.ofInt (((xv_p t).length : Int) - 1))), (0, .ref 71), (1, .ref a), (2, .ref b), (3, .int (Int32.ofInt lo)), (4, .int (Int32.ofInt dp))]) (show [6, 5, 0, 1, 2, 3, 4].Nodup by decide) ⟨rfl, rfl, rfl, rfl, rfl, rfl, rfl, trivial⟩ ?_
              rw [show (i : Int) + 1 = ((i + 1 : Nat) : Int) by omega]
              refine ih (k - 1) (by omega) (i + 1) A _ _ (by omega) hcs hi h1 h2 (by rw [List.length_nil] at hle; omega) (fun A' h => hQ A' ?_)
              rw [hd]
              exact h
            · exfalso; omega
theorem mn_197 {A : xb_H} {es : List (Int × List Int)} {vv : Nat → Nat} {d n a b : Nat} {k1 k2 : Int} {t u : xv (n + 1)} {l : List Int} {dp lo : Int} {lb : Bool} (hP : ∀ y, P y → y < B ∧ (y < 71 ∨ 165 ≤ y)) (hPP : ∀ y, P0 y → P y) (hPx : P x ∧ P rr ∧ P sr) (hw1 : xwf (n + 1) t) (hw2 : xwf (n + 1) u) (hs : xok l) (hln : l.length + n = 5) (hdp : (l.length : Int) = dp) (IH : yCM w B P P0 x rr sr st rs ns ex sl H (d + 2 * n + 13) n (dp + 1)) (hlo : lo = 0 ∨ lo = 1) (hlb : lb = true ↔ lo = 1) (hcs : ycs A B P vv (.ref x) es l) (hi : yin A P0 x rr sr st rs ns ex) (h1 : yt A P (n + 1) a k1 t) (h2 : yt A P (n + 1) b k2 u) (hle : es.length + ((if ¬ lb = true ∧ ¬ (xv_p t).length = (xv_p u).length then [(2, l)] else []) ++ xel (xcm sl H st n) (xv_p t) lb l (xv_p u) 0).length ≤ 100000) : xr_ok (xt_G w) (d + 2 * n + 14) 197 0 [(0, .ref 71), (1, .ref a), (2, .ref b), (3, .int (Int32.ofInt lo)), (4, .int (Int32.ofInt dp))] [] A (fun o A' => ∃ v0, o = .inl v0 ∧ v0 = none ∧ yco A A' B P (.ref x) es ((if ¬ lb = true ∧ ¬ (xv_p t).length = (xv_p u).length then [(2, l)] else []) ++ xel (xcm sl H st n) (xv_p t) lb l (xv_p u) 0) l) := by
  have hlu := hw2.2.2.2.2.2.1
  have hlt := hw1.2.2.2.2.2.1
  refine xr_steps (pc' := 1) (L' := [(0, .ref 71), (1, .ref a), (2, .ref b), (3, .int (Int32.ofInt lo)), (4, .int (Int32.ofInt dp))]) (st' := [.int (Int32.ofInt lo)]) 1 rfl ?_
  refine xr_if_ne rfl (by omega) (fun z31 => ?_) (fun z31 => ?_)
  · refine xr_steps (pc' := 21) (L' := [(0, .ref 71), (1, .ref a), (2, .ref b), (3, .int (Int32.ofInt lo)), (4, .int (Int32.ofInt dp))]) (st' := [.ref a]) 1 rfl ?_
    refine xr_call (q := (.invokevirtual 110, 3, 149, 1)) (av := [.ref a]) (rest := []) rfl rfl (by decide) rfl (xr_rcv rfl (yt_obj h1).choose_spec) (Nat.le_of_ble_eq_true rfl) (mt_149 h1) ?_
    rintro _ _ ⟨rfl, eA⟩
    rw [eA]
    clear eA
    refine xr_steps (pc' := 25) (L' := [(0, .ref 71), (1, .ref a), (2, .ref b), (3, .int (Int32.ofInt lo)), (4, .int (Int32.ofInt dp))]) (st' := [.int (Int32.ofInt 1), .int (Int32.ofInt ((xv_p t).length : Int))]) 1 rfl ?_
    refine xr_isub rfl ?_
    refine xr_steps (pc' := 31) (L' := [(6, .int (Int32.ofInt 0)), (5, .int (Int32.ofInt (((xv_p t).length : Int) - 1))), (0, .ref 71), (1, .ref a), (2, .ref b), (3, .int (Int32.ofInt lo)), (4, .int (Int32.ofInt dp))]) (st' := []) 3 rfl ?_
    refine xr_loc (L := [(6, .int (Int32.ofInt 0)), (5, .int (Int32.ofInt (((xv_p t).length : Int) - 1))), (0, .ref 71), (1, .ref a), (2, .ref b), (3, .int (Int32.ofInt lo)), (4, .int (Int32.ofInt dp))]) (show [6, 5, 0, 1, 2, 3, 4].Nodup by decide) ⟨rfl, rfl, rfl, rfl, rfl, rfl, rfl, trivial⟩ ?_
    have hif : (if ¬ lb = true ∧ ¬ (xv_p t).length = (xv_p u).length then [((2 : Int), l)] else []) = [] := if_neg (fun h => h.1 (hlb.2 (by omega)))
    rw [hif, List.length_append] at hle
    refine mn_197l (lb := lb) hP hPP hPx hw1 hw2 hs hln hdp IH hlo hlb (by omega) (xv_p u).length 0 A _ _ (by omega) hcs hi h1 h2 (by rw [List.drop_zero]; omega) (fun A2 e => ⟨_, rfl, rfl, ?_⟩)
    rw [hif]
    rw [List.drop_zero] at e
    exact e
  · refine xr_steps (pc' := 5) (L' := [(0, .ref 71), (1, .ref a), (2, .ref b), (3, .int (Int32.ofInt lo)), (4, .int (Int32.ofInt dp))]) (st' := [.ref a]) 1 rfl ?_
    refine xr_call (q := (.invokevirtual 110, 3, 149, 1)) (av := [.ref a]) (rest := []) rfl rfl (by decide) rfl (xr_rcv rfl (yt_obj h1).choose_spec) (Nat.le_of_ble_eq_true rfl) (mt_149 h1) ?_
    rintro _ _ ⟨rfl, eA⟩
    rw [eA]
    clear eA
    refine xr_steps (pc' := 9) (L' := [(0, .ref 71), (1, .ref a), (2, .ref b), (3, .int (Int32.ofInt lo)), (4, .int (Int32.ofInt dp))]) (st' := [.ref b, .int (Int32.ofInt ((xv_p t).length : Int))]) 1 rfl ?_
    refine xr_call (q := (.invokevirtual 110, 3, 149, 1)) (av := [.ref b]) (rest := [.int (Int32.ofInt ((xv_p t).length : Int))]) rfl rfl (by decide) rfl (xr_rcv rfl (yt_obj h2).choose_spec) (Nat.le_of_ble_eq_true rfl) (mt_149 h2) ?_
    rintro _ _ ⟨rfl, eA⟩
    rw [eA]
    clear eA
    refine xr_icmp_eq rfl (by omega) (by omega) (fun z32 => ?_) (fun z32 => ?_)
    · refine xr_steps (pc' := 21) (L' := [(0, .ref 71), (1, .ref a), (2, .ref b), (3, .int (Int32.ofInt lo)), (4, .int (Int32.ofInt dp))]) (st' := [.ref a]) 1 rfl ?_
      refine xr_call (q := (.invokevirtual 110, 3, 149, 1)) (av := [.ref a]) (rest := []) rfl rfl (by decide) rfl (xr_rcv rfl (yt_obj h1).choose_spec) (Nat.le_of_ble_eq_true rfl) (mt_149 h1) ?_
      rintro _ _ ⟨rfl, eA⟩
      rw [eA]
      clear eA
      refine xr_steps (pc' := 25) (L' := [(0, .ref 71), (1, .ref a), (2, .ref b), (3, .int (Int32.ofInt lo)), (4, .int (Int32.ofInt dp))]) (st' := [.int (Int32.ofInt 1), .int (Int32.ofInt ((xv_p t).length : Int))]) 1 rfl ?_
      refine xr_isub rfl ?_
      refine xr_steps (pc' := 31) (L' := [(6, .int (Int32.ofInt 0)), (5, .int (Int32.ofInt (((xv_p t).length : Int) - 1))), (0, .ref 71), (1, .ref a), (2, .ref b), (3, .int (Int32.ofInt lo)), (4, .int (Int32.ofInt dp))]) (st' := []) 3 rfl ?_
      refine xr_loc (L := [(6, .int (Int32.ofInt 0)), (5, .int (Int32.ofInt (((xv_p t).length : Int) - 1))), (0, .ref 71), (1, .ref a), (2, .ref b), (3, .int (Int32.ofInt lo)), (4, .int (Int32.ofInt dp))]) (show [6, 5, 0, 1, 2, 3, 4].Nodup by decide) ⟨rfl, rfl, rfl, rfl, rfl, rfl, rfl, trivial⟩ ?_
      have hif : (if ¬ lb = true ∧ ¬ (xv_p t).length = (xv_p u).length then [((2 : Int), l)] else []) = [] := if_neg (fun h => h.2 (by omega))
      rw [hif, List.length_append] at hle
      refine mn_197l (lb := lb) hP hPP hPx hw1 hw2 hs hln hdp IH hlo hlb (by omega) (xv_p u).length 0 A _ _ (by omega) hcs hi h1 h2 (by rw [List.drop_zero]; omega) (fun A2 e => ⟨_, rfl, rfl, ?_⟩)
      rw [hif]
      rw [List.drop_zero] at e
      exact e
    · refine xr_steps (pc' := 17) (L' := [(0, .ref 71), (1, .ref a), (2, .ref b), (3, .int (Int32.ofInt lo)), (4, .int (Int32.ofInt dp))]) (st' := [.int (Int32.ofInt 2), .ref 71]) 2 rfl ?_
      refine xr_call (q := (.invokevirtual 70, 3, 177, 2)) (av := [.ref 71, .int (Int32.ofInt 2)]) (rest := []) rfl rfl (by decide) rfl (xr_rcv rfl hcs.2.1) (Nat.le_of_ble_eq_true rfl) (mn_177 (kd := 2) hP hcs hs (by omega)) ?_
      rintro _ B33 ⟨rfl, co33⟩
      obtain ⟨vv33, cs33, kp33⟩ := id co33
      have t34 := yt_keep (n + 1) P kp33.2.2 _ _ _ h1
      have t35 := yt_keep (n + 1) P kp33.2.2 _ _ _ h2
      have i36 := yin_kp hi kp33 hPP hPx
      refine xr_steps (pc' := 21) (L' := [(0, .ref 71), (1, .ref a), (2, .ref b), (3, .int (Int32.ofInt lo)), (4, .int (Int32.ofInt dp))]) (st' := [.ref a]) 1 rfl ?_
      refine xr_call (q := (.invokevirtual 110, 3, 149, 1)) (av := [.ref a]) (rest := []) rfl rfl (by decide) rfl (xr_rcv rfl (yt_obj t34).choose_spec) (Nat.le_of_ble_eq_true rfl) (mt_149 t34) ?_
      rintro _ _ ⟨rfl, eA⟩
      rw [eA]
      clear eA
      refine xr_steps (pc' := 25) (L' := [(0, .ref 71), (1, .ref a), (2, .ref b), (3, .int (Int32.ofInt lo)), (4, .int (Int32.ofInt dp))]) (st' := [.int (Int32.ofInt 1), .int (Int32.ofInt ((xv_p t).length : Int))]) 1 rfl ?_
      refine xr_isub rfl ?_
      refine xr_steps (pc' := 31) (L' := [(6, .int (Int32.ofInt 0)), (5, .int (Int32.ofInt (((xv_p t).length : Int) - 1))), (0, .ref 71), (1, .ref a), (2, .ref b), (3, .int (Int32.ofInt lo)), (4, .int (Int32.ofInt dp))]) (st' := []) 3 rfl ?_
      refine xr_loc (L := [(6, .int (Int32.ofInt 0)), (5, .int (Int32.ofInt (((xv_p t).length : Int) - 1))), (0, .ref 71), (1, .ref a), (2, .ref b), (3, .int (Int32.ofInt lo)), (4, .int (Int32.ofInt dp))]) (show [6, 5, 0, 1, 2, 3, 4].Nodup by decide) ⟨rfl, rfl, rfl, rfl, rfl, rfl, rfl, trivial⟩ ?_
      have hif : (if ¬ lb = true ∧ ¬ (xv_p t).length = (xv_p u).length then [(2, l)] else []) = [((2 : Int), l)] := if_pos ⟨fun h => absurd (hlb.1 h) (by omega), by omega⟩
      rw [hif, List.length_append] at hle
      refine mn_197l (lb := lb) hP hPP hPx hw1 hw2 hs hln hdp IH hlo hlb (by omega) (xv_p u).length 0 B33 _ _ (by omega) cs33 i36 t34 t35 (by rw [List.length_append]; rw [List.drop_zero]; omega) (fun A2 e => ⟨_, rfl, rfl, ?_⟩)
      rw [hif]
      rw [List.drop_zero] at e
      exact yco_trans co33 e
end CQ
