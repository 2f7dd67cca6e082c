/-! Numbers are read -/
theorem yn_succ (e : Nat → Int) (lo hi : Int) : ∀ (k p : Nat), yn e lo hi (k + 1) p = if yn e lo hi k p = k ∧ lo ≤ e (p + k) ∧ e (p + k) ≤ hi then k + 1 else yn e lo hi k p := by
  intro k
  induction k with
  | zero =>
    intro p
    unfold yn
    by_cases h : lo ≤ e p ∧ e p ≤ hi
    · rw [if_pos h, if_pos ⟨rfl, h⟩]
      rfl
    · rw [if_neg h, if_neg (fun z => h z.2)]
  | succ k ih =>
    intro p
    rw [yn, ih (p + 1)]
    have e1 : yn e lo hi (k + 1) p = if lo ≤ e p ∧ e p ≤ hi then yn e lo hi k (p + 1) + 1 else 0 := rfl
    rw [e1]
    have e2 : p + 1 + k = p + (k + 1) := by omega
    rw [e2]
    by_cases h : lo ≤ e p ∧ e p ≤ hi
    · simp only [if_pos h]
      by_cases h2 : yn e lo hi k (p + 1) = k ∧ lo ≤ e (p + (k + 1)) ∧ e (p + (k + 1)) ≤ hi
      · rw [if_pos h2, if_pos ⟨by omega, h2.2⟩]
      · rw [if_neg h2, if_neg (fun z => h2 ⟨by omega, z.2⟩)]
    · simp only [if_neg h]
      rw [if_neg (fun z => by omega)]
/-- a number at p -/
def xpn (e : Nat → Int) (p : Nat) : Option (Nat × List Int × Nat) := if e p = 48 then some (2, [48], p + 1) else
  if (1 ≤ yn e 48 57 6 (p + if e p = 45 then 1 else 0) ∧ yn e 48 57 6 (p + if e p = 45 then 1 else 0) ≤ 5) ∧ ¬ e (p + if e p = 45 then 1 else 0) = 48 then some (2, xch e p ((if e p = 45 then 1 else 0) + yn e 48 57 6 (p + if e p = 45 then 1 else 0)), p + (if e p = 45 then 1 else 0) + yn e 48 57 6 (p + if e p = 45 then 1 else 0)) else none
/-- behind the sign -/
theorem mv_142b {w : Value} {d : Nat} {A A1 : xb_H} {cu sa v n p m : Nat} {f : Nat → Int} (hw : w = .null ∨ w = .ref 19) (hc : ycu A cu sa v n f p) (hk : yk1 A) (m1 : ymv A A1 cu sa v n f (p + m) 0 0) (hm : m ≤ 1) {r : Option (Nat × List Int × Nat)} (hr : r = if (1 ≤ yn (ye n f) 48 57 6 (p + m) ∧ yn (ye n f) 48 57 6 (p + m) ≤ 5) ∧ ¬ ye n f (p + m) = 48 then some (2, xch (ye n f) p (m + yn (ye n f) 48 57 6 (p + m)), p + m + yn (ye n f) 48 57 6 (p + m)) else none) :
    xr_ok (xt_G w) (d + 1 + 1 + 1 + 1 + 1 + 1) 142 34 [(1, .int (Int32.ofInt (p : Int))), (0, .ref cu)] [] A1 (fun o A' => ∃ v0, o = .inl v0 ∧ yrl A A' cu sa v n f p r v0) := by
  have hp := hc.2.2
  have hlt := xb_get_lt hc.1
  have hA1 := m1.2.1.1
  have hrg := ye_rng m1.1 (p + m)
  have null : ∀ (A' : xb_H) (p' : Nat), p ≤ p' → ymv A A' cu sa v n f p' 4 30 → r = none → xr_ok (xt_G w) (d + 1 + 1 + 1 + 1 + 1 + 1) 142 51 [(1, .int (Int32.ofInt (p : Int))), (0, .ref cu)] [] A' (fun o A' => ∃ v0, o = .inl v0 ∧ yrl A A' cu sa v n f p r v0) := by
    intro A' p' h1 h2 h3
    refine xr_steps (pc' := 52) (L' := [(1, .int (Int32.ofInt (p : Int))), (0, .ref cu)]) (st' := [.null]) 1 rfl ?_
    exact xr_retNull rfl rfl ⟨_, rfl, p', h1, h2, Or.inr ⟨rfl, h3⟩⟩
  refine xr_steps (pc' := 35) (L' := [(1, .int (Int32.ofInt (p : Int))), (0, .ref cu)]) (st' := [.ref cu]) 1 rfl ?_
  refine xr_call (q := (.invokevirtual 44, 3, 68, 1)) (av := [.ref cu]) (rest := []) rfl rfl (by decide) rfl (xr_rcv rfl m1.1.1) (Nat.le_of_ble_eq_true rfl) (mk_68 hw m1.1) ?_
  rintro _ _ ⟨rfl, eA⟩
  rw [eA]
  clear eA
  refine xr_steps (pc' := 40) (L' := [(1, .int (Int32.ofInt (p : Int))), (0, .ref cu)]) (st' := [.int (Int32.ofInt 48), .int (Int32.ofInt (ye n f (p + m)))]) 1 rfl ?_
  refine xr_icmp_eq rfl (by omega) (by omega) (fun h48 => ?_) (fun h48 => ?_)
  · refine null A1 (p + m) (by omega) (ymv_mono m1 (by omega) (by omega)) ?_
    rw [hr, if_neg (fun z => z.2 h48)]
  refine xr_steps (pc' := 45) (L' := [(1, .int (Int32.ofInt (p : Int))), (0, .ref cu)]) (st' := [.int (Int32.ofInt ((5 : Nat) : Int)), .ref cu]) 2 rfl ?_
  refine xr_call (q := (.invokevirtual 130, 3, 81, 2)) (av := [.ref cu, .int (Int32.ofInt ((5 : Nat) : Int))]) (rest := []) rfl rfl (by decide) rfl (xr_rcv rfl m1.1.1) (Nat.le_of_ble_eq_true rfl) (mk_81 hw m1.1 (by omega)) ?_
  rintro _ A2 ⟨rfl, m2⟩
  have hsuc := yn_succ (ye n f) 48 57 5 (p + m)
  have hle5 := yn_le (ye n f) 48 57 5 (p + m)
  rw [show 5 + 1 = 6 from rfl] at hsuc
  generalize yn (ye n f) 48 57 5 (p + m) = k at hsuc hle5 m2 ⊢
  have m12 := ymv_trans m1 m2
  refine xr_if_ne rfl (by omega) (fun hk0 => ?_) (fun hk0 => ?_)
  · have hA2 := m12.2.1.1
    obtain ⟨A3, eA3⟩ : ∃ A0, xb_new A2 5 (.inr (9, [.null, .null, .null, .int (Int32.ofInt 0), .int (Int32.ofInt 0)])) = A0 := ⟨_, rfl⟩
    refine xr_newO rfl (xr_heap eA3 ?_)
    have g3 := xr_mv eA3 xb_get_new_same
    have n3 : A3.1 = A2.1 + 1 := by rw [← eA3]; rfl
    have f3 : yfr A2 A3 [] 1 5 := by rw [← eA3]; exact yfr_new [] (Nat.le_refl _) (Nat.le_refl _)
    have m3 := ymv_fr m12 f3
    have k3 := yk1_mv hk m3
    refine xr_steps (pc' := 62) (L' := [(1, .int (Int32.ofInt (p : Int))), (0, .ref cu)]) (st' := [.int (Int32.ofInt (p : Int)), .ref cu, .ref 2, .ref A2.1, .ref A2.1]) 4 rfl ?_
    refine xr_call (q := (.invokevirtual 114, 3, 133, 2)) (av := [.ref cu, .int (Int32.ofInt (p : Int))]) (rest := [.ref 2, .ref A2.1, .ref A2.1]) rfl rfl (by decide) rfl (xr_rcv rfl m3.1.1) (Nat.le_of_ble_eq_true rfl) (mk_133 hw m3.1 k3.1.1 (by omega)) ?_
    rintro _ A4 ⟨s4, v4, f4, rfl, y4, e4, fr4, c4⟩
    have elen : p + m + k - p = m + k := by omega
    rw [elen] at y4 e4 fr4
    have g4 := yfr_get fr4 g3 List.not_mem_nil
    refine xr_call (q := (.invokespecial 88, 3, 113, 3)) (av := [.ref A2.1, .ref 2, .ref s4]) (rest := [.ref A2.1]) rfl rfl (by decide) rfl (xr_rcv rfl g4) (Nat.le_of_ble_eq_true rfl) (mv_113 g4 (by omega)) ?_
    rintro _ A7 ⟨rfl, q1, q2, q3, q4⟩
    have fr34 := yfr_trans (yfr_trans f3 fr4 (fun z hz => absurd hz List.not_mem_nil)) q3 (fun z hz => Or.inr (by rw [List.mem_singleton] at hz; omega))
    have m7 := ymv_fr m12 fr34
    have hA4 := fr4.1.1
    have hs4 := xb_get_lt y4.1.choose_spec.1
    have hv4 := xb_get_lt y4.2.1
    have hns : ¬ s4 = A2.1 ∧ ¬ v4 = A2.1 := by
      obtain ⟨⟨fs4, y41, -⟩, y42, -⟩ := id y4
      refine ⟨fun e => ?_, fun e => ?_⟩
      · rw [e, g4] at y41
        cases y41
      · rw [e, g4] at y42
        cases y42
    have y7 := ys_fr y4 q3 (by rw [List.mem_singleton]; exact hns.1) (by rw [List.mem_singleton]; exact hns.2)
    have k7 := yk1_mv hk m7
    have el : (xch (ye n f) p (m + k)).length = m + k := xch_len _ _ _
    rw [← el] at y7
    have hpm := m7.1.2.2.2.1
    refine xr_retR rfl rfl ⟨_, rfl, p + m + k, by omega, ymv_mono m7 (by omega) (by omega), Or.inl ⟨A2.1, 2, xch (ye n f) p (m + k), rfl, fun mm => yt_leaf q1 y7 (fun j hj => ?_) q2 k7 (by omega) ⟨yP_lo (by omega) (by omega), ?_, ?_, yP_lo (by omega) (by omega), yP_c (by omega)⟩ mm, ⟨by omega, by omega⟩, by omega, ?_⟩⟩
    · rw [el] at hj
      rw [e4 j hj, xch_get _ _ _ _ hj]
      unfold ye
      rw [if_pos (by omega)]
    · rcases c4 with ⟨e, -⟩ | ⟨e, -⟩ | ⟨e, -⟩
      · exact Or.inr (Or.inl e)
      · exact yP_c (by omega)
      · exact yP_lo (by omega) (by omega)
    · rcases c4 with ⟨-, e⟩ | ⟨-, e⟩ | ⟨-, e⟩
      · exact Or.inr (Or.inr (Or.inl e))
      · exact yP_c (by omega)
      · exact yP_lo (by omega) (by omega)
    · by_cases h6 : k = 5 ∧ 48 ≤ ye n f (p + m + 5) ∧ ye n f (p + m + 5) ≤ 57
      · rw [if_pos h6] at hsuc
        refine Or.inr ⟨?_, ?_⟩
        · rw [hr, hsuc, if_neg (by omega)]
        · rw [h6.1]
          exact h6.2
      · rw [if_neg h6] at hsuc
        refine Or.inl ?_
        rw [hr, hsuc, if_pos ⟨by omega, h48⟩]
  · obtain rfl : k = 0 := by omega
    rw [if_neg (by omega)] at hsuc
    refine null A2 (p + m + 0) (by omega) (ymv_mono m12 (by omega) (by omega)) ?_
    rw [hr, hsuc, if_neg (by omega)]
theorem mv_142 {w : Value} {d : Nat} {A : xb_H} {cu sa v n p : Nat} {f : Nat → Int} (hw : w = .null ∨ w = .ref 19) (hc : ycu A cu sa v n f p) (hk : yk1 A) : xr_ok (xt_G w) (d + 1 + 1 + 1 + 1 + 1 + 1) 142 0 [(0, .ref cu)] [] A (fun o A' => ∃ v0, o = .inl v0 ∧ yrl A A' cu sa v n f p (xpn (ye n f) p) v0) := by
  have hp := hc.2.2
  have hlt := xb_get_lt hc.1
  refine xr_steps (pc' := 3) (L' := [(0, .ref cu)]) (st' := [.int (Int32.ofInt 48), .ref cu]) 2 rfl ?_
  by_cases h48 : ye n f p = 48
  · refine xr_call (q := (.invokevirtual 79, 3, 67, 2)) (av := [.ref cu, .int (Int32.ofInt 48)]) (rest := []) rfl rfl (by decide) rfl (xr_rcv rfl hc.1) (Nat.le_of_ble_eq_true rfl) (mk_yes hw hc (by omega) h48) ?_
    rintro _ A1 ⟨rfl, m1⟩
    refine xr_if_eq rfl (by omega) (fun h => absurd h (by omega)) (fun _ => ?_)
    obtain ⟨A5, eA5⟩ : ∃ A0, xb_new A1 5 (.inr (9, [.null, .null, .null, .int (Int32.ofInt 0), .int (Int32.ofInt 0)])) = A0 := ⟨_, rfl⟩
    refine xr_newO rfl (xr_heap eA5 ?_)
    have g5 := xr_mv eA5 xb_get_new_same
    have hA1 := m1.2.1.1
    refine xr_steps (pc' := 18) (L' := [(0, .ref cu)]) (st' := [.ref 13, .ref 2, .ref A1.1, .ref A1.1]) 3 rfl ?_
    refine xr_call (q := (.invokespecial 88, 3, 113, 3)) (av := [.ref A1.1, .ref 2, .ref 13]) (rest := [.ref A1.1]) rfl rfl (by decide) rfl (xr_rcv rfl g5) (Nat.le_of_ble_eq_true rfl) (mv_113 g5 (by omega)) ?_
    rintro _ A7 ⟨rfl, q1, q2, q3, q4⟩
    obtain ⟨r1, r2, r3, r4⟩ := mv_comb eA5 q1 q2 q3 q4
    have k7 := yk1_fr0 (yk1_mv hk m1) r3
    refine xr_retR rfl rfl ⟨_, rfl, p + 1, by omega, ymv_mono (ymv_fr m1 r3) (by omega) (by omega), Or.inl ⟨A1.1, 2, [48], rfl, fun m => yt_leaf r1 k7.1.2.2.2.2 (fun j hj => ?_) r2 k7 (by omega) ⟨yP_lo (by omega) (by omega), yP_c (by omega), yP_c (by omega), yP_lo (by omega) (by omega), yP_c (by omega)⟩ m, ⟨by omega, by omega⟩, by omega, Or.inl (if_pos h48)⟩⟩
    obtain rfl : j = 0 := by
      have : j < 1 := hj
      omega
    decide
  · refine xr_call (q := (.invokevirtual 79, 3, 67, 2)) (av := [.ref cu, .int (Int32.ofInt 48)]) (rest := []) rfl rfl (by decide) rfl (xr_rcv rfl hc.1) (Nat.le_of_ble_eq_true rfl) (mk_no hw hc (by omega) h48) ?_
    rintro _ _ ⟨rfl, eA⟩
    rw [eA]
    clear eA
    refine xr_if_eq rfl (by omega) (fun _ => ?_) (fun h => absurd rfl h)
    refine xr_steps (pc' := 23) (L' := [(0, .ref cu)]) (st' := [.ref cu]) 1 rfl ?_
    refine xr_call (q := (.invokevirtual 110, 3, 132, 1)) (av := [.ref cu]) (rest := []) rfl rfl (by decide) rfl (xr_rcv rfl hc.1) (Nat.le_of_ble_eq_true rfl) (mk_132 hw hc) ?_
    rintro _ _ ⟨rfl, eA⟩
    rw [eA]
    clear eA
    refine xr_steps (pc' := 30) (L' := [(1, .int (Int32.ofInt (p : Int))), (0, .ref cu)]) (st' := [.int (Int32.ofInt 45), .ref cu]) 3 rfl ?_
    unfold xpn
    rw [if_neg h48]
    by_cases h45 : ye n f p = 45
    · refine xr_call (q := (.invokevirtual 79, 3, 67, 2)) (av := [.ref cu, .int (Int32.ofInt 45)]) (rest := []) rfl rfl (by decide) rfl (xr_rcv rfl hc.1) (Nat.le_of_ble_eq_true rfl) (mk_yes hw hc (by omega) h45) ?_
      rintro _ A1 ⟨rfl, m1⟩
      refine xr_steps (pc' := 34) (L' := [(1, .int (Int32.ofInt (p : Int))), (0, .ref cu)]) (st' := []) 1 rfl ?_
      rw [if_pos h45]
      exact mv_142b (m := 1) hw hc hk m1 (by omega) rfl
    · refine xr_call (q := (.invokevirtual 79, 3, 67, 2)) (av := [.ref cu, .int (Int32.ofInt 45)]) (rest := []) rfl rfl (by decide) rfl (xr_rcv rfl hc.1) (Nat.le_of_ble_eq_true rfl) (mk_no hw hc (by omega) h45) ?_
      rintro _ _ ⟨rfl, eA⟩
      rw [eA]
      clear eA
      refine xr_steps (pc' := 34) (L' := [(1, .int (Int32.ofInt (p : Int))), (0, .ref cu)]) (st' := []) 1 rfl ?_
      rw [if_neg h45]
      exact mv_142b (m := 0) hw hc hk (ymv_refl hc 0 0) (by omega) rfl
