/-! ... whole runs -/
section XO3
variable {pc d k y : Nat} {L : xb_L} {st : List Value} {A : xb_H} {X : Nat → Option xb_O} {r : xb_S} {G : xb_G}
theorem xo_elo {r : Option Nat} (h : xb_elo A r = true) : xb_elo (xb_ov A X) r = true := by
  cases r with
  | none => rfl
  | some y =>
    unfold xb_elo at h ⊢
    dsimp only at h ⊢
    cases hg : xb_get A y with
    | none => rw [hg] at h; cases h
    | some o =>
      rw [hg] at h
      rw [xo_get hg]
      exact h
theorem xo_bix {ins : Instr} (h : xb_bix ins k d pc L A st = some r) : xb_bix ins k d pc L (xb_ov A X) st = some (xo_r r X) := by
  cases ins
  all_goals first | (have h9 : none = some r := h; cases h9; done) | skip
  case invokespecial idx =>
    have h1 : xb_objx d pc L A st = some r := h
    show xb_objx d pc L (xb_ov A X) st = _
    obtain ⟨a, r, rfl, g1, g2, rfl⟩ := xb_objx_spec h1
    simp only [xb_objx]
    rw [if_pos ⟨g1, g2⟩]
    rfl
  case invokestatic idx =>
    have h1 : (if k = 5 then xb_cpyx d pc L A st else if k = 2 then xb_mmx true d pc L A st else if k = 3 then xb_mmx false d pc L A st else if k = 6 then xb_cpyo d pc L A st else none) = some r := h
    show (if k = 5 then xb_cpyx d pc L (xb_ov A X) st else if k = 2 then xb_mmx true d pc L (xb_ov A X) st else if k = 3 then xb_mmx false d pc L (xb_ov A X) st else if k = 6 then xb_cpyo d pc L (xb_ov A X) st else none) = _
    by_cases e5 : k = 5
    · rw [if_pos e5] at h1 ⊢
      obtain ⟨n, dp, sp, a, b, n0, n1, f, g, r, rfl, hg1, hg2, hz, q1, q2, q3, q4, q5, hd1, hcat, hfit, rfl⟩ := xb_cpyx_spec h1
      have h2 := h1
      simp only [xb_cpyx, hg1, hg2] at h2
      simp only [xb_cpyx, xo_get hg1, xo_get hg2]
      split at h2
      · rename_i hc
        rw [if_pos hc, xo_set]
        rfl
      · cases h2
    · rw [if_neg e5] at h1 ⊢
      by_cases e2 : k = 2
      · rw [if_pos e2] at h1 ⊢
        obtain ⟨x, y', rest, rfl, hd1, hcat, rfl⟩ := xb_mmx_spec (mx := true) h1
        simp only [xb_mmx]
        rw [if_pos ⟨hd1, hcat⟩]
        rfl
      · rw [if_neg e2] at h1 ⊢
        by_cases e3 : k = 3
        · rw [if_pos e3] at h1 ⊢
          obtain ⟨x, y', rest, rfl, hd1, hcat, rfl⟩ := xb_mmx_spec (mx := false) h1
          simp only [xb_mmx]
          rw [if_pos ⟨hd1, hcat⟩]
          rfl
        · rw [if_neg e3] at h1 ⊢
          by_cases e6 : k = 6
          · rw [if_pos e6] at h1 ⊢
            obtain ⟨n, dp, sp, a, b, n0, n1, f, g, r, rfl, hg1, hg2, hza, hz, q1, q2, q3, q4, q5, hd1, hcat, hel, rfl⟩ := xb_cpyo_spec h1
            simp only [xb_cpyo, xo_get hg1, xo_get hg2]
            rw [if_pos ⟨hza, hz, q1, q2, q3, q4, q5, hd1, hcat, List.all_eq_true.mpr fun i hi => xo_elo (hel i (List.mem_range.mp hi))⟩, xo_set]
            rfl
          · rw [if_neg e6] at h1
            cases h1
  case invokevirtual idx =>
    have h1 : (if k = 1 then xb_clnx d pc L A st else if k = 2 then xb_gclx d pc L A st else none) = some r := h
    show (if k = 1 then xb_clnx d pc L (xb_ov A X) st else if k = 2 then xb_gclx d pc L (xb_ov A X) st else none) = _
    by_cases e1 : k = 1
    · rw [if_pos e1] at h1 ⊢
      obtain ⟨a, n, f, r, rfl, hg, hz, hd1, hcat, hfit, rfl⟩ := xb_clnx_spec h1
      simp only [xb_clnx, xo_get hg]
      rw [if_pos ⟨hz, hd1, hcat, List.all_eq_true.mpr fun i hi => hfit i (List.mem_range.mp hi)⟩, xo_new]
      rfl
    · rw [if_neg e1] at h1 ⊢
      by_cases e2 : k = 2
      · rw [if_pos e2] at h1 ⊢
        obtain ⟨a, x, r, rfl, hg, hz, hd1, hcat, rfl⟩ := xb_gclx_spec h1
        simp only [xb_gclx, xo_get hg]
        rw [if_pos ⟨hz, hd1, hcat⟩]
        rfl
      · rw [if_neg e2] at h1
        cases h1
theorem xo_rcv {av : List Value} (h : xb_rcv G y av A = true) : xb_rcv G y av (xb_ov A X) = true := by
  cases hk : xb_gV G y with
  | none =>
    unfold xb_rcv
    rw [hk]
  | some k =>
    obtain ⟨a, r, fs, rfl, hg⟩ := xb_rcv_spec h hk
    unfold xb_rcv
    rw [hk]
    dsimp only
    rw [xo_get hg]
    exact decide_eq_true rfl
theorem xo_retI {o : xb_R × xb_H} (h : xb_retI G y A st = some o) : xb_retI G y (xb_ov A X) st = some (o.1, xb_ov o.2 X) := by
  obtain ⟨x, t, rfl, ht, hn, rfl⟩ := xb_retI_spec h
  simp only [xb_retI] at h ⊢
  rw [ht] at h ⊢
  dsimp only at h ⊢
  split at h
  · rename_i hc
    rw [if_pos hc]
  · cases h
theorem xo_retL {o : xb_R × xb_H} (h : xb_retL G y A st = some o) : xb_retL G y (xb_ov A X) st = some (o.1, xb_ov o.2 X) := by
  obtain ⟨x, rfl, ht, rfl⟩ := xb_retL_spec h
  simp only [xb_retL]
  rw [if_pos ht]
theorem xo_retA {o : xb_R × xb_H} (h : xb_retA G y A st = some o) : xb_retA G y (xb_ov A X) st = some (o.1, xb_ov o.2 X) := by
  obtain ⟨x, rfl, hx, ht, rfl⟩ := xb_retA_spec h
  rcases hx with rfl | ⟨a, rfl⟩
  · simp only [xb_retA]
    rw [if_pos ht]
  · simp only [xb_retA]
    rw [if_pos ht]
theorem xo_retV {o : xb_R × xb_H} (h : xb_retV G y A st = some o) : xb_retV G y (xb_ov A X) st = some (o.1, xb_ov o.2 X) := by
  obtain ⟨rfl, ht, rfl⟩ := xb_retV_spec h
  simp only [xb_retV]
  rw [if_pos ht]
theorem xo_run (hX : ∀ a, 64 ≤ a → X a = none) : ∀ (n d y pc : Nat) (L : xb_L) (st : List Value) (A : xb_H) (o : xb_R × xb_H), xb_run G n d y pc L st A = some o → 64 ≤ A.1 → xb_run G n d y pc L st (xb_ov A X) = some (o.1, xb_ov o.2 X) := by
  intro n
  induction n with
  | zero => intro d y pc L st A o h; cases h
  | succ n ih =>
    intro d y pc L st A o h hA
    obtain ⟨q, hq, hc⟩ := xb_run_spec h
    rw [xb_run, hq]
    try dsimp only
    rcases hc with ⟨r, hso | ⟨hso, hz⟩, h1, h2⟩ | ⟨hso, h1⟩ | ⟨hso, h1⟩ | ⟨hso, h1⟩ | ⟨hso, h1⟩ | ⟨hso, hz, r, h1, h2⟩ | ⟨hso, hz, d', av, rest, v, A1, rfl, hp, hr, hl, h1, h2⟩ | ⟨hso, hz, h8, rfl, rfl⟩
    · have m1 := xb_pure_mono h1
      rw [hso]
      try dsimp only
      rw [xo_pure h1]
      exact ih _ _ _ _ _ _ _ h2 (Nat.le_trans hA m1.1)
    · have m1 := xb_pure_mono h1
      rw [hso]
      try dsimp only
      rw [if_pos hz, xo_pure h1]
      exact ih _ _ _ _ _ _ _ h2 (Nat.le_trans hA m1.1)
    · rw [hso]
      exact xo_retI h1
    · rw [hso]
      exact xo_retL h1
    · rw [hso]
      exact xo_retA h1
    · rw [hso]
      exact xo_retV h1
    · have m1 := xb_bix_mono h1
      rw [hso]
      try dsimp only
      rw [if_pos hz, xo_bix h1]
      exact ih _ _ _ _ _ _ _ h2 (Nat.le_trans hA m1.1)
    · have m1 := xb_run_mono _ _ _ _ _ _ _ _ h1
      rw [hso]
      try dsimp only
      rw [if_neg hz, hp]
      try dsimp only
      rw [if_pos ⟨xo_rcv hr, hl⟩, ih _ _ _ _ _ _ _ h1 hA]
      exact ih _ _ _ _ _ _ _ h2 (Nat.le_trans hA m1.1)
    · rw [hso]
      try dsimp only
      show (if q.2.2.2 = 0 then (match xb_pure G q pc L [] (xb_ov A X) with | some (pc', L', st', A') => xb_run G n d y pc' L' st' A' | none => none) else if 8 ≤ d ∧ ([] : List Value) = [] then some (.inr q.2.2.1, xb_thr (xb_ov A X)) else none) = _
      rw [if_neg hz, xo_thr A X hX hA]
      exact if_pos ⟨h8, rfl⟩
end XO3
