/-! Rows for runs of the small machine -/
def xr_ok (G : xb_G) (d y pc : Nat) (L : xb_L) (st : List Value) (A : xb_H) (Q : xb_R → xb_H → Prop) : Prop := ∃ (n : Nat) (o : xb_R) (A' : xb_H), xb_run G n d y pc L st A = some (o, A') ∧ Q o A'
def xb_steps (G : xb_G) : Nat → Nat → Nat → xb_L → List Value → xb_H → Option xb_S
  | 0, _, pc, L, st, A => some (pc, L, st, A)
  | n + 1, y, pc, L, st, A => match xb_gP G y pc with
    | none => none
    | some q => match xb_sort q.1 with
      | 0 => (match xb_pure G q pc L st A with
        | some (pc', L', st', A') => xb_steps G n y pc' L' st' A'
        | none => none)
      | _ => none
section XRW
variable {G : xb_G} {d y pc : Nat} {L : xb_L} {st : List Value} {A : xb_H} {Q : xb_R → xb_H → Prop}
theorem xr_conseq {Q' : xb_R → xb_H → Prop} (h : xr_ok G d y pc L st A Q') (hq : ∀ o A', Q' o A' → Q o A') : xr_ok G d y pc L st A Q := by
  obtain ⟨n, o, A', h1, h2⟩ := h
  exact ⟨n, o, A', h1, hq o A' h2⟩
theorem xr_pure {q : xb_I} (hq : xb_gP G y pc = some q) (hs : xb_sort q.1 = 0) {pc' : Nat} {L' : xb_L} {st' : List Value} {A' : xb_H} (hp : xb_pure G q pc L st A = some (pc', L', st', A')) (k : xr_ok G d y pc' L' st' A' Q) : xr_ok G d y pc L st A Q := by
  obtain ⟨n, o, A1, h1, h2⟩ := k
  refine ⟨n + 1, o, A1, ?_, h2⟩
  rw [xb_run, hq]
  try dsimp only
  rw [hs]
  try dsimp only
  rw [hp]
  exact h1
theorem xr_steps {pc' : Nat} {L' : xb_L} {st' : List Value} {A' : xb_H} : ∀ (n : Nat) {pc : Nat} {L : xb_L} {st : List Value} {A : xb_H}, xb_steps G n y pc L st A = some (pc', L', st', A') → xr_ok G d y pc' L' st' A' Q → xr_ok G d y pc L st A Q := by
  intro n
  induction n with
  | zero =>
    intro pc L st A h k
    cases h
    exact k
  | succ n ih =>
    intro pc L st A h k
    rw [xb_steps] at h
    split at h
    · cases h
    · rename_i q hq
      split at h
      · rename_i hs
        split at h
        · rename_i p1 L1 s1 A1 hp
          exact xr_pure hq hs hp (ih h k)
        · cases h
      · cases h
theorem xr_new {q : xb_I} (hq : xb_gP G y pc = some q) (hs : xb_sort q.1 = 6) (hz : q.2.2.2 = 0) {pc' : Nat} {L' : xb_L} {st' : List Value} {A' : xb_H} (hp : xb_pure G q pc L st A = some (pc', L', st', A')) (k : xr_ok G d y pc' L' st' A' Q) : xr_ok G d y pc L st A Q := by
  obtain ⟨n, o, A1, h1, h2⟩ := k
  refine ⟨n + 1, o, A1, ?_, h2⟩
  rw [xb_run, hq]
  try dsimp only
  rw [hs]
  try dsimp only
  rw [if_pos hz, hp]
  exact h1
/-- more fuel does no harm -/
theorem xb_run_more {G : xb_G} : ∀ (n d y pc : Nat) (L : xb_L) (st : List Value) (A : xb_H) (o : xb_R × xb_H), xb_run G n d y pc L st A = some o → xb_run G (n + 1) d y pc L st A = some o := by
  intro n
  induction n with
  | zero => intro d y pc L st A o h; cases h
  | succ n ih =>
    intro d y pc L st A o h
    obtain ⟨q, hq, hc⟩ := xb_run_spec h
    rw [xb_run, hq]
    try dsimp only
    rcases hc with ⟨r, hso | ⟨hso, hz⟩, h1, h2⟩ | ⟨hso, h1⟩ | ⟨hso, h1⟩ | ⟨hso, h1⟩ | ⟨hso, h1⟩ | ⟨hso, hz, r, h1, h2⟩ | ⟨hso, hz, d', av, rest, v, A1, rfl, hp, hr, hl, h1, h2⟩ | ⟨hso, hz, h8, rfl, rfl⟩
    · rw [hso]
      try dsimp only
      rw [h1]
      exact ih _ _ _ _ _ _ _ h2
    · rw [hso]
      try dsimp only
      rw [if_pos hz, h1]
      exact ih _ _ _ _ _ _ _ h2
    · rw [hso]
      exact h1
    · rw [hso]
      exact h1
    · rw [hso]
      exact h1
    · rw [hso]
      exact h1
    · rw [hso]
      try dsimp only
      rw [if_pos hz, h1]
      exact ih _ _ _ _ _ _ _ h2
    · rw [hso]
      try dsimp only
      rw [if_neg hz, hp]
      try dsimp only
      rw [if_pos ⟨hr, hl⟩, ih _ _ _ _ _ _ _ h1]
      exact ih _ _ _ _ _ _ _ h2
    · rw [hso]
      try dsimp only
      show (if q.2.2.2 = 0 then (match xb_pure G q pc L [] A with | some (pc', L', st', A') => xb_run G (n + 1) d y pc' L' st' A' | none => none) else if 8 ≤ d ∧ ([] : List Value) = [] then some (.inr q.2.2.1, xb_thr A) else none) = _
      rw [if_neg hz]
      exact if_pos ⟨h8, rfl⟩
theorem xb_run_le {G : xb_G} {n m d y pc : Nat} {L : xb_L} {st : List Value} {A : xb_H} {o : xb_R × xb_H} (h : xb_run G n d y pc L st A = some o) (hm : n ≤ m) : xb_run G m d y pc L st A = some o := by
  induction hm with
  | refl => exact h
  | step _ ih => exact xb_run_more _ _ _ _ _ _ _ _ ih
theorem xr_call {q : xb_I} (hq : xb_gP G y pc = some q) (hs : xb_sort q.1 = 5) (hz : ¬ q.2.2.1 = 0) {av rest : List Value} (hp : xb_pop q.2.2.2 st = some (av, rest)) (hr : xb_rcv G q.2.2.1 av A = true) (hl : (lg_sl av).length ≤ xb_gN G q.2.2.1) {R : Option Value → xb_H → Prop}
    (hc : xr_ok G d q.2.2.1 0 (lv_args 0 av) [] A (fun o A' => ∃ v, o = .inl v ∧ R v A')) (k : ∀ v A', R v A' → xr_ok G (d + 1) y (pc + 3) L (v.toList ++ rest) A' Q) : xr_ok G (d + 1) y pc L st A Q := by
  obtain ⟨n1, o1, A1, h1, v, rfl, hR⟩ := hc
  obtain ⟨n2, o2, A2, h2, hQ⟩ := k v A1 hR
  refine ⟨max n1 n2 + 1, o2, A2, ?_, hQ⟩
  rw [xb_run, hq]
  try dsimp only
  rw [hs]
  try dsimp only
  rw [if_neg hz, hp]
  try dsimp only
  rw [if_pos ⟨hr, hl⟩, xb_run_le h1 (Nat.le_max_left _ _)]
  exact xb_run_le h2 (Nat.le_max_right _ _)
theorem xr_obj {q : xb_I} (hq : xb_gP G y pc = some q) (hs : xb_sort q.1 = 5) (hz : q.2.2.1 = 0) {pc' : Nat} {L' : xb_L} {st' : List Value} {A' : xb_H} (hp : xb_bix q.1 q.2.2.2 d pc L A st = some (pc', L', st', A')) (k : xr_ok G d y pc' L' st' A' Q) : xr_ok G d y pc L st A Q := by
  obtain ⟨n, o, A1, h1, h2⟩ := k
  refine ⟨n + 1, o, A1, ?_, h2⟩
  rw [xb_run, hq]
  try dsimp only
  rw [hs]
  try dsimp only
  rw [if_pos hz, hp]
  exact h1
theorem xr_if {c : Prop} [hc : Decidable c] {t f : Nat} (kt : c → xr_ok G d y t L st A Q) (kf : ¬ c → xr_ok G d y f L st A Q) : xr_ok G d y (if decide c = true then t else f) L st A Q := by
  by_cases h : c
  · rw [if_pos (decide_eq_true h)]
    exact kt h
  · rw [if_neg (fun z => h (of_decide_eq_true z))]
    exact kf h
theorem xr_ifn {c : Prop} [hc : Decidable c] {t f : Nat} (kt : ¬ c → xr_ok G d y t L st A Q) (kf : c → xr_ok G d y f L st A Q) : xr_ok G d y (if (!decide c) = true then t else f) L st A Q := by
  by_cases h : c
  · rw [if_neg (by simp [h])]
    exact kf h
  · rw [if_pos (by simp [h])]
    exact kt h
theorem xr_retI {q : xb_I} (hq : xb_gP G y pc = some q) (hs : xb_sort q.1 = 1) {o : xb_R} (hr : xb_retI G y A st = some (o, A)) (hQ : Q o A) : xr_ok G d y pc L st A Q := by
  refine ⟨1, o, A, ?_, hQ⟩
  rw [xb_run, hq]
  try dsimp only
  rw [hs]
  exact hr
theorem xr_retA {q : xb_I} (hq : xb_gP G y pc = some q) (hs : xb_sort q.1 = 3) {o : xb_R} (hr : xb_retA G y A st = some (o, A)) (hQ : Q o A) : xr_ok G d y pc L st A Q := by
  refine ⟨1, o, A, ?_, hQ⟩
  rw [xb_run, hq]
  try dsimp only
  rw [hs]
  exact hr
theorem xr_retV {q : xb_I} (hq : xb_gP G y pc = some q) (hs : xb_sort q.1 = 4) {o : xb_R} (hr : xb_retV G y A st = some (o, A)) (hQ : Q o A) : xr_ok G d y pc L st A Q := by
  refine ⟨1, o, A, ?_, hQ⟩
  rw [xb_run, hq]
  try dsimp only
  rw [hs]
  exact hr
end XRW
