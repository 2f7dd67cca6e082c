/-! The law as a run: calls by runs of the small machine, the four helpers by what they answer -/
def xl_d : Nat := 1000
def xl_hlp (pc : Nat) : Option (Nat × Bool) := if pc = 173 then some (103, false) else if pc = 237 then some (109, true) else if pc = 293 then some (152, true) else if pc = 448 then some (163, true) else none
/-- what holds before a step if it holds behind it -/
def xl_closed (G : xb_G) (Q : Int32 → xb_H → Prop) (P : Nat → xb_L → List Value → xb_H → Prop) : Prop :=
  (∀ (pc : Nat) (L : xb_L) (st : List Value) (A : xb_H) (q : xb_I) (r : xb_S), xb_gP G 260 pc = some q → (xb_sort q.1 = 0 ∨ (xb_sort q.1 = 6 ∧ q.2.2.2 = 0)) → xb_pure G q pc L st A = some r → P r.1 r.2.1 r.2.2.1 r.2.2.2 → P pc L st A) ∧
  (∀ (pc : Nat) (L : xb_L) (st : List Value) (A : xb_H) (q : xb_I) (av rest : List Value) (n : Nat) (v : Option Value) (A1 : xb_H), xb_gP G 260 pc = some q → xb_sort q.1 = 5 → ¬ q.2.2.1 = 0 → xb_pop q.2.2.2 st = some (av, rest) → xb_rcv G q.2.2.1 av A = true → (lg_sl av).length ≤ xb_gN G q.2.2.1 →
    xb_run G n xl_d q.2.2.1 0 (lv_args 0 av) [] A = some (.inl v, A1) → P (pc + 3) L (v.toList ++ rest) A1 → P pc L st A) ∧
  (∀ (pc : Nat) (L : xb_L) (rest : List Value) (A : xb_H) (y : Nat) (two : Bool) (a b : Nat) (x : Int32) (n : Nat) (o : xb_R) (A1 : xb_H) (v : Int32) (A' : xb_H), xl_hlp pc = some (y, two) → (rest.map fun v => v.category).sum ≤ 8 → xb_rcv G y [.ref a, .int x] A = true →
    xb_run G n xl_d y 0 (lv_args 0 [.ref a, .int x]) [] A = some (o, A1) → xp_res two b o A1 v A' → P (pc + 3) L (.int v :: rest) A' → P pc L (.ref b :: .int x :: .ref a :: rest) A) ∧
  (∀ (pc : Nat) (L : xb_L) (A : xb_H) (q : xb_I) (v : Int32), xb_gP G 260 pc = some q → xb_sort q.1 = 1 → Q v A → P pc L [.int v] A)
/-- the law comes to its end, with Q -/
def xl_ok (G : xb_G) (pc : Nat) (L : xb_L) (st : List Value) (A : xb_H) (Q : Int32 → xb_H → Prop) : Prop := ∀ P : Nat → xb_L → List Value → xb_H → Prop, xl_closed G Q P → P pc L st A
section XLR
variable {G : xb_G} {pc : Nat} {L : xb_L} {st : List Value} {A : xb_H} {Q : Int32 → xb_H → Prop}
theorem xl_pure {q : xb_I} {r : xb_S} (hq : xb_gP G 260 pc = some q) (hs : xb_sort q.1 = 0 ∨ (xb_sort q.1 = 6 ∧ q.2.2.2 = 0)) (hp : xb_pure G q pc L st A = some r) (k : xl_ok G r.1 r.2.1 r.2.2.1 r.2.2.2 Q) : xl_ok G pc L st A Q := fun P hP => hP.1 pc L st A q r hq hs hp (k P hP)
theorem xl_steps {pc' : Nat} {L' : xb_L} {st' : List Value} {A' : xb_H} : ∀ (n : Nat) {pc : Nat} {L : xb_L} {st : List Value} {A : xb_H}, xb_steps G n 260 pc L st A = some (pc', L', st', A') → xl_ok G pc' L' st' A' Q → xl_ok G pc L st A Q := by
  intro n
  induction n with
  | zero =>
    intro pc L st A h k
    cases h
    exact k
  | succ n ih =>
    intro pc L st A h k
    rw [xb_steps] at h
    split at h
    · cases h
    · rename_i q hq
      split at h
      · rename_i hs
        split at h
        · rename_i p1 L1 s1 A1 hp
          exact xl_pure hq (Or.inl hs) hp (ih h k)
        · cases h
      · cases h
theorem xl_call {q : xb_I} {av rest : List Value} (hq : xb_gP G 260 pc = some q) (hs : xb_sort q.1 = 5) (hz : ¬ q.2.2.1 = 0) (hp : xb_pop q.2.2.2 st = some (av, rest)) (hr : xb_rcv G q.2.2.1 av A = true) (hl : (lg_sl av).length ≤ xb_gN G q.2.2.1) {R : Option Value → xb_H → Prop}
    (hc : xr_ok G xl_d q.2.2.1 0 (lv_args 0 av) [] A (fun o A' => ∃ v, o = .inl v ∧ R v A')) (k : ∀ v A', R v A' → xl_ok G (pc + 3) L (v.toList ++ rest) A' Q) : xl_ok G pc L st A Q := by
  obtain ⟨n, o, A1, h1, v, rfl, hR⟩ := hc
  exact fun P hP => hP.2.1 pc L st A q av rest n v A1 hq hs hz hp hr hl h1 (k v A1 hR P hP)
theorem xl_help {rest : List Value} {y : Nat} {two : Bool} {a b : Nat} {x : Int32} (hh : xl_hlp pc = some (y, two)) (hcat : (rest.map fun v => v.category).sum ≤ 8) (hr : xb_rcv G y [.ref a, .int x] A = true) {R : Int32 → xb_H → Prop}
    (hc : xr_ok G xl_d y 0 (lv_args 0 [.ref a, .int x]) [] A (fun o A1 => ∃ v A', xp_res two b o A1 v A' ∧ R v A')) (k : ∀ v A', R v A' → xl_ok G (pc + 3) L (.int v :: rest) A' Q) : xl_ok G pc L (.ref b :: .int x :: .ref a :: rest) A Q := by
  obtain ⟨n, o, A1, h1, v, A', h2, hR⟩ := hc
  exact fun P hP => hP.2.2.1 pc L rest A y two a b x n o A1 v A' hh hcat hr h1 h2 (k v A' hR P hP)
theorem xl_ret {q : xb_I} {v : Int32} (hq : xb_gP G 260 pc = some q) (hs : xb_sort q.1 = 1) (h : Q v A) : xl_ok G pc L [.int v] A Q := fun P hP => hP.2.2.2 pc L A q v hq hs h
end XLR
theorem xl_hlp_ok (w : Value) {pc y : Nat} {two : Bool} (h : xl_hlp pc = some (y, two)) : ∃ (hn : MethodName) (cc : ByteArray) (idx t : Nat) (inf : xs_M) (ix : Nat), xp_ok w hn cc idx t y inf two ∧ decode code pc = .ok (.invokestatic ix, 3) ∧ Cond.methodLink "ContractDeskLaw" ix hn ∈ xt_W := by
  unfold xl_hlp at h
  split at h
  · rename_i e
    subst e
    cases h
    exact ⟨_, _, _, _, _, 38, xp_make w, by decide +kernel, xt_in3 62 rfl rfl⟩
  · split at h
    · rename_i e
      subst e
      cases h
      exact ⟨_, _, _, _, _, 48, xp_body w, by decide +kernel, xt_in3 157 rfl rfl⟩
    · split at h
      · rename_i e
        subst e
        cases h
        exact ⟨_, _, _, _, _, 52, xp_rule w, by decide +kernel, xt_in4 182 rfl rfl⟩
      · split at h
        · rename_i e
          subst e
          cases h
          exact ⟨_, _, _, _, _, 68, xp_verify w, by decide +kernel, xt_in5 26 rfl rfl⟩
        · cases h
section XLS
variable {p : Program} {l : Launch} {e : Env} {R : Room} {s : State} {m : MethodId} {args : Array Value} {below : List Frame} {meth : Method} {c : Code} {QQ : State → Prop}
variable {D : xs_D} {w : Value} {c0 s0 mc ms : Nat}
/-- THE LAW'S WALK out of its run -/
theorem xl_sound (Z : xg_E p s m args meth c D (xt_G w) xt_cl xt_W xt_TY xt_NW xt_sd xt_sl xt_inf 260 code 7 "ContractDeskLaw" false) (hT : xp_T D s) (hfl : l.flags = pinnedFlags ++ [noTraceFlag]) (hfr : xl_d + 2 ≤ R.frames) (hlo : 64 * (xl_d + 2) ≤ R.locals) (hmc : mc - c0 ≤ R.cells) (hms : ms - s0 ≤ R.slots) {Q : Int32 → xb_H → Prop}
    (hend : ∀ (pc : Nat) (L : xb_L) (A : xb_H) (v : Int32), decode code pc = .ok (.ireturn, 1) → Q v A → A.1 ≤ mc ∧ A.2.1 ≤ ms ∧ (c0 ≤ A.1 → s0 ≤ A.2.1 → xs_G D xt_cl p l e R s m args below meth c 7 c0 s0 QQ pc L [.int v] A))
    {pc : Nat} {L : xb_L} {st : List Value} {A : xb_H} (hrun : xl_ok (xt_G w) pc L st A Q) (hc0 : c0 ≤ A.1) (hs0 : s0 ≤ A.2.1) : xs_G D xt_cl p l e R s m args below meth c 7 c0 s0 QQ pc L st A := by
  have Z' := Z
  obtain ⟨S, hD, hP, hK, hrows, hin⟩ := Z'
  refine (hrun (fun pc L st A => A.1 ≤ mc ∧ A.2.1 ≤ ms ∧ (c0 ≤ A.1 → s0 ≤ A.2.1 → xs_G D xt_cl p l e R s m args below meth c 7 c0 s0 QQ pc L st A)) ⟨?_, ?_, ?_, ?_⟩).2.2 hc0 hs0
  · intro pc L st A q r hq hs hp k
    obtain ⟨k1, k2, k3⟩ := k
    have a1 := xb_pure_mono hp
    obtain ⟨hd, hxl, hlk, -, -⟩ := hrows pc q hq
    exact ⟨Nat.le_trans a1.1 k1, Nat.le_trans a1.2 k2, fun h1 h2 => xs_pure S hD hK hP.2.1 hin hp hd hxl (hlk hs) h1 h2 (by omega) (by omega) (k3 (Nat.le_trans h1 a1.1) (Nat.le_trans h2 a1.2))⟩
  · intro pc L st A q av rest n v A1 hq hs hz hpop hrc hal h1 k
    obtain ⟨k1, k2, k3⟩ := k
    have m1 := xb_run_mono _ _ _ _ _ _ _ _ h1
    dsimp only at m1
    obtain ⟨hd, hxl, -, -, hcall⟩ := hrows pc q hq
    obtain ⟨inf', hinf', hcl⟩ := hcall hs hz
    have hl3 : q.2.1 = 3 := by
      obtain ⟨ins, len, r1, r2⟩ := q
      cases ins <;> first | (cases hs; done) | exact hxl
    rw [hl3] at hd
    exact ⟨Nat.le_trans m1.1 k1, Nat.le_trans m1.2 k2, fun g1 g2 => xs_turnC S hD hP hK hd hinf' hcl hpop hrc hal h1 (by omega) (by omega) g1 g2 (by omega) (by omega) (k3 (Nat.le_trans g1 m1.1) (Nat.le_trans g2 m1.2))⟩
  · intro pc L rest A y two a b x n o A1 v A' hh hcat hrc h1 hres k
    obtain ⟨k1, k2, k3⟩ := k
    have m1 := xb_run_mono _ _ _ _ _ _ _ _ h1
    dsimp only at m1
    have m2 : A.1 ≤ A'.1 ∧ A.2.1 ≤ A'.2.1 := by
      rcases hres with ⟨x1, nb, f, -, -, -, -, -, rfl⟩ | ⟨-, rfl, -⟩ | ⟨-, -, rfl, -⟩ <;> exact m1
    obtain ⟨hn, cc, idx, t, inf, ix, ho, hd, hlk⟩ := xl_hlp_ok w hh
    exact ⟨Nat.le_trans m2.1 k1, Nat.le_trans m2.2 k2, fun g1 g2 => xp_go Z hT hfl ho hd hlk hrc h1 hres hcat hfr hlo g1 g2 (by omega) (by omega) (k3 (Nat.le_trans g1 m2.1) (Nat.le_trans g2 m2.2))⟩
  · intro pc L A q v hq hs h
    obtain ⟨hd, hxl, -, -, -⟩ := hrows pc q hq
    have hi : q.1 = .ireturn ∧ q.2.1 = 1 := by
      obtain ⟨ins, len, r1, r2⟩ := q
      cases ins <;> first | (cases hs; done) | exact ⟨rfl, hxl⟩
    rw [hi.1, hi.2] at hd
    exact hend pc L A v hd h
end XLS
