/-! Rows for a walk of the law itself, on the real machine's judgement over the small heap -/
def xs_rows (G : xb_G) (cl : List vw_C) (Ts : List Cond) (TY : List FieldType) (NW : List Cond) (sd : Nat → Option (String × String × String)) (sl : String → Nat → Option Nat) (INF : Nat → Option xs_M) (y : Nat) (cc : ByteArray) (nL : Nat) (own : String) (ini : Bool) : Prop :=
    ∀ (pc : Nat) (q : xb_I), xb_gP G y pc = some q → decode cc pc = .ok (q.1, q.2.1) ∧ xs_len nL pc q ∧
      (xb_sort q.1 = 0 ∨ (xb_sort q.1 = 6 ∧ q.2.2.2 = 0) → xs_lk G cl Ts TY NW sd sl own ini q) ∧
      (xb_sort q.1 = 5 → q.2.2.1 = 0 → (∃ idx : Nat, q.1 = .invokespecial idx ∧ Cond.methodLink own idx Lib.objectInit ∈ Ts ∧ Cond.instanceMethod Lib.objectInit ∈ Ts ∧ Cond.code Lib.objectInit ⟨#[0xb1]⟩ 1 none ∈ Ts) ∨ xs_bw G own Ts NW TY q) ∧
      (xb_sort q.1 = 5 → ¬ q.2.2.1 = 0 → ∃ inf' : xs_M, INF q.2.2.1 = some inf' ∧ xs_cl own Ts NW cl inf' (xb_gV G q.2.2.1) q.2.2.2 q.1)
theorem xk_rows_of {w : Value} {y : Nat} {cc : ByteArray} {nL : Nat} {own : String} {ini : Bool} {lk cs : List xb_I} {tab : List (Nat × xb_I)} (h6 : xt_l.getD y [] = tab) (h7 : tab.all (xk_row cc nL lk cs) = true) (h8 : ∀ q ∈ lk, xs_lk (xt_G w) xt_cl xt_W xt_TY xt_NW xt_sd xt_sl own ini q) (h9 : ∀ q ∈ cs, xk_call (xt_G w) own q) :
    xs_rows (xt_G w) xt_cl xt_W xt_TY xt_NW xt_sd xt_sl xt_inf y cc nL own ini := by
  intro pc q hq
  have hm : (pc, q) ∈ tab := by
    rw [← h6]
    have hq' : (xt_l.getD y []).lookup pc = some q := hq
    generalize xt_l.getD y [] = t at hq'
    induction t with
    | nil => cases hq'
    | cons r t ih =>
      obtain ⟨j, v⟩ := r
      rw [List.lookup_cons] at hq'
      by_cases hij : (pc == j) = true
      · rw [hij] at hq'
        have e1 : pc = j := by simpa using hij
        cases hq'
        rw [e1]
        exact List.mem_cons_self
      · have e2 : (pc == j) = false := by simpa using hij
        rw [e2] at hq'
        exact List.mem_cons_of_mem _ (ih hq')
  have hr := List.all_eq_true.mp h7 _ hm
  simp only [xk_row, Bool.and_eq_true, Bool.or_eq_true, Bool.not_eq_true', decide_eq_true_eq, decide_eq_false_iff_not] at hr
  obtain ⟨a1, a2, a3, a4⟩ := hr
  refine ⟨a1, xk_len_ok a2, fun hs => ?_, fun hs hz => ?_, fun hs hz => ?_⟩
  · rcases a3 with a3 | a3
    · exact xk_nolink a3 hs
    · exact h8 q (xk_mem_ok a3)
  · rcases a4 with a4 | a4
    · exact absurd hs a4
    · exact (h9 q (xk_mem_ok a4)).1 hz
  · rcases a4 with a4 | a4
    · exact absurd hs a4
    · exact (h9 q (xk_mem_ok a4)).2 hz
theorem xm_260 : xt_b260.all (xk_row code 7 xt_kn23 xt_kc23) = true := by decide +kernel
theorem xl_law (w : Value) : xs_rows (xt_G w) xt_cl xt_W xt_TY xt_NW xt_sd xt_sl xt_inf 260 code 7 "ContractDeskLaw" false := xk_rows_of rfl xm_260 (fun q h => xl_n23 w q h) (xl_c23 w)
section XG
variable {p : Program} {l : Launch} {e : Env} {R : Room} {s : State} {m : MethodId} {args : Array Value} {below : List Frame} {meth : Method} {c : Code} {Q : State → Prop}
variable {D : xs_D} {cl : List vw_C} {nL c0 s0 : Nat} {cc : ByteArray} {Ts NW : List Cond} {own : String} {G : xb_G} {TY : List FieldType} {sd : Nat → Option (String × String × String)} {sl : String → Nat → Option Nat} {INF : Nat → Option xs_M} {y : Nat} {ini : Bool}
/-- all that a walk stands on -/
def xg_E (p : Program) (s : State) (m : MethodId) (args : Array Value) (meth : Method) (c : Code) (D : xs_D) (G : xb_G) (cl : List vw_C) (Ts : List Cond) (TY : List FieldType) (NW : List Cond) (sd : Nat → Option (String × String × String)) (sl : String → Nat → Option Nat) (INF : Nat → Option xs_M) (y : Nat) (cc : ByteArray) (nL : Nat) (own : String) (ini : Bool) : Prop :=
  CallFix p m c cc nL s args Ts own ∧ xs_ad D ∧ xs_prog G cl Ts TY NW sd sl INF ∧ xs_K D G cl TY NW sd sl s ∧ xs_rows G cl Ts TY NW sd sl INF y cc nL own ini ∧ (ini = true → meth.name = "<init>")
theorem xb_steps_mono : ∀ (n : Nat) {pc : Nat} {L : xb_L} {st : List Value} {A : xb_H} {r : xb_S}, xb_steps G n y pc L st A = some r → A.1 ≤ r.2.2.2.1 ∧ A.2.1 ≤ r.2.2.2.2.1 := by
  intro n
  induction n with
  | zero => intro pc L st A r h; cases h; exact ⟨Nat.le_refl _, Nat.le_refl _⟩
  | succ n ih =>
    intro pc L st A r h
    rw [xb_steps] at h
    split at h
    · cases h
    · rename_i q hq
      split at h
      · split at h
        · rename_i p1 L1 s1 A1 hp
          have a1 := xb_pure_mono hp
          have a2 := ih h
          exact ⟨Nat.le_trans a1.1 a2.1, Nat.le_trans a1.2 a2.2⟩
        · cases h
      · cases h
theorem xg_steps (Z : xg_E p s m args meth c D G cl Ts TY NW sd sl INF y cc nL own ini) {pc' : Nat} {L' : xb_L} {st' : List Value} {A' : xb_H} : ∀ (n : Nat) {pc : Nat} {L : xb_L} {st : List Value} {A : xb_H}, xb_steps G n y pc L st A = some (pc', L', st', A') → c0 ≤ A.1 → s0 ≤ A.2.1 → A'.1 - c0 ≤ R.cells → A'.2.1 - s0 ≤ R.slots →
    xs_G D cl p l e R s m args below meth c nL c0 s0 Q pc' L' st' A' → xs_G D cl p l e R s m args below meth c nL c0 s0 Q pc L st A := by
  obtain ⟨S, hD, hP, hK, hrows, hin⟩ := Z
  intro n
  induction n with
  | zero =>
    intro pc L st A h _ _ _ _ k
    cases h
    exact k
  | succ n ih =>
    intro pc L st A h hc0 hs0 hc hs k
    rw [xb_steps] at h
    split at h
    · cases h
    · rename_i q hq
      split at h
      · rename_i hso
        split at h
        · rename_i p1 L1 s1 A1 hp
          have a1 := xb_pure_mono hp
          have a2 := xb_steps_mono n h
          dsimp only at a1 a2
          obtain ⟨hd, hxl, hlk, -, -⟩ := hrows pc q hq
          exact xs_pure S hD hK hP.2.1 hin hp hd hxl (hlk (Or.inl hso)) hc0 hs0 (by dsimp only; omega) (by dsimp only; omega) (ih h (Nat.le_trans hc0 a1.1) (Nat.le_trans hs0 a1.2) hc hs k)
        · cases h
      · cases h
theorem xg_new (Z : xg_E p s m args meth c D G cl Ts TY NW sd sl INF y cc nL own ini) {pc : Nat} {L : xb_L} {st : List Value} {A : xb_H} {q : xb_I} (hq : xb_gP G y pc = some q) (hso : xb_sort q.1 = 6) (hz : q.2.2.2 = 0) {r : xb_S} (hp : xb_pure G q pc L st A = some r) (hc0 : c0 ≤ A.1) (hs0 : s0 ≤ A.2.1) (hc : r.2.2.2.1 - c0 ≤ R.cells) (hs : r.2.2.2.2.1 - s0 ≤ R.slots)
    (k : xs_G D cl p l e R s m args below meth c nL c0 s0 Q r.1 r.2.1 r.2.2.1 r.2.2.2) : xs_G D cl p l e R s m args below meth c nL c0 s0 Q pc L st A := by
  obtain ⟨S, hD, hP, hK, hrows, hin⟩ := Z
  obtain ⟨hd, hxl, hlk, -, -⟩ := hrows pc q hq
  exact xs_pure S hD hK hP.2.1 hin hp hd hxl (hlk (Or.inr ⟨hso, hz⟩)) hc0 hs0 hc hs k
theorem xg_call (Z : xg_E p s m args meth c D G cl Ts TY NW sd sl INF y cc nL own ini) {pc d' : Nat} {L : xb_L} {st : List Value} {A : xb_H} {q : xb_I} (hq : xb_gP G y pc = some q) (hso : xb_sort q.1 = 5) (hz : ¬ q.2.2.1 = 0) {av rest : List Value} (hpop : xb_pop q.2.2.2 st = some (av, rest)) (hrc : xb_rcv G q.2.2.1 av A = true) (hal : (lg_sl av).length ≤ xb_gN G q.2.2.1)
    (hfr : d' + 1 ≤ R.frames) (hlo : 64 * (d' + 1) ≤ R.locals) (hc0 : c0 ≤ A.1) (hs0 : s0 ≤ A.2.1) {P : Option Value → xb_H → Prop} (hr : xr_ok G d' q.2.2.1 0 (lv_args 0 av) [] A (fun o A' => ∃ v, o = .inl v ∧ P v A'))
    (k : ∀ v A', P v A' → A.1 ≤ A'.1 → A.2.1 ≤ A'.2.1 → A'.1 - c0 ≤ R.cells ∧ A'.2.1 - s0 ≤ R.slots ∧ xs_G D cl p l e R s m args below meth c nL c0 s0 Q (pc + 3) L (v.toList ++ rest) A') : xs_G D cl p l e R s m args below meth c nL c0 s0 Q pc L st A := by
  obtain ⟨S, hD, hP, hK, hrows, hin⟩ := Z
  obtain ⟨hd, hxl, -, -, hcall⟩ := hrows pc q hq
  obtain ⟨n, o, A1, h1, v, rfl, hv⟩ := hr
  have m1 := xb_run_mono _ _ _ _ _ _ _ _ h1
  obtain ⟨k1, k2, k3⟩ := k v A1 hv m1.1 m1.2
  obtain ⟨inf', hinf', hcl⟩ := hcall hso hz
  have hl3 : q.2.1 = 3 := by
    obtain ⟨ins, len, r1, r2⟩ := q
    cases ins <;> first | (cases hso; done) | exact hxl
  rw [hl3] at hd
  exact xs_turnC S hD hP hK hd hinf' hcl hpop hrc hal h1 hfr hlo hc0 hs0 k1 k2 k3
end XG
