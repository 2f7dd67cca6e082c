/-! One turn of the small machine, for any room and any end -/
section XU
variable {p : Program} {l : Launch} {e : Env} {R : Room} {s : State} {m : MethodId} {args : Array Value} {below : List Frame} {meth : Method} {c : Code} {Q : State → Prop}
variable {D : xs_D} {cl : List vw_C} {nL c0 s0 : Nat} {cc : ByteArray} {Ts NW : List Cond} {own : String} {pc : Nat} {L : xb_L} {st : List Value} {A A1 : xb_H} {G : xb_G} {TY : List FieldType} {sd : Nat → Option (String × String × String)} {sl : String → Nat → Option Nat} {INF : Nat → Option xs_M}
theorem xs_turnC (S : CallFix p m c cc nL s args Ts own) (hD : xs_ad D) (hP : xs_prog G cl Ts TY NW sd sl INF) (hK : xs_K D G cl TY NW sd sl s) {n d' : Nat} {q : xb_I} {av rest : List Value} {w : Option Value} {inf' : xs_M} (hd : decode cc pc = .ok (q.1, 3)) (hinf' : INF q.2.2.1 = some inf') (hcl : xs_cl own Ts NW cl inf' (xb_gV G q.2.2.1) q.2.2.2 q.1)
    (hpop : xb_pop q.2.2.2 st = some (av, rest)) (hrc : xb_rcv G q.2.2.1 av A = true) (hal : (lg_sl av).length ≤ xb_gN G q.2.2.1) (h1 : xb_run G n d' q.2.2.1 0 (lv_args 0 av) [] A = some (.inl w, A1)) (hfr : d' + 1 ≤ R.frames) (hlo : 64 * (d' + 1) ≤ R.locals) (hc0 : c0 ≤ A.1) (hs0 : s0 ≤ A.2.1) (hcells : A1.1 - c0 ≤ R.cells) (hslots : A1.2.1 - s0 ≤ R.slots)
    (k1 : xs_G D cl p l e R s m args below meth c nL c0 s0 Q (pc + 3) L (w.toList ++ rest) A1) : xs_G D cl p l e R s m args below meth c nL c0 s0 Q pc L st A := by
  obtain ⟨-, hcode', -, hgN', h45', -⟩ := hP.2.2 _ inf' hinf'
  obtain ⟨rfl, hnav, hcat⟩ := xb_pop_spec hpop
  have m1 := xb_run_mono _ _ _ _ _ _ _ _ h1
  dsimp only at m1
  have hM := xs_met (l := l) (D := D) hD hP hinf' (by rw [hgN'] at hal; exact hal) h1
  intro H locs ls hR hl hq
  have hrun := xs_callrun (p := p) (e := e) (R := R) (below := below) (meth := meth) (rest := rest.map (xs_v D.2.2.1)) (locs := locs) (cells := A.1 - c0) (slots := A.2.1 - s0) S hK hP.1 hcode' hcl hd hrc hnav hR hl.1 (by rw [xs_cats]; exact hcat) hM hfr (by omega) (by omega) (by omega)
  intro T hT X
  rw [List.map_append, List.map_reverse]
  obtain ⟨v0, st0, t, T', Lx, e0, X', hL, eh, ev, hqq, hgo⟩ := hrun T hT X
  obtain ⟨e1, hR1⟩ := hqq
  cases e1
  have hal1 : s.vm.Alike t.vm := by rw [← ev]; exact X'.warmed.alike
  have k2 := k1 T'.heap (locs ++ Lx) ls (by rw [eh]; exact hR1.moved hal1.symm) hl (fun z hz' => by
    rcases List.mem_append.mp hz' with hz' | hz'
    · exact hq z hz'
    · exact hL z hz')
  have ec : A1.1 - c0 = A.1 - c0 + (A1.1 - A.1) := by omega
  have es : A1.2.1 - s0 = A.2.1 - s0 + (A1.2.1 - A.2.1) := by omega
  rw [ec, es] at k2
  obtain ⟨t2, a1, b1⟩ := k2 T' rfl X'
  refine ⟨t2, hgo t2 ?_, b1⟩
  have est : (w.toList ++ rest).map (xs_v D.2.2.1) = (w.map (xs_v D.2.2.1)).toList ++ rest.map (xs_v D.2.2.1) := by cases w <;> simp
  rw [est] at a1
  exact a1
theorem xs_turnB (S : CallFix p m c cc nL s args Ts own) (hD : xs_ad D) (hK : xs_K D G cl TY NW sd sl s) {d : Nat} {q : xb_I} {r : xb_S} (hd : decode cc pc = .ok (q.1, 3)) (h1 : xb_bix q.1 q.2.2.2 d pc L A st = some r)
    (hobj : (∃ idx : Nat, q.1 = .invokespecial idx ∧ Cond.methodLink own idx Lib.objectInit ∈ Ts ∧ Cond.instanceMethod Lib.objectInit ∈ Ts ∧ Cond.code Lib.objectInit ⟨#[0xb1]⟩ 1 none ∈ Ts) ∨ xs_bw G own Ts NW TY q) (hfr : d ≤ R.frames) (hlo : 64 * d ≤ R.locals) (hc0 : c0 ≤ A.1) (hs0 : s0 ≤ A.2.1) (hcells : r.2.2.2.1 - c0 ≤ R.cells) (hslots : r.2.2.2.2.1 - s0 ≤ R.slots)
    (k1 : xs_G D cl p l e R s m args below meth c nL c0 s0 Q r.1 r.2.1 r.2.2.1 r.2.2.2) : xs_G D cl p l e R s m args below meth c nL c0 s0 Q pc L st A := by
  have hmono := xb_bix_mono h1
  rcases hobj with ⟨idx, hi, w1, w2, w3⟩ | ⟨idx, hi, hk5, w1, w2, w3, w4⟩ | ⟨idx, hi, hk5, w1, w2, w3, w4⟩ | ⟨idx, hi, hk5, w1, w2, w3, w4⟩ | ⟨idx, hi, hk5, w1, w2, w3, w4, w5⟩ | ⟨idx, hi, hk5, w1⟩ | ⟨idx, hi, hk5, w1⟩
  · rw [hi] at hd h1
    obtain ⟨a, rest, rfl, hd1, hcat, rfl⟩ := xb_objx_spec h1
    intro H locs ls hR hl hq
    refine W.objInit S.1 S.2.1 S.2.2.2.1 (S.2.2.2.2 _ w1) (S.2.2.2.2 _ w2) (S.2.2.2.2 _ w3) rfl (by rw [S.2.2.1]; exact hl.1) rfl hd (by omega) ?_ (k1 H locs ls hR hl hq)
    show 2 * 0 + ((rest.map (xs_v D.2.2.1)).map fun v => v.category).sum + 12 ≤ R.locals
    rw [xs_cats]
    omega
  · rw [hi] at hd
    rw [hi, hk5] at h1
    exact xs_copy S hD h1 hd w1 w2 w3 w4 hfr hlo k1
  · rw [hi] at hd
    rw [hi, hk5] at h1
    obtain ⟨x, y', rest, rfl, hd1, hcat, rfl⟩ := xb_mmx_spec (mx := true) h1
    intro H locs ls hR hl hq
    exact va_mmax S.1 S.2.1 (by rw [S.2.2.1]; exact hl.1.symm) S.2.2.2.1 (S.2.2.2.2 _ w1) (S.2.2.2.2 _ w2) (S.2.2.2.2 _ w3) (S.2.2.2.2 _ w4) (by omega) (by rw [xs_cats]; omega) hcells hslots hd (k1 H locs ls hR hl hq)
  · rw [hi] at hd
    rw [hi, hk5] at h1
    obtain ⟨x, y', rest, rfl, hd1, hcat, rfl⟩ := xb_mmx_spec (mx := false) h1
    intro H locs ls hR hl hq
    exact va_mmin S.1 S.2.1 (by rw [S.2.2.1]; exact hl.1.symm) S.2.2.2.1 (S.2.2.2.2 _ w1) (S.2.2.2.2 _ w2) (S.2.2.2.2 _ w3) (S.2.2.2.2 _ w4) (by omega) (by rw [xs_cats]; omega) hcells hslots hd (k1 H locs ls hR hl hq)
  · rw [hi] at hd
    rw [hi, hk5] at h1
    exact xs_copyo S hD hK w5 h1 hd w1 w2 w3 w4 hfr hlo k1
  · rw [hi] at hd
    rw [hi, hk5] at h1
    exact xs_clone S hD hK h1 hd w1 hfr hlo hc0 hs0 hcells hslots k1
  · rw [hi] at hd
    rw [hi, hk5] at h1
    exact xs_getC S hK h1 hd w1 hfr hlo k1
end XU
/-- the atoms of an exception's making, at every state that comes behind -/
def xs_thr (D : xs_D) (own : String) (ic : Nat) (cls : String) (names : List String) (U0 : State) : Prop := ∀ (U : State) (a' : Array Value), U0.WarmedH U.vm → (∀ q, q < D.2.2.2.1 → U.heap[q]? = D.2.2.2.2.2 q) → ∀ a ∈ Bundle.ownAtoms0 own ic cls names, a.before a' U = true
theorem xs_thr.warm {D : xs_D} {own : String} {ic : Nat} {cls : String} {names : List String} {s U : State} (hW : s.WarmedH U.vm) (h : xs_thr D own ic cls names s) : xs_thr D own ic cls names U := fun V a' hV hh => h V a' (State.WarmedH.trans hW hV) hh
/-- a place where an exception of a kind is made and thrown -/
def xs_site (D : xs_D) (Ts : List Cond) (en : Nat → String × List String) (inf : xs_M) (s : State) (pc : Nat) (q : xb_I) : Prop :=
  ∃ idx ic : Nat, q.1 = .new idx ∧ q.2.1 = 3 ∧ decode inf.2.1 (pc + 3) = .ok (.dup, 1) ∧ decode inf.2.1 (pc + 4) = .ok (.invokespecial ic, 3) ∧ decode inf.2.1 (pc + 7) = .ok (.athrow, 1) ∧
    Cond.classLink inf.1.cls idx (en q.2.2.1).1 ∈ Ts ∧ Cond.instantiable (en q.2.2.1).1 6 ∈ Ts ∧ Cond.initialized (en q.2.2.1).1 ∈ Ts ∧ Bundle.fit (en q.2.2.1).1 = true ∧ (∀ n ∈ (en q.2.2.1).2, Bundle.fit n = true) ∧ (en q.2.2.1).2.length ≤ 3 ∧ xs_thr D inf.1.cls ic (en q.2.2.1).1 (en q.2.2.1).2 s
section XV
variable {l : Launch} {D : xs_D} {cl : List vw_C} {Ts NW : List Cond} {G : xb_G} {TY : List FieldType} {sd : Nat → Option (String × String × String)} {sl : String → Nat → Option Nat} {INF : Nat → Option xs_M} {en : Nat → String × List String}
set_option maxHeartbeats 2000000 in
theorem xs_soundT (hD : xs_ad D) (hP : xs_prog G cl Ts TY NW sd sl INF) (hfl : l.flags = pinnedFlags ++ [noTraceFlag]) : ∀ (n d y pc : Nat) (L : xb_L) (st : List Value) (A : xb_H) (k : Nat) (A' : xb_H), xb_run G n d y pc L st A = some (.inr k, A') → ∀ (inf : xs_M), INF y = some inf →
    ∀ (p : Program) (e : Env) (s : State) (m : MethodId) (args : Array Value) (below : List Frame) (meth : Method) (c : Code) (c0 s0 : Nat), xs_B p s m args meth c Ts inf → xs_K D G cl TY NW sd sl s → c.exceptionTable.toList = [] → (∀ (pc : Nat) (q : xb_I), xb_gP G y pc = some q → xb_sort q.1 = 6 → ¬ q.2.2.2 = 0 → xs_site D Ts en inf s pc q) → c0 ≤ A.1 → s0 ≤ A.2.1 →
      xs_G D cl p l e (xs_rm d (A'.1 - c0) (A'.2.1 - s0)) s m args below meth c inf.2.2.1 c0 s0 (xs_TQ D cl (en k).1 A' below s (A'.1 - c0) (A'.2.1 - s0)) pc L st A := by
  intro n
  induction n with
  | zero => intro d y pc L st A k A' h; cases h
  | succ n ih =>
    intro d y pc L st A k A' h inf hinf p e s m args below meth c c0 s0 hB hK hnoh hsite hc0 hs0
    obtain ⟨S, hret, hlocks, hname⟩ := hB
    obtain ⟨hplain, hcode, hgR, hgN, h45, hrows⟩ := hP.2.2 y inf hinf
    obtain ⟨q, hq, hcase⟩ := xb_run_spec h
    obtain ⟨hd, hxl, hlk, hobj, hcall⟩ := hrows pc q hq
    rcases hcase with ⟨r, hso, h1, h2⟩ | ⟨hso, h1⟩ | ⟨hso, h1⟩ | ⟨hso, h1⟩ | ⟨hso, h1⟩ | ⟨hso, hz, r, h1, h2⟩ | ⟨hso, hz, d', av, rest, w, A1, rfl, hpop, hrc, hal, h1, h2⟩ | ⟨hso, hz, h8, rfl, h1⟩
    · have m1 := xb_pure_mono h1
      have m2 := xb_run_mono _ _ _ _ _ _ _ _ h2
      dsimp only at m2
      refine xs_pure S hD hK hP.2.1 (fun hi => by rw [hname]; simpa using hi) h1 hd hxl (hlk hso) hc0 hs0 ?_ ?_ (ih _ _ _ _ _ _ _ _ h2 inf hinf p e s m args below meth c c0 s0 ⟨S, hret, hlocks, hname⟩ hK hnoh hsite (Nat.le_trans hc0 m1.1) (Nat.le_trans hs0 m1.2))
      · show _ ≤ A'.1 - c0
        omega
      · show _ ≤ A'.2.1 - s0
        omega
    · obtain ⟨x, t, -, -, -, e1⟩ := xb_retI_spec h1
      cases e1
    · obtain ⟨x, -, -, e1⟩ := xb_retL_spec h1
      cases e1
    · obtain ⟨x, -, -, -, e1⟩ := xb_retA_spec h1
      cases e1
    · obtain ⟨-, -, e1⟩ := xb_retV_spec h1
      cases e1
    · have m1 := xb_bix_mono h1
      have m2 := xb_run_mono _ _ _ _ _ _ _ _ h2
      dsimp only at m2
      have hl3 : q.2.1 = 3 := by
        obtain ⟨ins, len, r1, r2⟩ := q
        cases ins <;> first | (cases hso; done) | exact hxl
      rw [hl3] at hd
      exact xs_turnB S hD hK hd h1 (hobj hso hz) (Nat.le_refl _) (Nat.le_refl _) hc0 hs0 (by show _ ≤ A'.1 - c0; omega) (by show _ ≤ A'.2.1 - s0; omega) (ih _ _ _ _ _ _ _ _ h2 inf hinf p e s m args below meth c c0 s0 ⟨S, hret, hlocks, hname⟩ hK hnoh hsite (Nat.le_trans hc0 m1.1) (Nat.le_trans hs0 m1.2))
    · obtain ⟨inf', hinf', hcl⟩ := hcall hso hz
      have m1 := xb_run_mono _ _ _ _ _ _ _ _ h1
      have m2 := xb_run_mono _ _ _ _ _ _ _ _ h2
      dsimp only at m1 m2
      have hl3 : q.2.1 = 3 := by
        obtain ⟨ins, len, r1, r2⟩ := q
        cases ins <;> first | (cases hso; done) | exact hxl
      rw [hl3] at hd
      exact xs_turnC S hD hP hK hd hinf' hcl hpop hrc hal h1 (Nat.le_refl _) (Nat.le_refl _) hc0 hs0 (by show A1.1 - c0 ≤ A'.1 - c0; omega) (by show A1.2.1 - s0 ≤ A'.2.1 - s0; omega) (ih _ _ _ _ _ _ _ _ h2 inf hinf p e s m args below meth c c0 s0 ⟨S, hret, hlocks, hname⟩ hK hnoh hsite (Nat.le_trans hc0 m1.1) (Nat.le_trans hs0 m1.2))
    · cases h1
      obtain ⟨idx, ic, e1, e2, t3, t4, t7, w1, w2, w3, f1, f2, f3, hthr⟩ := hsite pc q hq hso hz
      rw [e1, e2] at hd
      exact xs_throw S hP.1 hD hlocks (fun x hx => by rw [hnoh] at hx; cases hx) hfl hd t3 t4 t7 w1 w2 w3 f1 f2 hthr h8 f3 (Nat.le_refl _) (Nat.le_refl _) hc0 hs0 (Nat.le_refl _) (Nat.le_refl _)
end XV
