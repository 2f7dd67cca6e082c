section XR
variable {l : Launch} {D : xs_D} {cl : List vw_C} {Ts NW : List Cond} {G : xb_G} {TY : List FieldType} {sd : Nat → Option (String × String × String)} {sl : String → Nat → Option Nat} {INF : Nat → Option xs_M}
theorem xs_met_of (hP : xs_prog G cl Ts TY NW sd sl INF) {d y : Nat} {inf : xs_M} (hinf : INF y = some inf) {av : List Value} {A A' : xb_H} {v : Option Value} (hlen : (lg_sl av).length ≤ inf.2.2.1)
    (ih : ∀ (p : Program) (e : Env) (s : State) (m : MethodId) (args : Array Value) (below : List Frame) (meth : Method) (c : Code) (c0 s0 : Nat), xs_B p s m args meth c Ts inf → xs_K D G cl TY NW sd sl s → c0 ≤ A.1 → s0 ≤ A.2.1 →
      xs_G D cl p l e (xs_rm d (A'.1 - c0) (A'.2.1 - s0)) s m args below meth c inf.2.2.1 c0 s0 (MQ below (xs_Q D cl v A') args s (A'.1 - c0) (A'.2.1 - s0) (xs_fr D)) 0 (lv_args 0 av) [] A) :
    Met l inf.1 (Cond.code inf.1 inf.2.1 inf.2.2.1 inf.2.2.2 :: Ts) (xs_rm d (A'.1 - A.1) (A'.2.1 - A.2.1)) (xs_P D G cl TY NW sd sl av A) (xs_Q D cl v A') (A'.1 - A.1) (A'.2.1 - A.2.1) (xs_fr D) := by
  refine Met.ofW (cc := inf.2.1) (maxL := inf.2.2.1) (ret := inf.2.2.2) (hP.2.2 y inf hinf).1 rfl ?_
  intro p e s m args below meth c s₁ B hml hv
  obtain ⟨rfl, hR, hK⟩ := hv
  have hts := atoms_spec (ws := Cond.code inf.1 inf.2.1 inf.2.2.1 inf.2.2.2 :: Ts) B.pre
  have w := ih p e s m _ below meth c A.1 A.2.1 ⟨⟨B.exec, B.bytes, hml, findClass_of_methodNamed B.named, fun w hw => hts w (List.mem_cons_of_mem _ hw)⟩, B.returns, B.notSynchronized, (name_of_methodNamed B.named B.method).1⟩ hK (Nat.le_refl _) (Nat.le_refl _)
  have hl := lv_entry (av.map (xs_v D.2.2.1)) (n := inf.2.2.1) (by rw [xs_sl]; exact hlen)
  rw [lg_entry_eq]
  rw [← xs_args] at hl
  have w2 := w s.heap [] _ hR hl (fun _ h => by cases h)
  rw [Nat.sub_self, Nat.sub_self] at w2
  exact w2
set_option maxHeartbeats 2000000 in
theorem xs_sound (hD : xs_ad D) (hP : xs_prog G cl Ts TY NW sd sl INF) : ∀ (n d y pc : Nat) (L : xb_L) (st : List Value) (A : xb_H) (v : Option Value) (A' : xb_H), xb_run G n d y pc L st A = some (.inl v, A') → ∀ (inf : xs_M), INF y = some inf →
    ∀ (p : Program) (e : Env) (s : State) (m : MethodId) (args : Array Value) (below : List Frame) (meth : Method) (c : Code) (c0 s0 : Nat), xs_B p s m args meth c Ts inf → xs_K D G cl TY NW sd sl s → c0 ≤ A.1 → s0 ≤ A.2.1 →
      xs_G D cl p l e (xs_rm d (A'.1 - c0) (A'.2.1 - s0)) s m args below meth c inf.2.2.1 c0 s0 (MQ below (xs_Q D cl v A') args s (A'.1 - c0) (A'.2.1 - s0) (xs_fr D)) pc L st A := by
  intro n
  induction n with
  | zero => intro d y pc L st A v A' h; cases h
  | succ n ih =>
    intro d y pc L st A v A' h inf hinf p e s m args below meth c c0 s0 hB hK hc0 hs0
    obtain ⟨S, hret, hlocks, hname⟩ := hB
    obtain ⟨hplain, hcode, hgR, hgN, h45, hrows⟩ := hP.2.2 y inf hinf
    obtain ⟨q, hq, hcase⟩ := xb_run_spec h
    obtain ⟨hd, hxl, hlk, hobj, hcall⟩ := hrows pc q hq
    rcases hcase with ⟨r, hso, h1, h2⟩ | ⟨hso, h1⟩ | ⟨hso, h1⟩ | ⟨hso, h1⟩ | ⟨hso, h1⟩ | ⟨hso, hz, r, h1, h2⟩ | ⟨hso, hz, d', av, rest, w, A1, rfl, hpop, hrc, hal, h1, h2⟩ | ⟨-, -, -, -, h1⟩
    · have m1 := xb_pure_mono h1
      have m2 := xb_run_mono _ _ _ _ _ _ _ _ h2
      dsimp only at m2
      refine xs_pure S hD hK hP.2.1 (fun hi => by rw [hname]; simpa using hi) h1 hd hxl (hlk hso) hc0 hs0 ?_ ?_ (ih _ _ _ _ _ _ _ _ h2 inf hinf p e s m args below meth c c0 s0 ⟨S, hret, hlocks, hname⟩ hK (Nat.le_trans hc0 m1.1) (Nat.le_trans hs0 m1.2))
      · show _ ≤ A'.1 - c0
        omega
      · show _ ≤ A'.2.1 - s0
        omega
    · obtain ⟨x, t, rfl, ht, hn, e1⟩ := xb_retI_spec h1
      cases e1
      obtain ⟨ins, len, r1, r2⟩ := q
      cases ins <;> first | (cases hso; done) | skip
      have hl : len = 1 := hxl
      subst hl
      intro H locs ls hR hl hq
      exact W.zret S.1 S.2.1 (hret.trans (hgR.symm.trans ht)) hn (fun t ht hW => ⟨rfl, by rw [ht]; exact hR.moved hW.alike⟩) hq hd hlocks
    · obtain ⟨x, rfl, ht, e1⟩ := xb_retL_spec h1
      cases e1
      obtain ⟨ins, len, r1, r2⟩ := q
      cases ins <;> first | (cases hso; done) | skip
      have hl : len = 1 := hxl
      subst hl
      intro H locs ls hR hl hq
      exact W.lret S.1 S.2.1 (hret.trans (hgR.symm.trans ht)) (fun t ht hW => ⟨rfl, by rw [ht]; exact hR.moved hW.alike⟩) hq hd hlocks
    · obtain ⟨x, rfl, hx, ht, e1⟩ := xb_retA_spec h1
      cases e1
      obtain ⟨ins, len, r1, r2⟩ := q
      cases ins <;> first | (cases hso; done) | skip
      have hl : len = 1 := hxl
      subst hl
      have hrt : ∃ rt : FieldType, xb_gR G y = some rt ∧ ((∃ n, rt = .object n) ∨ ∃ t, rt = .array t) := by
        cases hg : xb_gR G y with
        | none => rw [hg] at ht; cases ht
        | some rt =>
          rw [hg] at ht
          cases rt <;> first | (cases ht; done) | exact ⟨_, rfl, Or.inl ⟨_, rfl⟩⟩ | exact ⟨_, rfl, Or.inr ⟨_, rfl⟩⟩
      obtain ⟨rt, hg, hrt⟩ := hrt
      intro H locs ls hR hl hq
      exact W.aret (v := xs_v D.2.2.1 x) S.1 S.2.1 (hret.trans (hgR.symm.trans hg)) hrt (by rcases hx with rfl | ⟨a, rfl⟩; exact Or.inl rfl; exact Or.inr ⟨_, rfl⟩) (fun t ht hW => ⟨rfl, by rw [ht]; exact hR.moved hW.alike⟩) hq hd hlocks
    · obtain ⟨rfl, ht, e1⟩ := xb_retV_spec h1
      cases e1
      obtain ⟨ins, len, r1, r2⟩ := q
      cases ins <;> first | (cases hso; done) | skip
      have hl : len = 1 := hxl
      subst hl
      intro H locs ls hR hl hq
      exact W.vret S.1 S.2.1 (hret.trans (hgR.symm.trans ht)) (fun t ht hW => ⟨rfl, by rw [ht]; exact hR.moved hW.alike⟩) hq hd hlocks
    · have m1 := xb_bix_mono h1
      have k1 := ih _ _ _ _ _ _ _ _ h2 inf hinf p e s m args below meth c c0 s0 ⟨S, hret, hlocks, hname⟩ hK (Nat.le_trans hc0 m1.1) (Nat.le_trans hs0 m1.2)
      have hl3 : q.2.1 = 3 := by
        obtain ⟨ins, len, r1, r2⟩ := q
        cases ins <;> first | (cases hso; done) | exact hxl
      rw [hl3] at hd
      rcases hobj hso hz with ⟨idx, hi, w1, w2, w3⟩ | ⟨idx, hi, hk5, w1, w2, w3, w4⟩ | ⟨idx, hi, hk5, w1, w2, w3, w4⟩ | ⟨idx, hi, hk5, w1, w2, w3, w4⟩ | ⟨idx, hi, hk5, w1, w2, w3, w4, w5⟩ | ⟨idx, hi, hk5, w1⟩ | ⟨idx, hi, hk5, w1⟩
      · rw [hi] at hd h1
        obtain ⟨a, rest, rfl, hd1, hcat, rfl⟩ := xb_objx_spec h1
        intro H locs ls hR hl hq
        refine W.objInit S.1 S.2.1 S.2.2.2.1 (S.2.2.2.2 _ w1) (S.2.2.2.2 _ w2) (S.2.2.2.2 _ w3) rfl (by rw [S.2.2.1]; exact hl.1) rfl hd hd1 ?_ (k1 H locs ls hR hl hq)
        show 2 * 0 + ((rest.map (xs_v D.2.2.1)).map fun v => v.category).sum + 12 ≤ 64 * d
        rw [xs_cats]
        omega
      · rw [hi] at hd
        rw [hi, hk5] at h1
        exact xs_copy S hD h1 hd w1 w2 w3 w4 (Nat.le_refl _) (Nat.le_refl _) k1
      · rw [hi] at hd
        rw [hi, hk5] at h1
        obtain ⟨x, y', rest, rfl, hd1, hcat, rfl⟩ := xb_mmx_spec (mx := true) h1
        have m2 := xb_run_mono _ _ _ _ _ _ _ _ h2
        dsimp only at m2
        intro H locs ls hR hl hq
        exact va_mmax S.1 S.2.1 (by rw [S.2.2.1]; exact hl.1.symm) S.2.2.2.1 (S.2.2.2.2 _ w1) (S.2.2.2.2 _ w2) (S.2.2.2.2 _ w3) (S.2.2.2.2 _ w4) hd1 (by show ((rest.map (xs_v D.2.2.1)).map fun v => v.category).sum + 13 ≤ 64 * d; rw [xs_cats]; omega) (by show A.1 - c0 ≤ A'.1 - c0; omega) (by show A.2.1 - s0 ≤ A'.2.1 - s0; omega) hd (k1 H locs ls hR hl hq)
      · rw [hi] at hd
        rw [hi, hk5] at h1
        obtain ⟨x, y', rest, rfl, hd1, hcat, rfl⟩ := xb_mmx_spec (mx := false) h1
        have m2 := xb_run_mono _ _ _ _ _ _ _ _ h2
        dsimp only at m2
        intro H locs ls hR hl hq
        exact va_mmin S.1 S.2.1 (by rw [S.2.2.1]; exact hl.1.symm) S.2.2.2.1 (S.2.2.2.2 _ w1) (S.2.2.2.2 _ w2) (S.2.2.2.2 _ w3) (S.2.2.2.2 _ w4) hd1 (by show ((rest.map (xs_v D.2.2.1)).map fun v => v.category).sum + 13 ≤ 64 * d; rw [xs_cats]; omega) (by show A.1 - c0 ≤ A'.1 - c0; omega) (by show A.2.1 - s0 ≤ A'.2.1 - s0; omega) hd (k1 H locs ls hR hl hq)
      · rw [hi] at hd
        rw [hi, hk5] at h1
        exact xs_copyo S hD hK w5 h1 hd w1 w2 w3 w4 (Nat.le_refl _) (Nat.le_refl _) k1
      · rw [hi] at hd
        rw [hi, hk5] at h1
        have m2 := xb_run_mono _ _ _ _ _ _ _ _ h2
        dsimp only at m2
        exact xs_clone S hD hK h1 hd w1 (Nat.le_refl _) (Nat.le_refl _) hc0 hs0 (by show _ ≤ A'.1 - c0; omega) (by show _ ≤ A'.2.1 - s0; omega) k1
      · rw [hi] at hd
        rw [hi, hk5] at h1
        exact xs_getC S hK h1 hd w1 (Nat.le_refl _) (Nat.le_refl _) k1
    · obtain ⟨inf', hinf', hcl⟩ := hcall hso hz
      obtain ⟨-, hcode', -, hgN', h45', -⟩ := hP.2.2 _ inf' hinf'
      obtain ⟨rfl, hnav, hcat⟩ := xb_pop_spec hpop
      have m1 := xb_run_mono _ _ _ _ _ _ _ _ h1
      have m2 := xb_run_mono _ _ _ _ _ _ _ _ h2
      dsimp only at m1 m2
      have hM := xs_met_of (l := l) (D := D) (v := w) (A' := A1) hP hinf' (by rw [hgN'] at hal; exact hal) (ih _ _ _ _ _ _ _ _ h1 inf' hinf')
      have k1 := ih _ _ _ _ _ _ _ _ h2 inf hinf p e s m args below meth c c0 s0 ⟨S, hret, hlocks, hname⟩ hK (Nat.le_trans hc0 m1.1) (Nat.le_trans hs0 m1.2)
      have hl3 : q.2.1 = 3 := by
        obtain ⟨ins, len, r1, r2⟩ := q
        cases ins <;> first | (cases hso; done) | exact hxl
      rw [hl3] at hd
      intro H locs ls hR hl hq
      have hrun := xs_callrun (p := p) (e := e) (R := xs_rm (d' + 1) (A'.1 - c0) (A'.2.1 - s0)) (below := below) (meth := meth) (rest := rest.map (xs_v D.2.2.1)) (locs := locs) (cells := A.1 - c0) (slots := A.2.1 - s0) S hK hP.1 hcode' hcl hd hrc hnav hR hl.1 (by rw [xs_cats]; exact hcat) hM (Nat.le_refl _) (by show 8 + (inf'.2.2.1 + 11) + 64 * d' ≤ 64 * (d' + 1); omega) (by show A.1 - c0 + (A1.1 - A.1) ≤ A'.1 - c0; omega) (by show A.2.1 - s0 + (A1.2.1 - A.2.1) ≤ A'.2.1 - s0; omega)
      intro T hT X
      rw [List.map_append, List.map_reverse]
      obtain ⟨v0, st0, t, T', Lx, e0, X', hL, eh, ev, hqq, hgo⟩ := hrun T hT X
      obtain ⟨e1, hR1⟩ := hqq
      cases e1
      have hal1 : s.vm.Alike t.vm := by rw [← ev]; exact X'.warmed.alike
      have k2 := k1 T'.heap (locs ++ Lx) ls (by rw [eh]; exact hR1.moved hal1.symm) hl (fun z hz' => by
        rcases List.mem_append.mp hz' with hz' | hz'
        · exact hq z hz'
        · exact hL z hz')
      have ec : A1.1 - c0 = A.1 - c0 + (A1.1 - A.1) := by omega
      have es : A1.2.1 - s0 = A.2.1 - s0 + (A1.2.1 - A.2.1) := by omega
      rw [ec, es] at k2
      obtain ⟨t2, a1, b1⟩ := k2 T' rfl X'
      refine ⟨t2, hgo t2 ?_, b1⟩
      have est : (w.toList ++ rest).map (xs_v D.2.2.1) = (w.map (xs_v D.2.2.1)).toList ++ rest.map (xs_v D.2.2.1) := by cases w <;> simp
      rw [est] at a1
      exact a1
    · cases h1
/-- THE CONTRACT OF A METHOD out of a run of the small machine -/
theorem xs_met (hD : xs_ad D) (hP : xs_prog G cl Ts TY NW sd sl INF) {n d y : Nat} {inf : xs_M} (hinf : INF y = some inf) {av : List Value} {A A' : xb_H} {v : Option Value} (hlen : (lg_sl av).length ≤ inf.2.2.1) (hr : xb_run G n d y 0 (lv_args 0 av) [] A = some (.inl v, A')) :
    Met l inf.1 (Cond.code inf.1 inf.2.1 inf.2.2.1 inf.2.2.2 :: Ts) (xs_rm d (A'.1 - A.1) (A'.2.1 - A.2.1)) (xs_P D G cl TY NW sd sl av A) (xs_Q D cl v A') (A'.1 - A.1) (A'.2.1 - A.2.1) (xs_fr D) :=
  xs_met_of hP hinf hlen (xs_sound hD hP n d y 0 (lv_args 0 av) [] A v A' hr inf hinf)
end XR
