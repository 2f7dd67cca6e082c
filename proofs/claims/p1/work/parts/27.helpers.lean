/-! The law's helpers: a call of the class that may throw, and what the handlers answer -/
def xp_code (cc : ByteArray) (idx t : Nat) : Prop := decode cc 0 = .ok (.aload_n 2, 1) ∧ decode cc 1 = .ok (.iconst 0, 1) ∧ decode cc 2 = .ok (.aload_n 0, 1) ∧ decode cc 3 = .ok (.iload_n 1, 1) ∧ decode cc 4 = .ok (.invokevirtual idx, 3) ∧ decode cc 7 = .ok (.i2l, 1) ∧ decode cc 8 = .ok (.lastore, 1) ∧
  (∃ off : Int, decode cc 9 = .ok (.goto off, 3) ∧ ((9 : Nat) : Int) + off = (t : Int)) ∧ decode cc t = .ok (.iconst 0, 1) ∧ decode cc (t + 1) = .ok (.ireturn, 1)
def xp_hnd (cc : ByteArray) (pc : Nat) (v : Int) : Prop := decode cc pc = .ok (.astore_n 3, 1) ∧ decode cc (pc + 1) = .ok (.iconst v, 1) ∧ decode cc (pc + 1 + 1) = .ok (.ireturn, 1)
/-- the words of the call -/
def xp_call (own : String) (Ts : List Cond) (cl : List vw_C) (G : xb_G) (y idx : Nat) (inf : xs_M) : Prop :=
  (inf.1.cls ≠ "java/lang/invoke/MethodHandle" ∧ inf.1.cls ≠ "java/lang/invoke/VarHandle") ∧ Cond.initialized inf.1.cls ∈ Ts ∧ ∃ (k : Nat) (r : vw_C), xb_gV G y = some k ∧ cl[k]? = some r ∧ (parseMethodDescriptor inf.1.desc).map (fun d => d.parameters.length) = some 1 ∧ Cond.instanceMethod inf.1 ∈ Ts ∧ Cond.methodLink own idx inf.1 ∈ Ts ∧ Cond.selects r.1 inf.1 inf.1 ∈ Ts
section XPH
variable {p : Program} {l : Launch} {e : Env} {R : Room} {s : State} {m : MethodId} {args : Array Value} {below : List Frame} {meth : Method} {c : Code} {Q : State → Prop}
variable {D : xs_D} {cl : List vw_C} {c0 s0 : Nat} {cc : ByteArray} {Ts NW : List Cond} {own : String} {A A1 : xb_H} {G : xb_G} {TY : List FieldType} {sd : Nat → Option (String × String × String)} {sl : String → Nat → Option Nat} {INF : Nat → Option xs_M}
theorem xp_four (S : CallFix p m c cc 4 s args Ts own) (hD : xs_ad D) (hP : xs_prog G cl Ts TY NW sd sl INF) (hK : xs_K D G cl TY NW sd sl s) {idx t a b : Nat} {x : Int32} (hcode : xp_code cc idx t) (hc0 : c0 ≤ A.1) (hs0 : s0 ≤ A.2.1) (hcells : A.1 - c0 ≤ R.cells) (hslots : A.2.1 - s0 ≤ R.slots)
    (k : xs_G D cl p l e R s m args below meth c 4 c0 s0 Q 4 [(0, .ref a), (1, .int x), (2, .ref b)] [.int x, .ref a, .int 0, .ref b] A) : xs_G D cl p l e R s m args below meth c 4 c0 s0 Q 0 [(0, .ref a), (1, .int x), (2, .ref b)] [] A := by
  obtain ⟨d0, d1, d2, d3, -⟩ := hcode
  refine xs_pure (ini := false) S hD hK hP.2.1 (fun h => by cases h) (q := (.aload_n 2, 1, 0, 0)) rfl d0 rfl trivial hc0 hs0 hcells hslots ?_
  refine xs_pure (ini := false) S hD hK hP.2.1 (fun h => by cases h) (q := (.iconst 0, 1, 0, 0)) rfl d1 rfl trivial hc0 hs0 hcells hslots ?_
  refine xs_pure (ini := false) S hD hK hP.2.1 (fun h => by cases h) (q := (.aload_n 0, 1, 0, 0)) rfl d2 rfl trivial hc0 hs0 hcells hslots ?_
  refine xs_pure (ini := false) S hD hK hP.2.1 (fun h => by cases h) (q := (.iload_n 1, 1, 0, 0)) rfl d3 rfl trivial hc0 hs0 hcells hslots ?_
  exact k
theorem xp_back (S : CallFix p m c cc 4 s args Ts own) (hD : xs_ad D) (hP : xs_prog G cl Ts TY NW sd sl INF) (hK : xs_K D G cl TY NW sd sl s) (hret : meth.sig.returnType = some .int) (hlocks : meth.locks = false) {idx t y n d a b nb : Nat} {x v : Int32} {inf' : xs_M} {f : Nat → Int64} (hcode : xp_code cc idx t) (hinf' : INF y = some inf') (hcall : xp_call own Ts cl G y idx inf')
    (hrc : xb_rcv G y [.ref a, .int x] A = true) (hN : 2 ≤ xb_gN G y) (hrun : xb_run G n d y 0 (lv_args 0 [.ref a, .int x]) [] A = some (.inl (some (.int v)), A1)) (hb : xb_get A1 b = some (.inl (.long, nb, .inr (.inl f)))) (hb0 : 0 < nb) (hbz : xb_z ≤ b)
    (hc0 : c0 ≤ A.1) (hs0 : s0 ≤ A.2.1) (hfr : d + 1 ≤ R.frames) (hlo : 64 * (d + 1) ≤ R.locals) (hcells : A1.1 - c0 ≤ R.cells) (hslots : A1.2.1 - s0 ≤ R.slots) :
    xs_G D cl p l e R s m args below meth c 4 c0 s0 (MQ below (xs_Q D cl (some (.int 0)) (xb_set A1 b (.inl (.long, nb, .inr (.inl (va_up f 0 v.toInt64)))))) args s (A1.1 - c0) (A1.2.1 - s0) (xs_fr D)) 0 [(0, .ref a), (1, .int x), (2, .ref b)] [] A := by
  have m1 := xb_run_mono _ _ _ _ _ _ _ _ hrun
  dsimp only at m1
  refine xp_four (idx := idx) (t := t) S hD hP hK hcode hc0 hs0 (by omega) (by omega) ?_
  obtain ⟨-, -, -, -, d4, d7, d8, ⟨off, d9, e9⟩, dt, dt1⟩ := hcode
  obtain ⟨hy, hini, k, r, g1, g2, g3, g4, g5, g6⟩ := hcall
  have hcl : xs_cl own Ts NW cl inf' (xb_gV G y) 2 (.invokevirtual idx) := ⟨hy, hini, Or.inr (Or.inr (Or.inl ⟨idx, k, 1, r, rfl, g1, g2, rfl, g3, g4, g5, g6⟩))⟩
  refine xs_turnC (q := (.invokevirtual idx, 3, y, 2)) (av := [.ref a, .int x]) (rest := [.int 0, .ref b]) S hD hP hK d4 hinf' hcl rfl hrc hN hrun hfr hlo hc0 hs0 hcells hslots ?_
  have hc1 : c0 ≤ A1.1 := Nat.le_trans hc0 m1.1
  have hs1 : s0 ≤ A1.2.1 := Nat.le_trans hs0 m1.2
  refine xs_pure (ini := false) S hD hK hP.2.1 (fun h => by cases h) (q := (.i2l, 1, 0, 0)) rfl d7 rfl trivial hc1 hs1 hcells hslots ?_
  have hst : xb_pure G (.lastore, 1, 0, 0) 8 [(0, .ref a), (1, .int x), (2, .ref b)] [.long v.toInt64, .int 0, .ref b] A1 = some (9, [(0, .ref a), (1, .int x), (2, .ref b)], [], xb_set A1 b (.inl (.long, nb, .inr (.inl (va_up f 0 v.toInt64))))) := by
    have hin : xb_in 0 nb = true := by
      unfold xb_in
      have : ¬ nb ≤ (0 : Int32).toNatClampNeg := by
        have e0 : (0 : Int32).toNatClampNeg = 0 := rfl
        omega
      simp only [this, decide_false, Bool.or_false]
      rfl
    have h8 : xb_pure G (.lastore, 1, 0, 0) 8 [(0, .ref a), (1, .int x), (2, .ref b)] [.long v.toInt64, .int 0, .ref b] A1 = xb_las 8 [(0, .ref a), (1, .int x), (2, .ref b)] A1 [.long v.toInt64, .int 0, .ref b] := rfl
    rw [h8]
    simp only [xb_las, hb]
    rw [if_pos ⟨trivial, hbz, hin⟩]
    rfl
  refine xs_pure (ini := false) S hD hK hP.2.1 (fun h => by cases h) (q := (.lastore, 1, 0, 0)) hst d8 rfl trivial hc1 hs1 hcells hslots ?_
  refine xs_pure (ini := false) S hD hK hP.2.1 (fun h => by cases h) (q := (.goto off, 3, t, 0)) rfl d9 ⟨rfl, e9⟩ trivial hc1 hs1 hcells hslots ?_
  refine xs_pure (ini := false) S hD hK hP.2.1 (fun h => by cases h) (q := (.iconst 0, 1, 0, 0)) rfl dt rfl trivial hc1 hs1 hcells hslots ?_
  intro H locs ls hR hl hq
  exact W.iret S.1 S.2.1 hret (fun t ht hW => ⟨rfl, by rw [ht]; exact hR.moved hW.alike⟩) hq dt1 hlocks
theorem xp_caught (S : CallFix p m c cc 4 s args Ts own) (hD : xs_ad D) (hP : xs_prog G cl Ts TY NW sd sl INF) (hK : xs_K D G cl TY NW sd sl s) (hret : meth.sig.returnType = some .int) (hlocks : meth.locks = false) (hfl : l.flags = pinnedFlags ++ [noTraceFlag]) {en : Nat → String × List String} {idx t y n d a b k : Nat} {x : Int32} {inf' : xs_M} (hcode : xp_code cc idx t) (hinf' : INF y = some inf') (hcall : xp_call own Ts cl G y idx inf')
    (hrc : xb_rcv G y [.ref a, .int x] A = true) (hN : 2 ≤ xb_gN G y) (hrun : xb_run G n d y 0 (lv_args 0 [.ref a, .int x]) [] A = some (.inr k, A1)) (hsite : ∀ U : State, s.WarmedH U.vm → ∀ (pc : Nat) (q : xb_I), xb_gP G y pc = some q → xb_sort q.1 = 6 → ¬ q.2.2.2 = 0 → xs_site D Ts en inf' U pc q)
    {cE : ClassId} (hcE : s.vm.findClass (en k).1 = some cE) (hk0 : ∃ k, s.vm.classes[cE]? = some k) {pre : List (ExceptionTableEntry × String)} {x0 : ExceptionTableEntry} {rest : List ExceptionTableEntry} {v : Int} (hsplit : c.exceptionTable.toList = pre.map (·.1) ++ x0 :: rest)
    (hpre : ∀ q ∈ pre, covers q.1 4 = true ∧ q.1.catchType ≠ 0 ∧ (Cond.classLink own q.1.catchType q.2).before args s = true ∧ ∃ c', s.vm.findClass q.2 = some c' ∧ s.vm.assignable cE c' = false)
    (hx0 : covers x0 4 = true) (h00 : x0.catchType ≠ 0) (hlink : (Cond.classLink own x0.catchType (en k).1).before args s = true) (hself : s.vm.assignable cE cE = true) (hh : xp_hnd cc x0.handlerPc v)
    (hc0 : c0 ≤ A.1) (hs0 : s0 ≤ A.2.1) (hfr : d + 1 ≤ R.frames) (hlo : 64 * (d + 1) ≤ R.locals) (hcells : A1.1 - c0 ≤ R.cells) (hslots : A1.2.1 - s0 ≤ R.slots) :
    xs_G D cl p l e R s m args below meth c 4 c0 s0 (MQ below (xs_Q D cl (some (.int (Int32.ofInt v))) A1) args s (A1.1 - c0) (A1.2.1 - s0) (xs_fr D)) 0 [(0, .ref a), (1, .int x), (2, .ref b)] [] A := by
  have m1 := xb_run_mono _ _ _ _ _ _ _ _ hrun
  dsimp only at m1
  refine xp_four (idx := idx) (t := t) S hD hP hK hcode hc0 hs0 (by omega) (by omega) ?_
  obtain ⟨-, -, -, -, d4, -⟩ := hcode
  obtain ⟨hy, hini, kc, r, g1, g2, g3, g4, g5, g6⟩ := hcall
  obtain ⟨h1, h2, h3⟩ := hh
  obtain ⟨-, hcode', -, hgN', h45', -⟩ := hP.2.2 _ inf' hinf'
  have hM := xs_metT (l := l) (en := en) (KT := fun U => s.WarmedH U.vm) hD hP hfl hinf' (av := [.ref a, .int x]) (by show 2 ≤ inf'.2.2.1; rw [← hgN']; exact hN) hrun hsite
  obtain ⟨a', As, fs, ea, hg0⟩ := xb_rcv_spec hrc g1
  cases ea
  intro H locs ls hR hl hq T hT X
  have ec : A1.1 - c0 = A.1 - c0 + (A1.1 - A.1) := by omega
  have es : A1.2.1 - s0 = A.2.1 - s0 + (A1.2.1 - A.2.1) := by omega
  obtain ⟨xa, ce, T', L, X', hL, hR', hce, hcv, hcc, hstep⟩ := xs_callT X S hK hP.1 hcode' hini hy (idx := idx) (As := [.int x]) (rest := [.int 0, .ref (D.2.2.1 b)]) g2 g3 g4 g5 g6 (by rw [hT]; exact hR) hg0 rfl (g := F0 m 4 ls [.int x, .ref (D.2.2.1 a), .int 0, .ref (D.2.2.1 b)]) rfl hl.1 rfl (by show 2 * 0 + 2 ≤ 8; omega) d4 (fun U h => h) hM hfr (by omega) (by omega) (by omega)
  have e1 : ce.cls = cE := (Option.some.inj (hcE.symm.trans hcc)).symm
  obtain ⟨vm', X'', hgo⟩ := xh_find X' xa (g := { F0 m 4 ls [.int x, .ref (D.2.2.1 a), .int 0, .ref (D.2.2.1 b)] with stack := [.int 0, .ref (D.2.2.1 b)] }) rfl S.2.2.2.1 hce hcv (by rw [e1]; exact hk0) pre hsplit (by rw [e1]; exact hpre) hx0 h00 hlink hcE (by rw [e1]; exact hself)
  have w : W p l e R s m args below meth c T'.heap (locs ++ L) (A.1 - c0 + (A1.1 - A.1)) (A.2.1 - s0 + (A1.2.1 - A.2.1)) (MQ below (xs_Q D cl (some (.int (Int32.ofInt v))) A1) args s (A.1 - c0 + (A1.1 - A.1)) (A.2.1 - s0 + (A1.2.1 - A.2.1)) (xs_fr D)) (F0 m x0.handlerPc ls [.ref xa]) := by
    refine lv_astore_n S.1 S.2.1 h1 rfl hl (by decide) rfl fun ls' hl' => ?_
    refine lv_iconst S.1 S.2.1 h2 rfl ?_
    exact W.iret S.1 S.2.1 hret (fun t ht hW => ⟨rfl, by rw [ht]; exact hR'.moved hW.alike⟩) (fun z hz => by
      rcases List.mem_append.mp hz with hz | hz
      · exact hq z hz
      · exact hL z hz) h3 hlocks
  rw [ec, es]
  obtain ⟨u, a1, b1⟩ := w (T'.setVm vm') rfl X''
  exact ⟨u, hstep _ (hgo _ a1), b1⟩
end XPH
