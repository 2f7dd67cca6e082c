/-! The contract of a method that throws, and a call of it -/
def xs_QT (D : xs_D) (cl : List vw_C) (cls : String) (A' : xb_H) (mc ms : Nat) : Array Value → State → Outcome → State → Prop := fun _ st o t =>
  ∃ (x : Addr) (ce : Cell), o = .threw x ∧ st.WarmedH t.vm ∧ (∃ L, st.sameButNew ({ t with vm := st.vm } : State) L mc ms ∧ ∀ q ∈ L, D.2.2.2.1 ≤ q.base) ∧ xs_R D cl t t.heap A' ∧ t.heap[x]? = some ce ∧ ce.vm = .none ∧ st.vm.findClass cls = some ce.cls
section XM
variable {l : Launch} {D : xs_D} {cl : List vw_C} {Ts NW : List Cond} {G : xb_G} {TY : List FieldType} {sd : Nat → Option (String × String × String)} {sl : String → Nat → Option Nat} {INF : Nat → Option xs_M} {en : Nat → String × List String}
theorem xs_metT (hD : xs_ad D) (hP : xs_prog G cl Ts TY NW sd sl INF) (hfl : l.flags = pinnedFlags ++ [noTraceFlag]) {n d y : Nat} {inf : xs_M} (hinf : INF y = some inf) {av : List Value} {A A' : xb_H} {k : Nat} (hlen : (lg_sl av).length ≤ inf.2.2.1) (hr : xb_run G n d y 0 (lv_args 0 av) [] A = some (.inr k, A')) {KT : State → Prop}
    (hsite : ∀ s, KT s → ∀ (pc : Nat) (q : xb_I), xb_gP G y pc = some q → xb_sort q.1 = 6 → ¬ q.2.2.2 = 0 → xs_site D Ts en inf s pc q) :
    MetFree l inf.1 (headSpec (Cond.code inf.1 inf.2.1 inf.2.2.1 inf.2.2.2 :: Ts) (xs_rm d (A'.1 - A.1) (A'.2.1 - A.2.1))) (fun a U => xs_P D G cl TY NW sd sl av A a U ∧ KT U) (fun _ _ _ _ _ => True) (xs_QT D cl (en k).1 A' (A'.1 - A.1) (A'.2.1 - A.2.1)) := by
  refine MetFree.of_bodyS (code := inf.2.1) (maxLocals := inf.2.2.1) (ret := inf.2.2.2) (hP.2.2 y inf hinf).1 ?_ ?_
  · intro args s m h hn
    obtain ⟨meth, c, h1, h2, h3, h4, h5, h6, -, -⟩ := Cond.code_spec hn (atoms_spec (ws := Cond.code inf.1 inf.2.1 inf.2.2.1 inf.2.2.2 :: Ts) h _ List.mem_cons_self)
    exact ⟨meth, c, h1, h2, h3, h4, h5, h6⟩
  · intro p e s m args below meth c s₁ B hml hv _
    obtain ⟨⟨rfl, hR, hK⟩, hKT⟩ := hv
    have hts := atoms_spec (ws := Cond.code inf.1 inf.2.1 inf.2.2.1 inf.2.2.2 :: Ts) B.pre
    have hnoh : c.exceptionTable.toList = [] := by
      have h1 := B.noHandlers (hts _ List.mem_cons_self)
      have h0 : c.exceptionTable.size = 0 := by simpa [Array.isEmpty] using h1
      exact List.eq_nil_of_length_eq_zero (by simpa using h0)
    have w := xs_soundT (en := en) hD hP hfl n d y 0 (lv_args 0 av) [] A k A' hr inf hinf p e s m _ below meth c A.1 A.2.1 ⟨⟨B.exec, B.bytes, hml, findClass_of_methodNamed B.named, fun w hw => hts w (List.mem_cons_of_mem _ hw)⟩, B.returns, B.notSynchronized, (name_of_methodNamed B.named B.method).1⟩ hK hnoh (hsite s hKT) (Nat.le_refl _) (Nat.le_refl _)
    have hl := lv_entry (av.map (xs_v D.2.2.1)) (n := inf.2.2.1) (by rw [xs_sl]; exact hlen)
    rw [lg_entry_eq]
    rw [← xs_args] at hl
    have w2 := w s.heap [] _ hR hl (fun _ h => by cases h)
    rw [Nat.sub_self, Nat.sub_self] at w2
    have hh0 : s₁.heap = s.heap := by rw [B.state]; rfl
    obtain ⟨t, a1, x, ce, b1, b2, b3, b4, b5, b6, b7, b8⟩ := w2 s₁ hh0 (Stand.of_body B)
    exact ⟨t, .threw x, a1, b1, b2, x, ce, rfl, b3, b4, b5, b6, b7, b8⟩
end XM
section XN
variable {p : Program} {l : Launch} {e : Env} {R : Room} {s : State} {m : MethodId} {args : Array Value} {below : List Frame} {meth : Method} {c : Code} {T : State} {locs : List Loc} {cells slots : Nat}
variable {D : xs_D} {cl : List vw_C} {nL : Nat} {cc : ByteArray} {Ts NW : List Cond} {own : String} {A A' : xb_H} {G : xb_G} {TY : List FieldType} {sd : Nat → Option (String × String × String)} {sl : String → Nat → Option Nat}
theorem xs_callT (X : Stand p l e R s m args below meth c T locs cells slots) (S : CallFix p m c cc nL s args Ts own) (hK : xs_K D G cl TY NW sd sl s) (hgood : ∀ w ∈ Ts, (w.onTables && w.keeps) = true ∨ ∃ ty, w = .arrayClass ty) {inf : xs_M} (hcode : Cond.code inf.1 inf.2.1 inf.2.2.1 inf.2.2.2 ∈ Ts) (hini : Cond.initialized inf.1.cls ∈ Ts) (hy : inf.1.cls ≠ "java/lang/invoke/MethodHandle" ∧ inf.1.cls ≠ "java/lang/invoke/VarHandle")
    {idx k a n' : Nat} {r : vw_C} {fs As rest : List Value} (hr : cl[k]? = some r) (hp : (parseMethodDescriptor inf.1.desc).map (fun d => d.parameters.length) = some n') (hin : Cond.instanceMethod inf.1 ∈ Ts) (hlk : Cond.methodLink own idx inf.1 ∈ Ts) (hse : Cond.selects r.1 inf.1 inf.1 ∈ Ts)
    (hR : xs_R D cl s T.heap A) (hg0 : xb_get A a = some (.inr (k, fs))) (hn : As.length = n') {g : JFrame} (hg : g.method = m) (hsize : g.locals.size = nL) (hstack : g.stack = (As.map (xs_v D.2.2.1)).reverse ++ .ref (D.2.2.1 a) :: rest) (hcat : 2 * g.monitorRoom + (rest.map fun v => v.category).sum ≤ 8) (hdg : decode cc g.pc = .ok (.invokevirtual idx, 3))
    {d mc ms : Nat} {KT : State → Prop} {cls : String} (hKT : ∀ U : State, s.WarmedH U.vm → KT U) (hM : MetFree l inf.1 (headSpec (Cond.code inf.1 inf.2.1 inf.2.2.1 inf.2.2.2 :: Ts) (xs_rm d mc ms)) (fun a' U => xs_P D G cl TY NW sd sl (.ref a :: As) A a' U ∧ KT U) (fun _ _ _ _ _ => True) (xs_QT D cl cls A' mc ms))
    (hfr : d + 1 ≤ R.frames) (hlo : 8 + (inf.2.2.1 + 11) + 64 * d ≤ R.locals) (hcells : cells + mc ≤ R.cells) (hslots : slots + ms ≤ R.slots) :
    ∃ (x : Addr) (ce : Cell) (T' : State) (L : List Loc), Stand p l e R s m args below meth c T' (locs ++ L) (cells + mc) (slots + ms) ∧ (∀ q ∈ L, D.2.2.2.1 ≤ q.base) ∧ xs_R D cl s T'.heap A' ∧ T'.heap[x]? = some ce ∧ ce.vm = .none ∧ s.vm.findClass cls = some ce.cls ∧
      ∀ target, Steps p.tables e below ((T'.setTop { g with stack := rest }).pushFrame (.throwing x)) target → Steps p.tables e below (T.setTop g) target := by
  obtain ⟨hx, hb, hml, ho, hts⟩ := S
  obtain ⟨rr, cellB, h0, hcell, h2, h3, hobj, -⟩ := (hR.2.2.2.1 a _ hg0).2
  have er : rr = r := Option.some.inj (h0.symm.trans hr)
  subst er
  have hcls : s.vm.findClass rr.1 = some cellB.cls := by rw [h2]; exact (hK.1.1 k rr h0).2.1
  obtain ⟨mk, methM, hnamed, hmethM, hstM, habM⟩ := Cond.instanceMethod_spec (hts _ hin)
  obtain ⟨methM', cM, hmethM', hcM, -, hlM, -, -, -, hsigM⟩ := Cond.code_spec hnamed (hts _ hcode)
  cases hmethM.symm.trans hmethM'
  obtain ⟨c2, r2, m2, q1, q2, q3, q4, kP, hkP, hkPi⟩ := Cond.selects_spec (hts _ hse)
  cases hcls.symm.trans q1
  cases (State.methodFound?_of_named hnamed hy).symm.trans q2
  cases hnamed.symm.trans q3
  have hselP : selectMethod e.platform s.vm cellB.cls mk = .method mk := by rw [Launch.admits_selectMethod X.admits]; exact q4
  obtain ⟨vm₁, X₁, hstep₁⟩ := X.invokevirtual hx ho (hts _ hlk) hnamed hmethM hstM hkP hkPi hy (a := D.2.2.1 a) (cell := cellB) hcell
    (fun z h => by rw [h] at hobj; cases hobj) hselP hmethM habM hkP hkPi (g := g) hg (argsL := As.map (xs_v D.2.2.1)) (rest := rest) (by rw [List.length_map, hn]; exact xs_len_of hp _ hsigM) hstack (by rw [hb]; exact hdg)
  have hnU : (T.setVm vm₁).methodNamed? inf.1 = some mk := X₁.named hnamed
  have hws : ∀ w ∈ (Cond.code inf.1 inf.2.1 inf.2.2.1 inf.2.2.2 :: Ts), ∀ (a' : Array Value) (U : State), s.WarmedH U.vm → w.before a' U = true := by
    intro w hw a' U hW
    rcases List.mem_cons.mp hw with rfl | hw
    · exact word_at hW (hgood _ hcode) (hts _ hcode)
    · exact word_at hW (hgood _ hw) (hts _ hw)
  obtain ⟨methY, cY, hmY, hcY, -, hlY, -, -, -, -⟩ := Cond.code_spec hnU (hws _ List.mem_cons_self #[] (T.setVm vm₁) X₁.warmed)
  obtain ⟨kY, hkY, -⟩ := className_of_methodNamed hnU
  have hinitY : kY.init = .initialized := Cond.initialized_spec (findClass_of_methodNamed hnU) hkY (word_at (U := T.setVm vm₁) (a' := #[]) X₁.warmed (hgood _ hini) (hts _ hini))
  have hAt : At (T.setVm vm₁) { g with stack := rest }.method c below := by show At (T.setVm vm₁) g.method c below; rw [hg]; exact X₁.here
  have happ : (headSpec (Cond.code inf.1 inf.2.1 inf.2.2.1 inf.2.2.2 :: Ts) (xs_rm d mc ms)).appliesLoose inf.1 e.platform ((T.setVm vm₁).calling { g with stack := rest } mk (((Value.ref a :: As).map (xs_v D.2.2.1)).toArray)) = true :=
    Spec.appliesLoose_calling (g := { g with stack := rest }) hAt (by rw [hb]; exact hdg) hnU hkY hinitY
      (X₁.room_calling (g := { g with stack := rest }) (R' := xs_rm d mc ms) (hsize.trans hml.symm) hmY hcY hfr (by
        show 2 * _ + (rest.map fun v => v.category).sum + (cY.maxLocals + 11) + 64 * d ≤ R.locals
        rw [hlY]
        have h9 : 2 * ({ g with stack := rest } : JFrame).monitorRoom + (rest.map fun v => v.category).sum ≤ 8 := hcat
        omega) hcells hslots) (atoms_intro fun w hw => hws w hw _ _ X₁.warmed)
  obtain ⟨mid, hmid⟩ := hAt.above
  have hfr0 : ((T.setVm vm₁).setTop { g with stack := rest }).frames = (.java { g with stack := rest } :: mid) ++ below := by rw [State.frames_setTop' _ hAt.top, hmid]; rfl
  obtain ⟨o, s₂, hsteps, -, hend, hq⟩ := Steps.callFree hM p X.admits X.cas X.clock (acts := []) (s := (T.setVm vm₁).setTop { g with stack := rest }) (m := mk) (args := ((Value.ref a :: As).map (xs_v D.2.2.1)).toArray) hfr0 happ
    ⟨⟨rfl, xs_R.moved (u := s) (U := ((T.setVm vm₁).setTop { g with stack := rest }).pushFrame (.invoking mk ((Value.ref a :: As).map (xs_v D.2.2.1)).toArray)) X₁.warmed.alike hR, hK.warm (U := ((T.setVm vm₁).setTop { g with stack := rest }).pushFrame (.invoking mk ((Value.ref a :: As).map (xs_v D.2.2.1)).toArray)) X₁.warmed⟩, hKT _ X₁.warmed⟩ trivial
  obtain ⟨x, ce, rfl, hW₂, ⟨L, hsm, hL⟩, hR2, hce, hcv, hcc⟩ := hq
  have hend' : s₂.frames = .throwing x :: ((T.setVm vm₁).setTop { g with stack := rest }).frames := hend
  have hW' : (T.setVm vm₁).WarmedH s₂.vm := hW₂
  have hsame : (T.setVm vm₁).sameButNew ({ (T.setVm vm₁) with heap := s₂.heap, slotsUsed := s₂.slotsUsed } : State) L mc ms := by
    obtain ⟨-, q2', q3', q4', q5', q6'⟩ := hsm
    refine ⟨?_, q2', q3', q4', q5', q6'⟩
    obtain ⟨g₀, hg1⟩ := Option.isSome_iff_exists.mp hAt.top
    obtain ⟨r1, hr1⟩ := State.topJava?_eq_some.mp hg1
    obtain ⟨t, ht, -⟩ := State.frames_cons hr1
    show ({ (T.setVm vm₁) with heap := s₂.heap, slotsUsed := s₂.slotsUsed } : State) = { (T.setVm vm₁).setFrames (T.setVm vm₁).frames with heap := s₂.heap, slotsUsed := s₂.slotsUsed }
    rw [State.setFrames_self ht]
  have hs₂ : s₂ = ((({ (T.setVm vm₁) with heap := s₂.heap, slotsUsed := s₂.slotsUsed } : State).setVm s₂.vm).setTop { g with stack := rest }).pushFrame (.throwing x) := by
    have e2 := hsm.1
    have e3 : s₂ = ({ (((T.setVm vm₁).setTop { g with stack := rest }).pushFrame (.invoking mk ((Value.ref a :: As).map (xs_v D.2.2.1)).toArray)).setFrames s₂.frames with heap := s₂.heap, slotsUsed := s₂.slotsUsed } : State).setVm s₂.vm := by
      have : s₂ = ({ s₂ with vm := (((T.setVm vm₁).setTop { g with stack := rest }).pushFrame (.invoking mk ((Value.ref a :: As).map (xs_v D.2.2.1)).toArray)).vm } : State).setVm s₂.vm := rfl
      rw [e2] at this
      exact this
    obtain ⟨g₀, hg1⟩ := Option.isSome_iff_exists.mp hAt.top
    obtain ⟨r1, hr1⟩ := State.topJava?_eq_some.mp hg1
    have hr' : (({ (T.setVm vm₁) with heap := s₂.heap, slotsUsed := s₂.slotsUsed } : State).setVm s₂.vm).frames = .java g₀ :: r1 := hr1
    refine e3.trans ?_
    rw [hend', State.pushFrame, State.pushFrame, State.setFrames_setFrames, State.setTop_of_frames _ hr1, State.setTop_of_frames _ hr']
    rw [State.setFrames_setFrames, State.setFrames_setFrames]
    have hc1 : (T.setVm vm₁).cur < (T.setVm vm₁).threads.size := State.cur_lt_of_frames hr1
    rw [State.frames_setFrames _ hc1, State.frames_setFrames _ (show (({ (T.setVm vm₁) with heap := s₂.heap, slotsUsed := s₂.slotsUsed } : State).setVm s₂.vm).cur < _ from hc1)]
    rfl
  subst hg
  refine ⟨x, ce, ({ (T.setVm vm₁) with heap := s₂.heap, slotsUsed := s₂.slotsUsed } : State).setVm s₂.vm, L,
    ⟨X.admits, X.cas, X.clock, X.frames, X.room, X.hears, X.method, X.code, (X₁.here.setHeapUsed s₂.heap s₂.slotsUsed).setVm hW'.alike, X.tail, State.WarmedH.trans X₁.warmed hW', X.limits, X.bytes, X₁.same.trans (hsame.setVm s.vm)⟩, hL, ?_, hce, hcv, ?_, fun target h => ?_⟩
  · exact hR2.moved (X₁.warmed.alike.trans hW'.alike).symm
  · have h8 : vm₁.findClass cls = some ce.cls := hcc
    have hal : s.vm.Alike vm₁ := X₁.warmed.alike
    rw [hal.findClass] at h8
    exact h8
  · refine hstep₁ _ fun acts => ?_
    rw [doInvoke_state]
    refine Steps.trans hsteps ?_
    rw [hs₂]
    exact h
end XN
