/-! An exception that a callee throws, and a handler whose class may not be resolved yet -/
section XH
variable {Q : Handler → Pre} {E : CtlPost} {e : Env} {d : Bool} {acts : List Action} {s : State} {f : JFrame} {a : Addr}
theorem xh_hit {x : ExceptionTableEntry} {t : List ExceptionTableEntry} {c : ClassId} {cell : Cell} (hx : covers x f.pc = true) (h0 : x.catchType ≠ 0) (hl : s.vm.ClassLinks e.platform f.method.cls x.catchType c) (hcell : s.heap[a]? = some cell) (hobj : cell.vm = .none)
    (hk : ∃ k, s.vm.classes[cell.cls]? = some k) (hc : ∃ k, s.vm.classes[c]? = some k) :
    wp (findHandler.go f a (x :: t)) Q E e d acts s ↔ if s.vm.assignable cell.cls c = true then Q (.found x.handlerPc) d acts (s.setVm (s.vm.noted f.method.cls x.catchType (.cls c))) else wp (findHandler.go f a t) Q E e d acts (s.setVm (s.vm.noted f.method.cls x.catchType (.cls c))) := by
  have hobj' : ∀ k, cell.vm ≠ .statics k := fun k hk => by rw [hobj] at hk; cases hk
  simp only [covers] at hx
  obtain ⟨ha, ht⟩ := (resolveClass_links e.toSetting hl).op (op := VmOp.resolveClass f.method.cls x.catchType) rfl
  have hal : s.vm.Alike (s.vm.noted f.method.cls x.catchType (.cls c)) := (Vm.Alike.refl s.vm).noted _ _ _
  obtain ⟨k1, hk1⟩ := hk
  obtain ⟨k2, hk2⟩ := hc
  obtain ⟨k1', hk1', -⟩ := hal.2.2 _ _ hk1
  obtain ⟨k2', hk2', -⟩ := hal.2.2 _ _ hk2
  have hfit : (s.vm.noted f.method.cls x.catchType (.cls c)).assignable cell.cls c = s.vm.assignable cell.cls c := hal.assignable _ _
  cases hf : s.vm.assignable cell.cls c <;> rw [hf] at hfit <;> simp [findHandler.go, hx, h0, ha, ht, hcell, hobj', hk1', hk2', hfit, VmOp.dirties, VmOp.acts]
/-- what the search finds, and the tables that it leaves -/
def xh_F (e : Env) (s : State) (f : JFrame) (a : Addr) (pc : Nat) (vm' : Vm) : Prop := ∀ (Q : Handler → Pre) (E : CtlPost) (d : Bool) (acts : List Action), wp (findHandler f a) Q E e d acts s ↔ Q (.found pc) d acts (s.setVm vm')
theorem xh_step {r : List Frame} {pc : Nat} {vm' : Vm} (hfind : xh_F e s f a pc vm') : (stepThrowing e s a (.java f :: r)).Is ((s.setVm vm').setFrames (.java { f with pc := pc, stack := [.ref a] } :: r)) [] := by
  simp only [stepThrowing, searchFrame, vmDo]
  generalize hr : Sem.go _ e false [] s = res
  obtain ⟨as, rfl, ha⟩ := Sem.eq_ok_of hr (a := Handler.found pc) (s' := s.setVm vm') (acts' := []) (by simp [hfind _ _ _ _])
  exact ⟨rfl, ha⟩
theorem xh_caught {tb : Tables} {T target : State} {g : JFrame} {c : Code} {below : List Frame} (h : At T g.method c below) {pc : Nat} {vm' : Vm} (hfind : xh_F e ((T.setTop g).pushFrame (.throwing a)) g a pc vm') (hrest : Steps tb e below ((T.setVm vm').setTop { g with pc := pc, stack := [.ref a] }) target) :
    Steps tb e below ((T.setTop g).pushFrame (.throwing a)) target := by
  obtain ⟨hgo, hw⟩ := h.throwing a
  refine Steps.head hgo hw ?_
  rw [stepThread_throwing (frames_entered h.top _), (xh_step (s := (T.setTop g).pushFrame (.throwing a)) hfind).1]
  obtain ⟨g₀, hg⟩ := Option.isSome_iff_exists.mp h.top
  obtain ⟨r, hr⟩ := State.topJava?_eq_some.mp hg
  have hr' : (T.setVm vm').frames = .java g₀ :: r := hr
  rw [State.setTop_of_frames _ hr'] at hrest
  have e1 : ∀ (u : State) (F K : List Frame), ((u.setFrames F).setVm vm').setFrames K = (u.setVm vm').setFrames K := fun u F K => by
    show ((u.setVm vm').setFrames F).setFrames K = _
    rw [State.setFrames_setFrames]
  rw [hr, List.tail_cons, State.pushFrame, e1, State.setTop_of_frames _ hr, e1]
  exact hrest
end XH
section XH2
variable {p : Program} {l : Launch} {e : Env} {R : Room} {s : State} {m : MethodId} {args : Array Value} {below : List Frame} {meth : Method} {c : Code} {T : State} {locs : List Loc} {cells slots : Nat}
/-- one row of the table after the other, each naming a class -/
theorem xh_find (X : Stand p l e R s m args below meth c T locs cells slots) (a : Addr) {g : JFrame} (hg : g.method = m) {own : String} (hown : s.vm.findClass own = some m.cls) {cell : Cell} (hcell : T.heap[a]? = some cell) (hobj : cell.vm = .none) (hk0 : ∃ k, s.vm.classes[cell.cls]? = some k)
    {x : ExceptionTableEntry} {rest : List ExceptionTableEntry} {name : String} {cT : ClassId} : ∀ (pre : List (ExceptionTableEntry × String)), c.exceptionTable.toList = pre.map (·.1) ++ x :: rest →
      (∀ q ∈ pre, covers q.1 g.pc = true ∧ q.1.catchType ≠ 0 ∧ (Cond.classLink own q.1.catchType q.2).before args s = true ∧ ∃ c', s.vm.findClass q.2 = some c' ∧ s.vm.assignable cell.cls c' = false) →
      covers x g.pc = true → x.catchType ≠ 0 → (Cond.classLink own x.catchType name).before args s = true → s.vm.findClass name = some cT → s.vm.assignable cell.cls cT = true →
      ∃ vm', Stand p l e R s m args below meth c (T.setVm vm') locs cells slots ∧ ∀ target, Steps p.tables e below ((T.setVm vm').setTop { g with pc := x.handlerPc, stack := [.ref a] }) target → Steps p.tables e below ((T.setTop g).pushFrame (.throwing a)) target := by
  intro pre hsplit hpre hx h0 hlink hcT hfit
  subst hg
  have hpl : e.platform.magicAccessors = ({} : Platform).magicAccessors := by rw [X.admits.platform]
  have key : ∀ (pre : List (ExceptionTableEntry × String)), (∀ q ∈ pre, covers q.1 g.pc = true ∧ q.1.catchType ≠ 0 ∧ (Cond.classLink own q.1.catchType q.2).before args s = true ∧ ∃ c', s.vm.findClass q.2 = some c' ∧ s.vm.assignable cell.cls c' = false) →
      ∀ (vm : Vm), s.WarmedH vm → ∃ vm', s.WarmedH vm' ∧ ∀ (Q : Handler → Pre) (E : CtlPost) (d : Bool) (acts : List Action), wp (findHandler.go g a (pre.map (·.1) ++ x :: rest)) Q E e d acts (((T.setTop g).pushFrame (.throwing a)).setVm vm) ↔ Q (.found x.handlerPc) d acts (((T.setTop g).pushFrame (.throwing a)).setVm vm') := by
    intro pre
    induction pre with
    | nil =>
      intro _ vm hW
      obtain ⟨c', hc', hcl⟩ := Cond.classLink_spec hown hlink e.platform hpl
      cases hcT.symm.trans hc'
      obtain ⟨dk, _, _, kt, hd, _, _, _, _, hkt, _, hopen⟩ := hcl.here
      obtain ⟨kt', hkt', -⟩ := hW.alike.2.2 _ _ hkt
      obtain ⟨k0, hk0⟩ := hk0
      obtain ⟨k0', hk0', -⟩ := hW.alike.2.2 _ _ hk0
      refine ⟨_, hW.noted hd hopen (State.rightAt_cls hcl), fun Q E d acts => ?_⟩
      rw [List.map_nil, List.nil_append, xh_hit (s := ((T.setTop g).pushFrame (.throwing a)).setVm vm) (cell := cell) hx h0 (hW.classLinks hcl) hcell hobj ⟨k0', hk0'⟩ ⟨kt', hkt'⟩, if_pos (by show vm.assignable _ _ = true; rw [hW.alike.assignable]; exact hfit)]
      rfl
    | cons y ys ih =>
      intro hpre vm hW
      obtain ⟨hy1, hy2, hy3, c1, hc1, hno⟩ := hpre y List.mem_cons_self
      obtain ⟨c', hc', hcl⟩ := Cond.classLink_spec hown hy3 e.platform hpl
      cases hc1.symm.trans hc'
      obtain ⟨dk, _, _, kt, hd, _, _, _, _, hkt, _, hopen⟩ := hcl.here
      obtain ⟨kt', hkt', -⟩ := hW.alike.2.2 _ _ hkt
      obtain ⟨k0, hk0⟩ := hk0
      obtain ⟨k0', hk0', -⟩ := hW.alike.2.2 _ _ hk0
      obtain ⟨vm', hW', hq⟩ := ih (fun z hz => hpre z (List.mem_cons_of_mem _ hz)) _ (hW.noted hd hopen (State.rightAt_cls hcl))
      refine ⟨vm', hW', fun Q E d acts => ?_⟩
      rw [List.map_cons, List.cons_append, xh_hit (s := ((T.setTop g).pushFrame (.throwing a)).setVm vm) (cell := cell) hy1 hy2 (hW.classLinks hcl) hcell hobj ⟨k0', hk0'⟩ ⟨kt', hkt'⟩, if_neg (by show ¬ vm.assignable _ _ = true; rw [hW.alike.assignable, hno]; decide)]
      exact hq Q E d acts
  obtain ⟨vm', hW', hq⟩ := key pre hpre T.vm X.warmed
  refine ⟨vm', X.noted hW', fun target hrest => ?_⟩
  refine xh_caught (T := T) X.here (vm' := vm') (pc := x.handlerPc) (fun Q E d acts => ?_) hrest
  rw [W.findHandler_eq (s := (T.setTop g).pushFrame (.throwing a)) (meth := meth) (code := c) X.method' X.code, hsplit]
  exact hq Q E d acts
end XH2
