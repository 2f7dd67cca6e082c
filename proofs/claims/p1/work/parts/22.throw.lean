/-! An exception made and thrown. The walk is taken up as if the method had been entered in the state that it stands in ('xs_rebase'): then all cells of now are old ones, and what the library says of them is what we want. -/
section XT
variable {p : Program} {l : Launch} {e : Env} {R : Room} {s : State} {m : MethodId} {args : Array Value} {below : List Frame} {meth : Method} {c : Code} {T : State} {locs : List Loc} {cells slots : Nat}
theorem xs_hears {U : State} (hvm : s.vm.Alike U.vm) (h : s.hears m below = true) : U.hears m below = true := by
  unfold State.hears at h ⊢
  cases below with
  | nil => rw [hvm.method?]; exact h
  | cons f r =>
    cases f with
    | java g =>
      dsimp only at h ⊢
      rw [State.code?_eq] at h ⊢
      rw [hvm.method?]
      exact h
    | native _ => rfl
    | proc _ => rfl
    | _ => dsimp only at h ⊢; rw [hvm.method?]; exact h
theorem xs_rebase (X : Stand p l e R s m args below meth c T locs cells slots) (hc : cells ≤ R.cells) (hsl : slots ≤ R.slots) :
    Stand p l e ({ frames := R.frames, cells := R.cells - cells, slots := R.slots - slots, locals := R.locals } : Room) (T.setFrames s.frames) m args below meth c T [] 0 0 := by
  obtain ⟨g₀, hfr⟩ := X.frames_eq
  have hcur : T.cur < T.threads.size := State.cur_lt_of_frames hfr
  have hf : (T.setFrames s.frames).frames = .invoking m args :: below := by rw [State.frames_setFrames _ hcur]; exact X.frames
  have hroom := X.room
  obtain ⟨t, ht, -⟩ := State.frames_cons hf
  have hcur' : (T.setFrames s.frames).cur < (T.setFrames s.frames).threads.size := State.cur_lt_of_frames hf
  refine ⟨X.admits, X.cas, X.clock, hf, ?_, xs_hears (U := T.setFrames s.frames) X.warmed.alike X.hears, X.method', X.code, X.here, X.tail, State.WarmedH.refl _, ?_, ?_, ?_⟩
  · have hl : (T.setFrames s.frames).localsInUse = s.localsInUse := by rw [State.localsInUse_invoking hf X.method' X.code, State.localsInUse_invoking X.frames X.method X.code]
    have hlim : e.platform.stackLimits (T.setFrames s.frames).me = e.platform.stackLimits s.me := by rw [State.stackLimits_setFrames]; exact X.limits
    have hby : (T.setFrames s.frames).me.stackBytes = s.me.stackBytes := by rw [State.stackBytes_setFrames]; exact X.bytes
    have hbook : (T.setFrames s.frames).slotsTrue = true := X.book
    have h1 := X.heapSize
    have h2 := X.used
    simp only [State.hasRoom, Bool.and_eq_true, decide_eq_true_eq] at hroom ⊢
    rw [hl, hlim, hby, hf, ← X.frames]
    obtain ⟨⟨⟨⟨r1, r2⟩, r3⟩, r4⟩, r5⟩ := hroom
    exact ⟨⟨⟨⟨r1, r2⟩, by show T.heap.size + (R.cells - cells) ≤ _; omega⟩, by show T.slotsUsed + (R.slots - slots) ≤ _; omega⟩, hbook⟩
  · rw [State.stackLimits_setFrames]
  · rw [State.stackBytes_setFrames]
  · have h := (State.sameButNew.refl (T.setFrames s.frames) (x := t) ht).setFrames T.frames hcur'
    have e1 : (T.setFrames s.frames).setFrames T.frames = T := by
      obtain ⟨t', ht', -⟩ := State.frames_cons hfr
      rw [State.setFrames_setFrames, State.setFrames_self ht']
    rw [e1] at h
    exact h
end XT
/-- what is known at the end of a method that threw: the kind's class, the heap -/
def xs_TQ (D : xs_D) (cl : List vw_C) (cls : String) (A : xb_H) (below : List Frame) (s : State) (mc ms : Nat) : State → Prop := fun t =>
  ∃ (x : Addr) (ce : Cell), t.status = .running ∧ Ended t below (.threw x) ∧ s.WarmedH t.vm ∧ (∃ L, s.sameButNew ({ t with vm := s.vm } : State) L mc ms ∧ ∀ q ∈ L, D.2.2.2.1 ≤ q.base) ∧ xs_R D cl t t.heap A ∧ t.heap[x]? = some ce ∧ ce.vm = .none ∧ s.vm.findClass cls = some ce.cls
theorem xs_R.thr {D : xs_D} {cl : List vw_C} {U : State} {H H1 : Heap} {A : xb_H} {ce : Cell} (hD : xs_ad D) (h : xs_R D cl U H A) (hz : H1.size = H.size + 1) (hc : H1[H.size]? = some ce) (hv : ce.vm = .none) (hq : ∀ q, q < H.size → H1[q]? = H[q]?) : xs_R D cl U H1 (xb_thr A) := by
  have h0 := h.1
  have h1 := h.2.1
  refine ⟨by omega, ?_, fun q hb => ?_, fun b p hp => ?_, fun q cell hb hcell => ?_⟩
  · show A.1 + 1 = _
    omega
  · rw [hq q (by omega)]
    exact h.2.2.1 q hb
  · have hp' : xb_get A b = some p := by
      unfold xb_get xb_thr at hp
      unfold xb_get
      by_cases hb : b = A.1
      · subst hb
        simp at hp
      · by_cases hb2 : b < A.1
        · have hb3 : b < A.1 + 1 := by omega
          simpa [hb, hb2, hb3] using hp
        · have hb3 : ¬ b < A.1 + 1 := by omega
          simp [hb3] at hp
    obtain ⟨g1, g2⟩ := h.2.2.2.1 b p hp'
    exact ⟨g1, g2.kept (hq _ g2.lt)⟩
  · by_cases e : q < H.size
    · rw [hq q e] at hcell
      exact h.2.2.2.2 q cell hb hcell
    · have h3 := (Array.getElem?_eq_some_iff.mp hcell).1
      have e2 : q = H.size := by omega
      subst e2
      cases hcell.symm.trans hc
      rw [hv]
      rfl
section XT2
variable {p : Program} {l : Launch} {e : Env} {R : Room} {s : State} {m : MethodId} {args : Array Value} {below : List Frame} {meth : Method} {c : Code} {cells slots : Nat}
variable {D : xs_D} {cl : List vw_C} {nL c0 s0 : Nat} {cc : ByteArray} {Ts : List Cond} {own : String} {pc : Nat} {L : xb_L} {A : xb_H}
set_option maxHeartbeats 1000000 in
theorem xs_throw (S : CallFix p m c cc nL s args Ts own) (hgood : ∀ w ∈ Ts, (w.onTables && w.keeps) = true ∨ ∃ ty, w = .arrayClass ty) (hD : xs_ad D) (hlocks : meth.locks = false) (hnoh : ∀ x ∈ c.exceptionTable.toList, covers x (pc + 7) = false) (hfl : l.flags = pinnedFlags ++ [noTraceFlag])
    {cls : String} {names : List String} {idx ic : Nat} (hd0 : decode cc pc = .ok (.new idx, 3)) (hd3 : decode cc (pc + 3) = .ok (.dup, 1)) (hd4 : decode cc (pc + 4) = .ok (.invokespecial ic, 3)) (hd7 : decode cc (pc + 7) = .ok (.athrow, 1))
    (w1 : Cond.classLink own idx cls ∈ Ts) (w2 : Cond.instantiable cls 6 ∈ Ts) (w3 : Cond.initialized cls ∈ Ts) (hcls : Bundle.fit cls = true) (hnames : ∀ n ∈ names, Bundle.fit n = true)
    (hat : ∀ (U : State) (a' : Array Value), s.WarmedH U.vm → (∀ q, q < D.2.2.2.1 → U.heap[q]? = D.2.2.2.2.2 q) → ∀ a ∈ Bundle.ownAtoms0 own ic cls names, a.before a' U = true)
    {d : Nat} (hd8 : 8 ≤ d) (hln : names.length ≤ 3) (hfr : d ≤ R.frames) (hlo : 64 * d ≤ R.locals) (hc0 : c0 ≤ A.1) (hs0 : s0 ≤ A.2.1) (hcells : A.1 + 1 - c0 ≤ R.cells) (hslots : A.2.1 + 6 - s0 ≤ R.slots) :
    xs_G D cl p l e R s m args below meth c nL c0 s0 (xs_TQ D cl cls (xb_thr A) below s (A.1 + 1 - c0) (A.2.1 + 6 - s0)) pc L [] A := by
  intro H locs ls hR hl hq T hT X
  have X' := xs_rebase X (by omega) (by omega)
  have htr : e.platform.stackTraces = false := Launch.traces_off hfl X.admits
  have hal := X.warmed.alike
  have hb : ∀ w ∈ Ts, ∀ a', w.before a' (T.setFrames s.frames) = true := fun w hw a' => word_at (U := T.setFrames s.frames) X.warmed (hgood w hw) (S.2.2.2.2 w hw)
  have hown : (T.setFrames s.frames).vm.findClass own = some m.cls := by
    show T.vm.findClass own = _
    rw [hal.findClass]
    exact S.2.2.2.1
  have hat' := hat (T.setFrames s.frames) args X.warmed (fun q hq' => by show T.heap[q]? = _; rw [hT]; exact hR.2.2.1 q hq')
  have hsize : ls.size = c.maxLocals := by rw [S.2.2.1]; exact hl.1
  have w : W p l e ({ frames := R.frames, cells := R.cells - (A.1 - c0), slots := R.slots - (A.2.1 - s0), locals := R.locals } : Room) (T.setFrames s.frames) m args below meth c H [] 0 0 (fun t => ∃ ce, t.status = .running ∧ Ended t below (.threw H.size) ∧ (T.setFrames s.frames).WarmedH t.vm ∧ (T.setFrames s.frames).sameButNew ({ t with vm := (T.setFrames s.frames).vm } : State) [] 1 6 ∧ t.heap[H.size]? = some ce ∧ ce.vm = .none ∧ (T.setFrames s.frames).vm.findClass cls = some ce.cls) (F0 m pc ls []) := by
    refine W.newc S.1 S.2.1 hown (hb _ w1 args) (hb _ w2 args) (hb _ w3 args) rfl hd0 (by show 0 + 1 ≤ R.cells - (A.1 - c0); omega) (by show 0 + 6 ≤ R.slots - (A.2.1 - s0); omega) fun cC kC f1 f2 f3 f4 => ?_
    refine lv_dup S.1 S.2.1 hd3 rfl ?_
    intro T2 hT2 X2
    obtain ⟨U, h1, h2, h3, h4, h5, ce, h6, h7⟩ := X2.ctorThrow0 S.1 htr (own := own) (cls := cls) (names := names) (ic := ic) hown hcls hnames hat' (fun x hx => by cases hx) (a := H.size) f1 f2 (by rw [hT2]; simp) (by show T.heap.size ≤ H.size; rw [hT]; exact Nat.le_refl _)
      (g := F0 m (pc + 3 + 1) ls (.ref H.size :: .ref H.size :: [])) rfl hsize rfl rfl (rest := []) rfl (by rw [S.2.1]; exact hd4) (by rw [S.2.1]; exact hd7) hnoh (by show names.length + 3 < R.frames; omega) (by show 2 * 0 + 1 + (13 * (names.length + 1) + 41) ≤ R.locals; omega) hlocks
    exact ⟨U, h1, ce, h2, h3, h4, h5, h6, h7.vm, h7.cls⟩
  obtain ⟨t, a1, ce, t1, t2, t3, t4, t5, t6, t7⟩ := w T hT X'
  refine ⟨t, a1, H.size, ce, t1, t2, State.WarmedH.trans X.warmed t3, ⟨locs ++ [], ?_, fun q hq' => hq q (by simpa using hq')⟩, ?_, t5, t6, ?_⟩
  · have h8 : T.sameButNew ({ t with vm := T.vm } : State) [] 1 6 := by
      obtain ⟨g1, g2⟩ := t4
      refine ⟨?_, g2⟩
      refine g1.trans ?_
      show ({ (T.setFrames s.frames).setFrames _ with heap := _, slotsUsed := _ } : State) = _
      rw [State.setFrames_setFrames]
      rfl
    have h9 := X.same.trans (h8.setVm s.vm)
    have ec : A.1 + 1 - c0 = A.1 - c0 + 1 := by omega
    have es : A.2.1 + 6 - s0 = A.2.1 - s0 + 6 := by omega
    rw [ec, es]
    exact h9
  · have hsz : t.heap.size = H.size + 1 := by
      have g1 : t.heap.size ≤ T.heap.size + 1 := t4.2.2.1
      have g2 := (Array.getElem?_eq_some_iff.mp t5).1
      rw [hT] at g1
      omega
    have hkeep : ∀ q, q < H.size → t.heap[q]? = H[q]? := by
      intro q hq'
      obtain ⟨cell, hcell⟩ : ∃ cell, H[q]? = some cell := ⟨H[q], Array.getElem?_eq_getElem hq'⟩
      rw [hcell]
      exact State.sameButNew.old_cell t4 (a := q) (c := cell) (by show T.heap[q]? = _; rw [hT]; exact hcell)
    exact (xs_R.thr hD hR hsz t5 t6 hkeep).moved (hal.trans t3.alike)
  · have h8 := t7
    have h9 : T.vm.findClass cls = some ce.cls := h8
    rw [hal.findClass] at h9
    exact h9
end XT2
