/-! Calls -/
/-- a method: its name, its code, its locals, what it returns -/
abbrev xs_M : Type := MethodName × ByteArray × Nat × Option FieldType
def xs_rm (d mc ms : Nat) : Room := { frames := d, cells := mc, slots := ms, locals := 64 * d }
def xs_P (D : xs_D) (G : xb_G) (cl : List vw_C) (TY : List FieldType) (NW : List Cond) (sd : Nat → Option (String × String × String)) (sl : String → Nat → Option Nat) (av : List Value) (A : xb_H) : Array Value → State → Prop := fun a U => a = (av.map (xs_v D.2.2.1)).toArray ∧ xs_R D cl U U.heap A ∧ xs_K D G cl TY NW sd sl U
def xs_Q (D : xs_D) (cl : List vw_C) (v : Option Value) (A : xb_H) : Array Value → State → Outcome → State → Prop := fun _ _ o t => o = .returned (v.map (xs_v D.2.2.1)) ∧ xs_R D cl t t.heap A
def xs_fr (D : xs_D) : Addr → Prop := fun q => D.2.2.2.1 ≤ q
theorem xs_blind {D : xs_D} {G : xb_G} {cl : List vw_C} {TY : List FieldType} {NW : List Cond} {sd : Nat → Option (String × String × String)} {sl : String → Nat → Option Nat} {av : List Value} {A : xb_H} : FrameBlind (xs_P D G cl TY NW sd sl av A) := by
  intro a U g mk h
  obtain ⟨h1, h2, h3⟩ := h
  exact ⟨h1, xs_R.moved (u := U) (U := U.calling g mk a) (Vm.Alike.refl U.vm) h2, xs_K.warm (s := U) (U := U.calling g mk a) (State.WarmedH.refl U) h3⟩
/-- the words of a call -/
def xs_cl (own : String) (Ts NW : List Cond) (cl : List vw_C) (inf : xs_M) (rc : Option Nat) (n : Nat) (ins : Instr) : Prop :=
  (inf.1.cls ≠ "java/lang/invoke/MethodHandle" ∧ inf.1.cls ≠ "java/lang/invoke/VarHandle") ∧ Cond.initialized inf.1.cls ∈ Ts ∧
  ((∃ idx : Nat, ins = .invokestatic idx ∧ (parseMethodDescriptor inf.1.desc).map (fun d => d.parameters.length) = some n ∧ Cond.static inf.1 ∈ Ts ∧ (Cond.methodLink own idx inf.1 ∈ Ts ∨ ∃ host : String, Cond.methodLinkNest own idx inf.1 host ∈ NW)) ∨
   (∃ idx k n' : Nat, ins = .invokespecial idx ∧ rc = some k ∧ inf.1.name = "<init>" ∧ inf.2.2.2 = none ∧ n = n' + 1 ∧ (parseMethodDescriptor inf.1.desc).map (fun d => d.parameters.length) = some n' ∧ Cond.instanceMethod inf.1 ∈ Ts ∧ Cond.methodLink own idx inf.1 ∈ Ts) ∨
   (∃ (idx k n' : Nat) (r : vw_C), ins = .invokevirtual idx ∧ rc = some k ∧ cl[k]? = some r ∧ n = n' + 1 ∧ (parseMethodDescriptor inf.1.desc).map (fun d => d.parameters.length) = some n' ∧ Cond.instanceMethod inf.1 ∈ Ts ∧ Cond.methodLink own idx inf.1 ∈ Ts ∧ Cond.selects r.1 inf.1 inf.1 ∈ Ts) ∨
   (∃ (idx k n' : Nat) (r : vw_C), ins = .invokespecial idx ∧ rc = some k ∧ cl[k]? = some r ∧ inf.1.name ≠ "<init>" ∧ n = n' + 1 ∧ (parseMethodDescriptor inf.1.desc).map (fun d => d.parameters.length) = some n' ∧ Cond.instanceMethod inf.1 ∈ Ts ∧ Cond.methodLink own idx inf.1 ∈ Ts ∧ Cond.sameMethod inf.1.cls inf.1.cls inf.1.name inf.1.desc ∈ Ts ∧ Cond.superclass own inf.1.cls ∈ Ts) ∨
   (∃ (idx k n' : Nat) (r : vw_C) (x : MethodName) (b0 : ByteArray) (m0 : Nat) (r0 : Option FieldType), ins = .invokevirtual idx ∧ rc = some k ∧ cl[k]? = some r ∧ n = n' + 1 ∧ (parseMethodDescriptor x.desc).map (fun d => d.parameters.length) = some n' ∧ (x.cls ≠ "java/lang/invoke/MethodHandle" ∧ x.cls ≠ "java/lang/invoke/VarHandle") ∧ Cond.instanceMethod inf.1 ∈ Ts ∧ Cond.instanceMethod x ∈ Ts ∧ Cond.methodLink own idx x ∈ Ts ∧ Cond.sameMethod x.cls x.cls x.name x.desc ∈ Ts ∧ Cond.selects r.1 x inf.1 ∈ Ts ∧ Cond.code x b0 m0 r0 ∈ Ts))
theorem xs_len_of {y : MethodName} {n : Nat} (h : (parseMethodDescriptor y.desc).map (fun d => d.parameters.length) = some n) : ∀ sig, parseMethodDescriptor y.desc = some sig → n = sig.parameters.length := by
  intro sig hs
  rw [hs] at h
  exact (Option.some.inj h).symm
theorem xb_pop_spec {n : Nat} {st av rest : List Value} (h : xb_pop n st = some (av, rest)) : st = av.reverse ++ rest ∧ av.length = n ∧ (rest.map fun v => v.category).sum ≤ 8 := by
  unfold xb_pop at h
  split at h
  · rename_i hc
    cases h
    refine ⟨by rw [List.reverse_reverse, List.take_append_drop], by rw [List.length_reverse, List.length_take]; exact Nat.min_eq_left hc.1, hc.2⟩
  · cases h
theorem xb_rcv_spec {G : xb_G} {y k : Nat} {av : List Value} {A : xb_H} (h : xb_rcv G y av A = true) (hk : xb_gV G y = some k) : ∃ (a : Nat) (r fs : List Value), av = .ref a :: r ∧ xb_get A a = some (.inr (k, fs)) := by
  unfold xb_rcv at h
  rw [hk] at h
  dsimp only at h
  split at h
  · split at h
    · rename_i hg
      have h1 := of_decide_eq_true h
      subst h1
      exact ⟨_, _, _, rfl, hg⟩
    · cases h
  · cases h
theorem xs_cats (ad : Nat → Nat) (r : List Value) : ((r.map (xs_v ad)).map fun v => v.category) = r.map fun v => v.category := by
  rw [List.map_map]
  apply List.map_congr_left
  intro v _
  exact xs_v_cat ad v
section XC
variable {p : Program} {l : Launch} {e : Env} {R : Room} {s : State} {m : MethodId} {args : Array Value} {below : List Frame} {meth : Method} {c : Code}
variable {D : xs_D} {cl : List vw_C} {nL : Nat} {cc : ByteArray} {Ts NW : List Cond} {own : String} {pc : Nat} {A : xb_H} {G : xb_G} {TY : List FieldType} {sd : Nat → Option (String × String × String)} {sl : String → Nat → Option Nat} {H : Heap} {locs : List Loc} {cells slots : Nat} {ls : Array Slot}
theorem xs_callrun (S : CallFix p m c cc nL s args Ts own) (hK : xs_K D G cl TY NW sd sl s) (hgood : ∀ w ∈ Ts, (w.onTables && w.keeps) = true ∨ ∃ ty, w = .arrayClass ty) {inf : xs_M} (hcode : Cond.code inf.1 inf.2.1 inf.2.2.1 inf.2.2.2 ∈ Ts) {y n : Nat} {q : xb_I} {av rest : List Value} {d mc ms : Nat} {Qc : Array Value → State → Outcome → State → Prop}
    (hc : xs_cl own Ts NW cl inf (xb_gV G y) n q.1) (hd : decode cc pc = .ok (q.1, 3)) (hrc : xb_rcv G y av A = true) (hn : av.length = n) (hR : xs_R D cl s H A) (hls : ls.size = nL) (hw : (rest.map fun v => v.category).sum ≤ 8)
    (hM : Met l inf.1 (Cond.code inf.1 inf.2.1 inf.2.2.1 inf.2.2.2 :: Ts) (xs_rm d mc ms) (xs_P D G cl TY NW sd sl av A) Qc mc ms (xs_fr D)) (hfr : d + 1 ≤ R.frames) (hlo : 8 + (inf.2.2.1 + 11) + 64 * d ≤ R.locals) (hcells : cells + mc ≤ R.cells) (hslots : slots + ms ≤ R.slots) :
    va_Run p l e R s m args below meth c H locs cells slots mc ms (F0 m pc ls ((av.map (xs_v D.2.2.1)).reverse ++ rest)) rest (Qc (av.map (xs_v D.2.2.1)).toArray) (xs_fr D) := by
  obtain ⟨hy, hini, hc⟩ := hc
  have hPc : ∀ U : State, U.heap = H → s.WarmedH U.vm → xs_P D G cl TY NW sd sl av A (av.map (xs_v D.2.2.1)).toArray U := fun U hU hW => ⟨rfl, by rw [hU]; exact hR.moved hW.alike, hK.warm hW⟩
  have hG : GoodIn Ts (Cond.code inf.1 inf.2.1 inf.2.2.1 inf.2.2.2 :: Ts) := by
    intro w hw
    rcases List.mem_cons.mp hw with rfl | hw
    · exact ⟨hcode, hgood _ hcode⟩
    · exact ⟨hw, hgood _ hw⟩
  have hts := S.2.2.2.2
  have hroom : 2 * (F0 m pc ls ((av.map (xs_v D.2.2.1)).reverse ++ rest)).monitorRoom + (rest.map fun v => v.category).sum ≤ 8 := lv_room hw
  rcases hc with ⟨idx, hi, hp, hst, hlk⟩ | ⟨idx, k, n', hi, hk, hnm, hret, hnn, hp, hin, hlk⟩ | ⟨idx, k, n', r, hi, hk, hr, hnn, hp, hin, hlk, hse⟩ | ⟨idx, k, n', r, hi, hk, hr, hni, hnn, hp, hin, hlk, hsm, hsu⟩ | ⟨idx, k, n', r, x, b0, m0, r0, hi, hk, hr, hnn, hp, hxx, hin, hinx, hlk, hsm, hse, hc0⟩
  · rw [hi] at hd
    rcases hlk with hlk | ⟨host, hlk⟩
    · exact va_runS (As := av.map (xs_v D.2.2.1)) (rest := rest) S hM ⟨callB_of n hts hG rfl rfl rfl (hts _ hini) (hts _ hlk) ⟨hy.1, hy.2, hp⟩ ⟨hfr, hlo⟩, hts _ hst⟩ ⟨xs_blind, hPc⟩ rfl (by rw [List.length_map]; exact hn) hls rfl hroom hd ⟨hcells, hslots⟩
    · exact va_runSN (As := av.map (xs_v D.2.2.1)) (rest := rest) (host := host) S hM ⟨va_cnB n hts hG rfl rfl rfl (hK.2.2.2.2.2.2 _ hlk).2 (hts _ hini) ⟨hy.1, hy.2, hp⟩ ⟨hfr, hlo⟩, hts _ hst, trivial⟩ ⟨xs_blind, hPc⟩ rfl (by rw [List.length_map]; exact hn) hls rfl hroom hd ⟨hcells, hslots⟩
  · rw [hi] at hd
    obtain ⟨a, As, fs, rfl, hg⟩ := xb_rcv_spec hrc hk
    obtain ⟨yn, bytes, mL, ret⟩ := inf
    dsimp only at hret
    subst hret
    have h5 := va_runI (e := e) (below := below) (meth := meth) (b := D.2.2.1 a) (As := As.map (xs_v D.2.2.1)) (rest := rest) (g := F0 m pc ls (((Value.ref a :: As).map (xs_v D.2.2.1)).reverse ++ rest)) S hM (cwI n' hts hG rfl rfl rfl (hts _ hini) (hts _ hlk) (hts _ hin) hnm ⟨hy.1, hy.2, hp⟩ ⟨hfr, hlo⟩) ⟨xs_blind, hPc⟩ rfl (by rw [List.length_map]; simp at hn; omega) hls (by simp [xs_v]) hroom hd ⟨hcells, hslots⟩ (locs := locs)
    exact h5
  · rw [hi] at hd
    obtain ⟨a, As, fs, rfl, hg⟩ := xb_rcv_spec hrc hk
    obtain ⟨rr, cell, h0, h1, h2, h3, h4, -⟩ := (hR.2.2.2.1 a _ hg).2
    have er : rr = r := Option.some.inj (h0.symm.trans hr)
    subst er
    have hrecv : ∃ cellB : Cell, H[D.2.2.1 a]? = some cellB ∧ cellB.vm.isStatics = false ∧ s.vm.findClass rr.1 = some cellB.cls := ⟨cell, h1, h4, by rw [h2]; exact (hK.1.1 k rr h0).2.1⟩
    have h5 := va_runV (e := e) (below := below) (meth := meth) (C := rr.1) (b := D.2.2.1 a) (As := As.map (xs_v D.2.2.1)) (rest := rest) (g := F0 m pc ls (((Value.ref a :: As).map (xs_v D.2.2.1)).reverse ++ rest)) S hM ⟨callB_of n' hts hG rfl rfl rfl (hts _ hini) (hts _ hlk) ⟨hy.1, hy.2, hp⟩ ⟨hfr, hlo⟩, hts _ hin, hts _ hse⟩ ⟨xs_blind, hrecv, hPc⟩ rfl (by rw [List.length_map]; simp at hn; omega) hls (by simp [xs_v]) hroom hd ⟨hcells, hslots⟩ (locs := locs)
    exact h5
  · rw [hi] at hd
    obtain ⟨a, As, fs, rfl, hg⟩ := xb_rcv_spec hrc hk
    obtain ⟨rr, cell, h0, h1, h2, h3, h4, -⟩ := (hR.2.2.2.1 a _ hg).2
    have er : rr = r := Option.some.inj (h0.symm.trans hr)
    subst er
    have hrecv : ∃ cellB : Cell, H[D.2.2.1 a]? = some cellB ∧ cellB.vm.isStatics = false ∧ s.vm.findClass rr.1 = some cellB.cls := ⟨cell, h1, h4, by rw [h2]; exact (hK.1.1 k rr h0).2.1⟩
    have hT : GoodIn Ts (va_wsSU own idx inf.1 (Cond.code inf.1 inf.2.1 inf.2.2.1 inf.2.2.2 :: Ts)) := by
      intro w hw
      rcases List.mem_append.mp hw with hw | hw
      · simp only [List.mem_cons, List.not_mem_nil, or_false] at hw
        rcases hw with rfl | rfl | rfl | rfl | rfl
        · exact ⟨hlk, hgood _ hlk⟩
        · exact ⟨hsm, hgood _ hsm⟩
        · exact ⟨hsu, hgood _ hsu⟩
        · exact ⟨hin, hgood _ hin⟩
        · exact ⟨hini, hgood _ hini⟩
      · exact hG w hw
    have h5 := va_runSU (e := e) (below := below) (meth := meth) (C := rr.1) (b := D.2.2.1 a) (As := As.map (xs_v D.2.2.1)) (rest := rest) (g := F0 m pc ls (((Value.ref a :: As).map (xs_v D.2.2.1)).reverse ++ rest)) (hK.1.1 k rr h0).2 S hM (va_cwSU n' hts hT rfl rfl rfl ⟨hni, hp⟩ ⟨hfr, hlo⟩) ⟨xs_blind, hrecv, hPc⟩ rfl (by rw [List.length_map]; simp at hn; omega) hls (by simp [xs_v]) hroom hd ⟨hcells, hslots⟩ (locs := locs)
    exact h5
  · rw [hi] at hd
    obtain ⟨a, As, fs, rfl, hg⟩ := xb_rcv_spec hrc hk
    obtain ⟨rr, cell, h0, h1, h2, h3, h4, -⟩ := (hR.2.2.2.1 a _ hg).2
    have er : rr = r := Option.some.inj (h0.symm.trans hr)
    subst er
    have hrecv : ∃ cellB : Cell, H[D.2.2.1 a]? = some cellB ∧ cellB.vm.isStatics = false ∧ s.vm.findClass rr.1 = some cellB.cls := ⟨cell, h1, h4, by rw [h2]; exact (hK.1.1 k rr h0).2.1⟩
    have hT : GoodIn Ts (va_wsO own idx rr.1 x.cls x inf.1 (Cond.code inf.1 inf.2.1 inf.2.2.1 inf.2.2.2 :: Ts)) := by
      intro w hw
      rcases List.mem_append.mp hw with hw | hw
      · simp only [List.mem_cons, List.not_mem_nil, or_false] at hw
        rcases hw with rfl | rfl | rfl | rfl | rfl | rfl
        · exact ⟨hlk, hgood _ hlk⟩
        · exact ⟨hsm, hgood _ hsm⟩
        · exact ⟨hinx, hgood _ hinx⟩
        · exact ⟨hse, hgood _ hse⟩
        · exact ⟨hin, hgood _ hin⟩
        · exact ⟨hini, hgood _ hini⟩
      · exact hG w hw
    have h5 := va_runU (e := e) (below := below) (meth := meth) (C := rr.1) (owner := x.cls) (x := x) (b := D.2.2.1 a) (As := As.map (xs_v D.2.2.1)) (rest := rest) (g := F0 m pc ls (((Value.ref a :: As).map (xs_v D.2.2.1)).reverse ++ rest)) S hM (va_cwO n' hts hT rfl rfl rfl hc0 ⟨hxx.1, hxx.2, hp⟩ ⟨hfr, hlo⟩) ⟨xs_blind, hrecv, hPc⟩ rfl (by rw [List.length_map]; simp at hn; omega) hls (by simp [xs_v]) hroom hd ⟨hcells, hslots⟩ (locs := locs)
    exact h5
/-- System.arraycopy between two rows of bytes -/
theorem xs_copy (S : CallFix p m c cc nL s args Ts own) (hD : xs_ad D) {d : Nat} {idx c0 s0 : Nat} {L : xb_L} {st : List Value} {q : xb_S} {Q : State → Prop} (h : xb_cpyx d pc L A st = some q) (hd : decode cc pc = .ok (.invokestatic idx, 3)) (hlk : Cond.methodLink own idx arraycopyName ∈ Ts) (hnat : Cond.native arraycopyName ∈ Ts) (hstat : Cond.static arraycopyName ∈ Ts) (hini : Cond.initialized "java/lang/System" ∈ Ts) (hfr : d ≤ R.frames) (hlo : 64 * d ≤ R.locals)
    (kk : xs_G D cl p l e R s m args below meth c nL c0 s0 Q q.1 q.2.1 q.2.2.1 q.2.2.2) : xs_G D cl p l e R s m args below meth c nL c0 s0 Q pc L st A := by
  obtain ⟨n, dp, sp, a, b, n0, n1, f, g, r, rfl, hg1, hg2, hz, h1, h2, h3, h4, h5, hd1, hcat, hfit, rfl⟩ := xb_cpyx_spec h
  have nn : ∀ z : Int32, ¬ z < 0 → z.toInt = (z.toNatClampNeg : Int) := by
    intro z hz
    have hz0 : (0 : Int) ≤ z.toInt := by
      have := Int32.not_lt.mp hz
      simpa using Int32.le_iff_toInt_le.mp this
    show z.toInt = ((z.toInt.toNat : Nat) : Int)
    omega
  intro H locs ls hR hl hq T hT X
  obtain ⟨c1, q1, q2, q3, q4, q5, q6⟩ := (hR.2.2.2.1 a _ hg1).2
  obtain ⟨c2, w1, w2, w3, w4, w5, w6⟩ := (hR.2.2.2.1 b _ hg2).2
  obtain ⟨q7, k0, hk0, cm0, hkk0⟩ := q2
  have w2' := w2
  obtain ⟨w7, k1, hk1, cm1, hkk1⟩ := w2
  have ec2 := w6 hz
  obtain ⟨vm', X', step⟩ := X.arraycopy S.1 S.2.2.2.1 (S.2.2.2.2 _ hlk) (S.2.2.2.2 _ hnat) (S.2.2.2.2 _ hstat) (S.2.2.2.2 _ hini) (src := D.2.2.1 a) (dst := D.2.2.1 b) (cs := c1) (cd := c2) (srcPos := sp) (destPos := dp) (n := n) (by rw [hT]; exact q1) (by rw [hT]; exact w1)
    q7 w7 q3 w3 hk0 hk1 hkk0 hkk1 (by simp [refKind]) h1 h2 h3
    (by have q40 := q4.1; rw [nn sp h1, nn n h3]; omega)
    (by have w40 := w4.1; rw [nn dp h2, nn n h3]; omega)
    (fun vm₁ _ i hi => by
      have e : c1.slots.getD (sp.toNatClampNeg + i) .null = .int (f (sp.toNatClampNeg + i)) := by
        rw [Array.getD_eq_getD_getElem?, q5 _ (by omega)]
        rfl
      refine ⟨?_, ?_⟩
      · rw [e]
        exact hfit i hi
      · rw [e]
        exact trivial)
    (g := F0 m pc ls (.int n :: .int dp :: .ref (D.2.2.1 b) :: .int sp :: .ref (D.2.2.1 a) :: r.map (xs_v D.2.2.1))) rfl (by rw [S.2.2.1]; exact hl.1) (rest := r.map (xs_v D.2.2.1)) rfl (by rw [S.2.1]; exact hd) (by omega) (by
      show 2 * 0 + ((r.map (xs_v D.2.2.1)).map fun v => v.category).sum + (nativeFrameWords "java/lang/System" "arraycopy" 5 + 11) ≤ R.locals
      rw [xs_cats]
      have : nativeFrameWords "java/lang/System" "arraycopy" 5 = 7 := by decide
      omega)
  have e1 : copied c1 c2 sp dp n = arrV (D.2.1 .byte) n1 (fun j => xs_v D.2.2.1 (xs_el (.inl (va_cpy f g sp.toNatClampNeg dp.toNatClampNeg n.toNatClampNeg)) j)) := by
    rw [ec2]
    exact va_copiedX (fun z => Value.int z) c1 (D.2.1 .byte) f g q5 h4
  rw [e1] at X' step
  have hlt : D.2.2.1 b < H.size := (Array.getElem?_eq_some_iff.mp w1).1
  have hbase : D.2.2.2.1 ≤ D.2.2.1 b := by rw [(hD.1 b hz).1]; omega
  obtain ⟨t, a1, b1⟩ := kk (H.setIfInBounds (D.2.2.1 b) (arrV (D.2.1 .byte) n1 (fun j => xs_v D.2.2.1 (xs_el (.inl (va_cpy f g sp.toNatClampNeg dp.toNatClampNeg n.toNatClampNeg)) j)))) _ ls
    (hR.set hD hg2 hz (by simp) ⟨_, by simp [Array.getElem?_setIfInBounds, hlt], (by rw [ec2] at w2'; exact w2'), (fun z => by cases z), xs_arrsz _ _ _, fun j hj => arrV_read _ _ hj, fun _ => rfl⟩ (fun z hz' => by simp [Array.getElem?_setIfInBounds, Ne.symm hz'])) hl
    (fun z hz' => by
      rcases List.mem_append.mp hz' with hz' | hz'
      · exact hq z hz'
      · obtain ⟨y, -, hy⟩ := List.mem_map.mp hz'
        rw [← hy]
        exact hbase) ((T.setVm vm').setCell (D.2.2.1 b) (arrV (D.2.1 .byte) n1 (fun j => xs_v D.2.2.1 (xs_el (.inl (va_cpy f g sp.toNatClampNeg dp.toNatClampNeg n.toNatClampNeg)) j)))) (by rw [← hT]; rfl) X'
  exact ⟨t, step t a1, b1⟩
end XC
theorem xs_args (ad : Nat → Nat) : ∀ (av : List Value) (i : Nat), xs_m ad (lv_args i av) = lv_args i (av.map (xs_v ad)) := by
  intro av
  induction av with
  | nil => intro i; rfl
  | cons v t ih =>
    intro i
    show (i, xs_v ad v) :: xs_m ad (lv_args _ t) = (i, xs_v ad v) :: lv_args (if (xs_v ad v).category = 2 then i + 2 else i + 1) (t.map (xs_v ad))
    rw [xs_v_cat, ih]
theorem xs_sl (ad : Nat → Nat) (av : List Value) : (lg_sl (av.map (xs_v ad))).length = (lg_sl av).length := by
  induction av with
  | nil => rfl
  | cons v t ih =>
    unfold lg_sl at ih ⊢
    rw [List.map_cons, List.flatMap_cons, List.flatMap_cons, List.length_append, List.length_append, ih, xs_v_cat]
    split <;> rfl
/-- the words of a static call that is no run of code -/
def xs_bw (own : String) (Ts : List Cond) (q : xb_I) : Prop :=
  (∃ idx : Nat, q.1 = .invokestatic idx ∧ q.2.2.2 = 5 ∧ Cond.methodLink own idx arraycopyName ∈ Ts ∧ Cond.native arraycopyName ∈ Ts ∧ Cond.static arraycopyName ∈ Ts ∧ Cond.initialized "java/lang/System" ∈ Ts) ∨
  (∃ idx : Nat, q.1 = .invokestatic idx ∧ q.2.2.2 = 2 ∧ Cond.methodLink own idx Lib.Math.max.name ∈ Ts ∧ Cond.static Lib.Math.max.name ∈ Ts ∧ Cond.initialized "java/lang/Math" ∈ Ts ∧ Cond.code Lib.Math.max.name Lib.Math.max.code 2 (some .int) ∈ Ts) ∨
  (∃ idx : Nat, q.1 = .invokestatic idx ∧ q.2.2.2 = 3 ∧ Cond.methodLink own idx Lib.Math.min.name ∈ Ts ∧ Cond.static Lib.Math.min.name ∈ Ts ∧ Cond.initialized "java/lang/Math" ∈ Ts ∧ Cond.code Lib.Math.min.name Lib.Math.min.code 2 (some .int) ∈ Ts)
/-- what is asked of the program's tables -/
def xs_prog (G : xb_G) (cl : List vw_C) (Ts : List Cond) (TY : List FieldType) (NW : List Cond) (sd : Nat → Option (String × String × String)) (sl : String → Nat → Option Nat) (INF : Nat → Option xs_M) : Prop :=
  (∀ w ∈ Ts, (w.onTables && w.keeps) = true ∨ ∃ ty, w = .arrayClass ty) ∧ xs_cls cl Ts (xb_gT G) ∧ ∀ (y : Nat) (inf : xs_M), INF y = some inf →
    plainName inf.1.cls = true ∧ Cond.code inf.1 inf.2.1 inf.2.2.1 inf.2.2.2 ∈ Ts ∧ xb_gR G y = inf.2.2.2 ∧ xb_gN G y = inf.2.2.1 ∧ inf.2.2.1 ≤ 45 ∧
    ∀ (pc : Nat) (q : xb_I), xb_gP G y pc = some q → decode inf.2.1 pc = .ok (q.1, q.2.1) ∧ xs_len inf.2.2.1 pc q ∧
      (xb_sort q.1 = 0 ∨ (xb_sort q.1 = 6 ∧ q.2.2.2 = 0) → xs_lk G cl Ts TY NW sd sl inf.1.cls (inf.1.name == "<init>") q) ∧
      (xb_sort q.1 = 5 → q.2.2.1 = 0 → (∃ idx : Nat, q.1 = .invokespecial idx ∧ Cond.methodLink inf.1.cls idx Lib.objectInit ∈ Ts ∧ Cond.instanceMethod Lib.objectInit ∈ Ts ∧ Cond.code Lib.objectInit ⟨#[0xb1]⟩ 1 none ∈ Ts) ∨ xs_bw inf.1.cls Ts q) ∧
      (xb_sort q.1 = 5 → ¬ q.2.2.1 = 0 → ∃ inf' : xs_M, INF q.2.2.1 = some inf' ∧ xs_cl inf.1.cls Ts NW cl inf' (xb_gV G q.2.2.1) q.2.2.2 q.1)
/-- a method of the tables, walked -/
def xs_B (p : Program) (s : State) (m : MethodId) (args : Array Value) (meth : Method) (c : Code) (Ts : List Cond) (inf : xs_M) : Prop :=
  CallFix p m c inf.2.1 inf.2.2.1 s args Ts inf.1.cls ∧ meth.sig.returnType = inf.2.2.2 ∧ meth.locks = false ∧ meth.name = inf.1.name
