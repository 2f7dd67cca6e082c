/-! Calls -/
/-- a method: its name, its code, its locals, what it returns -/
abbrev xs_M : Type := MethodName × ByteArray × Nat × Option FieldType
def xs_rm (d mc ms : Nat) : Room := { frames := d, cells := mc, slots := ms, locals := 64 * d }
def xs_P (D : xs_D) (G : xb_G) (cl : List vw_C) (TY : List FieldType) (NW : List Cond) (sd : Nat → Option (String × String × String)) (sl : String → Nat → Option Nat) (av : List Value) (A : xb_H) : Array Value → State → Prop := fun a U => a = (av.map (xs_v D.2.2.1)).toArray ∧ xs_R D cl U U.heap A ∧ xs_K D G cl TY NW sd sl U
def xs_Q (D : xs_D) (cl : List vw_C) (v : Option Value) (A : xb_H) : Array Value → State → Outcome → State → Prop := fun _ _ o t => o = .returned (v.map (xs_v D.2.2.1)) ∧ xs_R D cl t t.heap A
def xs_fr (D : xs_D) : Addr → Prop := fun q => D.2.2.2.1 ≤ q
theorem xs_blind {D : xs_D} {G : xb_G} {cl : List vw_C} {TY : List FieldType} {NW : List Cond} {sd : Nat → Option (String × String × String)} {sl : String → Nat → Option Nat} {av : List Value} {A : xb_H} : FrameBlind (xs_P D G cl TY NW sd sl av A) := by
  intro a U g mk h
  obtain ⟨h1, h2, h3⟩ := h
  exact ⟨h1, xs_R.moved (u := U) (U := U.calling g mk a) (Vm.Alike.refl U.vm) h2, xs_K.warm (s := U) (U := U.calling g mk a) (State.WarmedH.refl U) h3⟩
/-- the words of a call -/
def xs_cl (own : String) (Ts NW : List Cond) (cl : List vw_C) (inf : xs_M) (rc : Option Nat) (n : Nat) (ins : Instr) : Prop :=
  (inf.1.cls ≠ "java/lang/invoke/MethodHandle" ∧ inf.1.cls ≠ "java/lang/invoke/VarHandle") ∧ Cond.initialized inf.1.cls ∈ Ts ∧
  ((∃ idx : Nat, ins = .invokestatic idx ∧ (parseMethodDescriptor inf.1.desc).map (fun d => d.parameters.length) = some n ∧ Cond.static inf.1 ∈ Ts ∧ (Cond.methodLink own idx inf.1 ∈ Ts ∨ ∃ host : String, Cond.methodLinkNest own idx inf.1 host ∈ NW)) ∨
   (∃ idx k n' : Nat, ins = .invokespecial idx ∧ rc = some k ∧ inf.1.name = "<init>" ∧ inf.2.2.2 = none ∧ n = n' + 1 ∧ (parseMethodDescriptor inf.1.desc).map (fun d => d.parameters.length) = some n' ∧ Cond.instanceMethod inf.1 ∈ Ts ∧ Cond.methodLink own idx inf.1 ∈ Ts) ∨
   (∃ (idx k n' : Nat) (r : vw_C), ins = .invokevirtual idx ∧ rc = some k ∧ cl[k]? = some r ∧ n = n' + 1 ∧ (parseMethodDescriptor inf.1.desc).map (fun d => d.parameters.length) = some n' ∧ Cond.instanceMethod inf.1 ∈ Ts ∧ Cond.methodLink own idx inf.1 ∈ Ts ∧ Cond.selects r.1 inf.1 inf.1 ∈ Ts) ∨
   (∃ (idx k n' : Nat) (r : vw_C), ins = .invokespecial idx ∧ rc = some k ∧ cl[k]? = some r ∧ inf.1.name ≠ "<init>" ∧ n = n' + 1 ∧ (parseMethodDescriptor inf.1.desc).map (fun d => d.parameters.length) = some n' ∧ Cond.instanceMethod inf.1 ∈ Ts ∧ Cond.methodLink own idx inf.1 ∈ Ts ∧ Cond.sameMethod inf.1.cls inf.1.cls inf.1.name inf.1.desc ∈ Ts ∧ Cond.superclass own inf.1.cls ∈ Ts) ∨
   (∃ (idx k n' : Nat) (r : vw_C) (x : MethodName) (b0 : ByteArray) (m0 : Nat) (r0 : Option FieldType), ins = .invokevirtual idx ∧ rc = some k ∧ cl[k]? = some r ∧ n = n' + 1 ∧ (parseMethodDescriptor x.desc).map (fun d => d.parameters.length) = some n' ∧ (x.cls ≠ "java/lang/invoke/MethodHandle" ∧ x.cls ≠ "java/lang/invoke/VarHandle") ∧ Cond.instanceMethod inf.1 ∈ Ts ∧ Cond.instanceMethod x ∈ Ts ∧ Cond.methodLink own idx x ∈ Ts ∧ Cond.sameMethod x.cls x.cls x.name x.desc ∈ Ts ∧ Cond.selects r.1 x inf.1 ∈ Ts ∧ Cond.code x b0 m0 r0 ∈ Ts))
theorem xs_len_of {y : MethodName} {n : Nat} (h : (parseMethodDescriptor y.desc).map (fun d => d.parameters.length) = some n) : ∀ sig, parseMethodDescriptor y.desc = some sig → n = sig.parameters.length := by
  intro sig hs
  rw [hs] at h
  exact (Option.some.inj h).symm
theorem xb_pop_spec {n : Nat} {st av rest : List Value} (h : xb_pop n st = some (av, rest)) : st = av.reverse ++ rest ∧ av.length = n ∧ (rest.map fun v => v.category).sum ≤ 8 := by
  unfold xb_pop at h
  split at h
  · rename_i hc
    cases h
    refine ⟨by rw [List.reverse_reverse, List.take_append_drop], by rw [List.length_reverse, List.length_take]; exact Nat.min_eq_left hc.1, hc.2⟩
  · cases h
theorem xb_rcv_spec {G : xb_G} {y k : Nat} {av : List Value} {A : xb_H} (h : xb_rcv G y av A = true) (hk : xb_gV G y = some k) : ∃ (a : Nat) (r fs : List Value), av = .ref a :: r ∧ xb_get A a = some (.inr (k, fs)) := by
  unfold xb_rcv at h
  rw [hk] at h
  dsimp only at h
  split at h
  · split at h
    · rename_i hg
      have h1 := of_decide_eq_true h
      subst h1
      exact ⟨_, _, _, rfl, hg⟩
    · cases h
  · cases h
theorem xs_cats (ad : Nat → Nat) (r : List Value) : ((r.map (xs_v ad)).map fun v => v.category) = r.map fun v => v.category := by
  rw [List.map_map]
  apply List.map_congr_left
  intro v _
  exact xs_v_cat ad v
section XC
variable {p : Program} {l : Launch} {e : Env} {R : Room} {s : State} {m : MethodId} {args : Array Value} {below : List Frame} {meth : Method} {c : Code}
variable {D : xs_D} {cl : List vw_C} {nL : Nat} {cc : ByteArray} {Ts NW : List Cond} {own : String} {pc : Nat} {A : xb_H} {G : xb_G} {TY : List FieldType} {sd : Nat → Option (String × String × String)} {sl : String → Nat → Option Nat} {H : Heap} {locs : List Loc} {cells slots : Nat} {ls : Array Slot}
theorem xs_callrun (S : CallFix p m c cc nL s args Ts own) (hK : xs_K D G cl TY NW sd sl s) (hgood : ∀ w ∈ Ts, (w.onTables && w.keeps) = true ∨ ∃ ty, w = .arrayClass ty) {inf : xs_M} (hcode : Cond.code inf.1 inf.2.1 inf.2.2.1 inf.2.2.2 ∈ Ts) {y n : Nat} {q : xb_I} {av rest : List Value} {d mc ms : Nat} {Qc : Array Value → State → Outcome → State → Prop}
    (hc : xs_cl own Ts NW cl inf (xb_gV G y) n q.1) (hd : decode cc pc = .ok (q.1, 3)) (hrc : xb_rcv G y av A = true) (hn : av.length = n) (hR : xs_R D cl s H A) (hls : ls.size = nL) (hw : (rest.map fun v => v.category).sum ≤ 8)
    (hM : Met l inf.1 (Cond.code inf.1 inf.2.1 inf.2.2.1 inf.2.2.2 :: Ts) (xs_rm d mc ms) (xs_P D G cl TY NW sd sl av A) Qc mc ms (xs_fr D)) (hfr : d + 1 ≤ R.frames) (hlo : 8 + (inf.2.2.1 + 11) + 64 * d ≤ R.locals) (hcells : cells + mc ≤ R.cells) (hslots : slots + ms ≤ R.slots) :
    va_Run p l e R s m args below meth c H locs cells slots mc ms (F0 m pc ls ((av.map (xs_v D.2.2.1)).reverse ++ rest)) rest (Qc (av.map (xs_v D.2.2.1)).toArray) (xs_fr D) := by
  obtain ⟨hy, hini, hc⟩ := hc
  have hPc : ∀ U : State, U.heap = H → s.WarmedH U.vm → xs_P D G cl TY NW sd sl av A (av.map (xs_v D.2.2.1)).toArray U := fun U hU hW => ⟨rfl, by rw [hU]; exact hR.moved hW.alike, hK.warm hW⟩
  have hG : GoodIn Ts (Cond.code inf.1 inf.2.1 inf.2.2.1 inf.2.2.2 :: Ts) := by
    intro w hw
    rcases List.mem_cons.mp hw with rfl | hw
    · exact ⟨hcode, hgood _ hcode⟩
    · exact ⟨hw, hgood _ hw⟩
  have hts := S.2.2.2.2
  have hroom : 2 * (F0 m pc ls ((av.map (xs_v D.2.2.1)).reverse ++ rest)).monitorRoom + (rest.map fun v => v.category).sum ≤ 8 := lv_room hw
  rcases hc with ⟨idx, hi, hp, hst, hlk⟩ | ⟨idx, k, n', hi, hk, hnm, hret, hnn, hp, hin, hlk⟩ | ⟨idx, k, n', r, hi, hk, hr, hnn, hp, hin, hlk, hse⟩ | ⟨idx, k, n', r, hi, hk, hr, hni, hnn, hp, hin, hlk, hsm, hsu⟩ | ⟨idx, k, n', r, x, b0, m0, r0, hi, hk, hr, hnn, hp, hxx, hin, hinx, hlk, hsm, hse, hc0⟩
  · rw [hi] at hd
    rcases hlk with hlk | ⟨host, hlk⟩
    · exact va_runS (As := av.map (xs_v D.2.2.1)) (rest := rest) S hM ⟨callB_of n hts hG rfl rfl rfl (hts _ hini) (hts _ hlk) ⟨hy.1, hy.2, hp⟩ ⟨hfr, hlo⟩, hts _ hst⟩ ⟨xs_blind, hPc⟩ rfl (by rw [List.length_map]; exact hn) hls rfl hroom hd ⟨hcells, hslots⟩
    · exact va_runSN (As := av.map (xs_v D.2.2.1)) (rest := rest) (host := host) S hM ⟨va_cnB n hts hG rfl rfl rfl (hK.2.2.2.2.2.2 _ hlk).2 (hts _ hini) ⟨hy.1, hy.2, hp⟩ ⟨hfr, hlo⟩, hts _ hst, trivial⟩ ⟨xs_blind, hPc⟩ rfl (by rw [List.length_map]; exact hn) hls rfl hroom hd ⟨hcells, hslots⟩
  · rw [hi] at hd
    obtain ⟨a, As, fs, rfl, hg⟩ := xb_rcv_spec hrc hk
    obtain ⟨yn, bytes, mL, ret⟩ := inf
    dsimp only at hret
    subst hret
    have h5 := va_runI (e := e) (below := below) (meth := meth) (b := D.2.2.1 a) (As := As.map (xs_v D.2.2.1)) (rest := rest) (g := F0 m pc ls (((Value.ref a :: As).map (xs_v D.2.2.1)).reverse ++ rest)) S hM (cwI n' hts hG rfl rfl rfl (hts _ hini) (hts _ hlk) (hts _ hin) hnm ⟨hy.1, hy.2, hp⟩ ⟨hfr, hlo⟩) ⟨xs_blind, hPc⟩ rfl (by rw [List.length_map]; simp at hn; omega) hls (by simp [xs_v]) hroom hd ⟨hcells, hslots⟩ (locs := locs)
    exact h5
  · rw [hi] at hd
    obtain ⟨a, As, fs, rfl, hg⟩ := xb_rcv_spec hrc hk
    obtain ⟨rr, cell, h0, h1, h2, h3, h4, -⟩ := (hR.2.2.2.1 a _ hg).2
    have er : rr = r := Option.some.inj (h0.symm.trans hr)
    subst er
    have hrecv : ∃ cellB : Cell, H[D.2.2.1 a]? = some cellB ∧ cellB.vm.isStatics = false ∧ s.vm.findClass rr.1 = some cellB.cls := ⟨cell, h1, h4, by rw [h2]; exact (hK.1.1 k rr h0).2.1⟩
    have h5 := va_runV (e := e) (below := below) (meth := meth) (C := rr.1) (b := D.2.2.1 a) (As := As.map (xs_v D.2.2.1)) (rest := rest) (g := F0 m pc ls (((Value.ref a :: As).map (xs_v D.2.2.1)).reverse ++ rest)) S hM ⟨callB_of n' hts hG rfl rfl rfl (hts _ hini) (hts _ hlk) ⟨hy.1, hy.2, hp⟩ ⟨hfr, hlo⟩, hts _ hin, hts _ hse⟩ ⟨xs_blind, hrecv, hPc⟩ rfl (by rw [List.length_map]; simp at hn; omega) hls (by simp [xs_v]) hroom hd ⟨hcells, hslots⟩ (locs := locs)
    exact h5
  · rw [hi] at hd
    obtain ⟨a, As, fs, rfl, hg⟩ := xb_rcv_spec hrc hk
    obtain ⟨rr, cell, h0, h1, h2, h3, h4, -⟩ := (hR.2.2.2.1 a _ hg).2
    have er : rr = r := Option.some.inj (h0.symm.trans hr)
    subst er
    have hrecv : ∃ cellB : Cell, H[D.2.2.1 a]? = some cellB ∧ cellB.vm.isStatics = false ∧ s.vm.findClass rr.1 = some cellB.cls := ⟨cell, h1, h4, by rw [h2]; exact (hK.1.1 k rr h0).2.1⟩
    have hT : GoodIn Ts (va_wsSU own idx inf.1 (Cond.code inf.1 inf.2.1 inf.2.2.1 inf.2.2.2 :: Ts)) := by
      intro w hw
      rcases List.mem_append.mp hw with hw | hw
      · simp only [List.mem_cons, List.not_mem_nil, or_false] at hw
        rcases hw with rfl | rfl | rfl | rfl | rfl
        · exact ⟨hlk, hgood _ hlk⟩
        · exact ⟨hsm, hgood _ hsm⟩
        · exact ⟨hsu, hgood _ hsu⟩
        · exact ⟨hin, hgood _ hin⟩
        · exact ⟨hini, hgood _ hini⟩
      · exact hG w hw
    have h5 := va_runSU (e := e) (below := below) (meth := meth) (C := rr.1) (b := D.2.2.1 a) (As := As.map (xs_v D.2.2.1)) (rest := rest) (g := F0 m pc ls (((Value.ref a :: As).map (xs_v D.2.2.1)).reverse ++ rest)) (hK.1.1 k rr h0).2 S hM (va_cwSU n' hts hT rfl rfl rfl ⟨hni, hp⟩ ⟨hfr, hlo⟩) ⟨xs_blind, hrecv, hPc⟩ rfl (by rw [List.length_map]; simp at hn; omega) hls (by simp [xs_v]) hroom hd ⟨hcells, hslots⟩ (locs := locs)
    exact h5
  · rw [hi] at hd
    obtain ⟨a, As, fs, rfl, hg⟩ := xb_rcv_spec hrc hk
    obtain ⟨rr, cell, h0, h1, h2, h3, h4, -⟩ := (hR.2.2.2.1 a _ hg).2
    have er : rr = r := Option.some.inj (h0.symm.trans hr)
    subst er
    have hrecv : ∃ cellB : Cell, H[D.2.2.1 a]? = some cellB ∧ cellB.vm.isStatics = false ∧ s.vm.findClass rr.1 = some cellB.cls := ⟨cell, h1, h4, by rw [h2]; exact (hK.1.1 k rr h0).2.1⟩
    have hT : GoodIn Ts (va_wsO own idx rr.1 x.cls x inf.1 (Cond.code inf.1 inf.2.1 inf.2.2.1 inf.2.2.2 :: Ts)) := by
      intro w hw
      rcases List.mem_append.mp hw with hw | hw
      · simp only [List.mem_cons, List.not_mem_nil, or_false] at hw
        rcases hw with rfl | rfl | rfl | rfl | rfl | rfl
        · exact ⟨hlk, hgood _ hlk⟩
        · exact ⟨hsm, hgood _ hsm⟩
        · exact ⟨hinx, hgood _ hinx⟩
        · exact ⟨hse, hgood _ hse⟩
        · exact ⟨hin, hgood _ hin⟩
        · exact ⟨hini, hgood _ hini⟩
      · exact hG w hw
    have h5 := va_runU (e := e) (below := below) (meth := meth) (C := rr.1) (owner := x.cls) (x := x) (b := D.2.2.1 a) (As := As.map (xs_v D.2.2.1)) (rest := rest) (g := F0 m pc ls (((Value.ref a :: As).map (xs_v D.2.2.1)).reverse ++ rest)) S hM (va_cwO n' hts hT rfl rfl rfl hc0 ⟨hxx.1, hxx.2, hp⟩ ⟨hfr, hlo⟩) ⟨xs_blind, hrecv, hPc⟩ rfl (by rw [List.length_map]; simp at hn; omega) hls (by simp [xs_v]) hroom hd ⟨hcells, hslots⟩ (locs := locs)
    exact h5
/-- System.arraycopy between two rows of bytes -/
theorem xs_copy (S : CallFix p m c cc nL s args Ts own) (hD : xs_ad D) {d : Nat} {idx c0 s0 : Nat} {L : xb_L} {st : List Value} {q : xb_S} {Q : State → Prop} (h : xb_cpyx d pc L A st = some q) (hd : decode cc pc = .ok (.invokestatic idx, 3)) (hlk : Cond.methodLink own idx arraycopyName ∈ Ts) (hnat : Cond.native arraycopyName ∈ Ts) (hstat : Cond.static arraycopyName ∈ Ts) (hini : Cond.initialized "java/lang/System" ∈ Ts) (hfr : d ≤ R.frames) (hlo : 64 * d ≤ R.locals)
    (kk : xs_G D cl p l e R s m args below meth c nL c0 s0 Q q.1 q.2.1 q.2.2.1 q.2.2.2) : xs_G D cl p l e R s m args below meth c nL c0 s0 Q pc L st A := by
  obtain ⟨n, dp, sp, a, b, n0, n1, f, g, r, rfl, hg1, hg2, hz, h1, h2, h3, h4, h5, hd1, hcat, hfit, rfl⟩ := xb_cpyx_spec h
  have nn : ∀ z : Int32, ¬ z < 0 → z.toInt = (z.toNatClampNeg : Int) := by
    intro z hz
    have hz0 : (0 : Int) ≤ z.toInt := by
      have := Int32.not_lt.mp hz
      simpa using Int32.le_iff_toInt_le.mp this
    show z.toInt = ((z.toInt.toNat : Nat) : Int)
    omega
  intro H locs ls hR hl hq T hT X
  obtain ⟨c1, q1, q2, q3, q4, q5, q6⟩ := (hR.2.2.2.1 a _ hg1).2
  obtain ⟨c2, w1, w2, w3, w4, w5, w6⟩ := (hR.2.2.2.1 b _ hg2).2
  obtain ⟨q7, k0, hk0, cm0, hkk0⟩ := q2
  have w2' := w2
  obtain ⟨w7, k1, hk1, cm1, hkk1⟩ := w2
  have ec2 := w6 hz
  obtain ⟨vm', X', step⟩ := X.arraycopy S.1 S.2.2.2.1 (S.2.2.2.2 _ hlk) (S.2.2.2.2 _ hnat) (S.2.2.2.2 _ hstat) (S.2.2.2.2 _ hini) (src := D.2.2.1 a) (dst := D.2.2.1 b) (cs := c1) (cd := c2) (srcPos := sp) (destPos := dp) (n := n) (by rw [hT]; exact q1) (by rw [hT]; exact w1)
    q7 w7 q3 w3 hk0 hk1 hkk0 hkk1 (by simp [refKind]) h1 h2 h3
    (by have q40 := q4.1; rw [nn sp h1, nn n h3]; omega)
    (by have w40 := w4.1; rw [nn dp h2, nn n h3]; omega)
    (fun vm₁ _ i hi => by
      have e : c1.slots.getD (sp.toNatClampNeg + i) .null = .int (f (sp.toNatClampNeg + i)) := by
        rw [Array.getD_eq_getD_getElem?, q5 _ (by omega)]
        rfl
      refine ⟨?_, ?_⟩
      · rw [e]
        exact hfit i hi
      · rw [e]
        exact trivial)
    (g := F0 m pc ls (.int n :: .int dp :: .ref (D.2.2.1 b) :: .int sp :: .ref (D.2.2.1 a) :: r.map (xs_v D.2.2.1))) rfl (by rw [S.2.2.1]; exact hl.1) (rest := r.map (xs_v D.2.2.1)) rfl (by rw [S.2.1]; exact hd) (by omega) (by
      show 2 * 0 + ((r.map (xs_v D.2.2.1)).map fun v => v.category).sum + (nativeFrameWords "java/lang/System" "arraycopy" 5 + 11) ≤ R.locals
      rw [xs_cats]
      have : nativeFrameWords "java/lang/System" "arraycopy" 5 = 7 := by decide
      omega)
  have e1 : copied c1 c2 sp dp n = arrV (D.2.1 .byte) n1 (fun j => xs_v D.2.2.1 (xs_el (.inl (va_cpy f g sp.toNatClampNeg dp.toNatClampNeg n.toNatClampNeg)) j)) := by
    rw [ec2]
    exact va_copiedX (fun z => Value.int z) c1 (D.2.1 .byte) f g q5 h4
  rw [e1] at X' step
  have hlt : D.2.2.1 b < H.size := (Array.getElem?_eq_some_iff.mp w1).1
  have hbase : D.2.2.2.1 ≤ D.2.2.1 b := by rw [(hD.1 b hz).1]; omega
  obtain ⟨t, a1, b1⟩ := kk (H.setIfInBounds (D.2.2.1 b) (arrV (D.2.1 .byte) n1 (fun j => xs_v D.2.2.1 (xs_el (.inl (va_cpy f g sp.toNatClampNeg dp.toNatClampNeg n.toNatClampNeg)) j)))) _ ls
    (hR.set hD hg2 hz (by simp) ⟨_, by simp [Array.getElem?_setIfInBounds, hlt], (by rw [ec2] at w2'; exact w2'), (fun z => by cases z), xs_arrsz _ _ _, fun j hj => arrV_read _ _ hj, fun _ => rfl⟩ (fun z hz' => by simp [Array.getElem?_setIfInBounds, Ne.symm hz'])) hl
    (fun z hz' => by
      rcases List.mem_append.mp hz' with hz' | hz'
      · exact hq z hz'
      · obtain ⟨y, -, hy⟩ := List.mem_map.mp hz'
        rw [← hy]
        exact hbase) ((T.setVm vm').setCell (D.2.2.1 b) (arrV (D.2.1 .byte) n1 (fun j => xs_v D.2.2.1 (xs_el (.inl (va_cpy f g sp.toNatClampNeg dp.toNatClampNeg n.toNatClampNeg)) j)))) (by rw [← hT]; rfl) X'
  exact ⟨t, step t a1, b1⟩
/-- System.arraycopy between two rows of Object -/
theorem xs_copyo (S : CallFix p m c cc nL s args Ts own) (hD : xs_ad D) (hK : xs_K D G cl TY NW sd sl s) (hI : xb_gI G (.object "java/lang/Object") 9 = true ∧ xb_gI G (.object "java/lang/Object") 4 = true) {d : Nat} {idx c0 s0 : Nat} {L : xb_L} {st : List Value} {q : xb_S} {Q : State → Prop} (h : xb_cpyo d pc L A st = some q) (hd : decode cc pc = .ok (.invokestatic idx, 3)) (hlk : Cond.methodLink own idx arraycopyName ∈ Ts) (hnat : Cond.native arraycopyName ∈ Ts) (hstat : Cond.static arraycopyName ∈ Ts) (hini : Cond.initialized "java/lang/System" ∈ Ts) (hfr : d ≤ R.frames) (hlo : 64 * d ≤ R.locals)
    (kk : xs_G D cl p l e R s m args below meth c nL c0 s0 Q q.1 q.2.1 q.2.2.1 q.2.2.2) : xs_G D cl p l e R s m args below meth c nL c0 s0 Q pc L st A := by
  obtain ⟨n, dp, sp, a, b, n0, n1, f, g, r, rfl, hg1, hg2, hza, hz, h1, h2, h3, h4, h5, hd1, hcat, hel, rfl⟩ := xb_cpyo_spec h
  have nn : ∀ z : Int32, ¬ z < 0 → z.toInt = (z.toNatClampNeg : Int) := by
    intro z hz
    have hz0 : (0 : Int) ≤ z.toInt := by
      have := Int32.not_lt.mp hz
      simpa using Int32.le_iff_toInt_le.mp this
    show z.toInt = ((z.toInt.toNat : Nat) : Int)
    omega
  intro H locs ls hR hl hq T hT X
  obtain ⟨c1, q1, q2, q3, q4, q5, q6⟩ := (hR.2.2.2.1 a _ hg1).2
  obtain ⟨c2, w1, w2, w3, w4, w5, w6⟩ := (hR.2.2.2.1 b _ hg2).2
  obtain ⟨q7, k0, hk0, cm0, hkk0⟩ := q2
  have w2' := w2
  obtain ⟨w7, k1, hk1, cm1, hkk1⟩ := w2
  have ec2 := w6 hz
  obtain ⟨vm', X', step⟩ := X.arraycopy S.1 S.2.2.2.1 (S.2.2.2.2 _ hlk) (S.2.2.2.2 _ hnat) (S.2.2.2.2 _ hstat) (S.2.2.2.2 _ hini) (src := D.2.2.1 a) (dst := D.2.2.1 b) (cs := c1) (cd := c2) (srcPos := sp) (destPos := dp) (n := n) (by rw [hT]; exact q1) (by rw [hT]; exact w1)
    q7 w7 q3 w3 hk0 hk1 hkk0 hkk1 rfl h1 h2 h3
    (by have q40 := q4.1; rw [nn sp h1, nn n h3]; omega)
    (by have w40 := w4.1; rw [nn dp h2, nn n h3]; omega)
    (fun vm₁ hal i hi => by
      have e : c1.slots.getD (sp.toNatClampNeg + i) .null = xs_v D.2.2.1 (va_rf (f (sp.toNatClampNeg + i))) := by
        rw [Array.getD_eq_getD_getElem?, q5 _ (by omega)]
        rfl
      rw [e]
      have he := hel i hi
      cases hy : f (sp.toNatClampNeg + i) with
      | none => exact ⟨rfl, trivial⟩
      | some y =>
        rw [hy] at he
        unfold xb_elo at he
        dsimp only at he
        cases hgy : xb_get A y with
        | none => rw [hgy] at he; cases he
        | some oy =>
          rw [hgy] at he
          cases oy with
          | inl x => cases he
          | inr x =>
            obtain ⟨k, fs⟩ := x
            have hk : xb_gI G (.object "java/lang/Object") k = true := by
              have he' : (decide (k = 9) || decide (k = 4)) = true := he
              rcases Bool.or_eq_true _ _ ▸ he' with h9 | h9
              · rw [of_decide_eq_true h9]; exact hI.1
              · rw [of_decide_eq_true h9]; exact hI.2
            obtain ⟨rr, cellV, g0, g1, g2, g3, g4, -⟩ := (hR.2.2.2.1 y _ hgy).2
            obtain ⟨-, kv, hkv, hasg⟩ := hK.2.2.1 _ _ hk
            have ecls : c2.cls = D.2.1 (.object "java/lang/Object") := by rw [ec2]; rfl
            rw [ecls] at hk1
            obtain ⟨ha1, kc, hkc⟩ := hasg k1 cm1 hk1 hkk1
            obtain ⟨kv', hkv', -⟩ := hal.2.2 _ _ hkv
            obtain ⟨kc', hkc', -⟩ := hal.2.2 _ _ hkc
            refine ⟨rfl, cellV, (show T.heap[D.2.2.1 y]? = some cellV by rw [hT]; exact g1), (fun z hz => by rw [hz] at g4; cases g4), ⟨kv', by rw [g2]; exact hkv'⟩, ⟨kc', hkc'⟩, ?_⟩
            show vm₁.assignable _ _ = true
            rw [hal.assignable, g2]
            exact ha1)
    (g := F0 m pc ls (.int n :: .int dp :: .ref (D.2.2.1 b) :: .int sp :: .ref (D.2.2.1 a) :: r.map (xs_v D.2.2.1))) rfl (by rw [S.2.2.1]; exact hl.1) (rest := r.map (xs_v D.2.2.1)) rfl (by rw [S.2.1]; exact hd) (by omega) (by
      show 2 * 0 + ((r.map (xs_v D.2.2.1)).map fun v => v.category).sum + (nativeFrameWords "java/lang/System" "arraycopy" 5 + 11) ≤ R.locals
      rw [xs_cats]
      have : nativeFrameWords "java/lang/System" "arraycopy" 5 = 7 := by decide
      omega)
  have e1 : copied c1 c2 sp dp n = arrV (D.2.1 (.object "java/lang/Object")) n1 (fun j => xs_v D.2.2.1 (xs_el (.inr (.inr (va_cpy f g sp.toNatClampNeg dp.toNatClampNeg n.toNatClampNeg))) j)) := by
    rw [ec2]
    exact va_copiedX (fun z => xs_v D.2.2.1 (va_rf z)) c1 (D.2.1 (.object "java/lang/Object")) f g q5 h4
  rw [e1] at X' step
  have hlt : D.2.2.1 b < H.size := (Array.getElem?_eq_some_iff.mp w1).1
  have hbase : D.2.2.2.1 ≤ D.2.2.1 b := by rw [(hD.1 b hz).1]; omega
  obtain ⟨t, a1, b1⟩ := kk (H.setIfInBounds (D.2.2.1 b) (arrV (D.2.1 (.object "java/lang/Object")) n1 (fun j => xs_v D.2.2.1 (xs_el (.inr (.inr (va_cpy f g sp.toNatClampNeg dp.toNatClampNeg n.toNatClampNeg))) j)))) _ ls
    (hR.set hD hg2 hz (by simp) ⟨_, by simp [Array.getElem?_setIfInBounds, hlt], (by rw [ec2] at w2'; exact w2'), (fun z => by cases z), xs_arrsz _ _ _, fun j hj => arrV_read _ _ hj, fun _ => rfl⟩ (fun z hz' => by simp [Array.getElem?_setIfInBounds, Ne.symm hz'])) hl
    (fun z hz' => by
      rcases List.mem_append.mp hz' with hz' | hz'
      · exact hq z hz'
      · obtain ⟨y, -, hy⟩ := List.mem_map.mp hz'
        rw [← hy]
        exact hbase) ((T.setVm vm').setCell (D.2.2.1 b) (arrV (D.2.1 (.object "java/lang/Object")) n1 (fun j => xs_v D.2.2.1 (xs_el (.inr (.inr (va_cpy f g sp.toNatClampNeg dp.toNatClampNeg n.toNatClampNeg))) j)))) (by rw [← hT]; rfl) X'
  exact ⟨t, step t a1, b1⟩
/-- the words of a clone of a row of bytes -/
def xs_wc (own : String) (Ts NW : List Cond) (TY : List FieldType) (idx : Nat) : Prop := Cond.methodLink own idx ⟨"[B", "clone", "()Ljava/lang/Object;"⟩ ∈ Ts ∧ Cond.sameMethod "[B" "java/lang/Object" "clone" "()Ljava/lang/Object;" ∈ Ts ∧ Cond.native ⟨"java/lang/Object", "clone", "()Ljava/lang/Object;"⟩ ∈ Ts ∧ Cond.instanceMethod ⟨"java/lang/Object", "clone", "()Ljava/lang/Object;"⟩ ∈ Ts ∧ Cond.selects "[B" ⟨"[B", "clone", "()Ljava/lang/Object;"⟩ ⟨"java/lang/Object", "clone", "()Ljava/lang/Object;"⟩ ∈ Ts ∧ Cond.castable "[B" "java/lang/Cloneable" ∈ NW ∧ FieldType.byte ∈ TY
/-- clone() of a row of bytes -/
theorem xs_clone (S : CallFix p m c cc nL s args Ts own) (hD : xs_ad D) (hK : xs_K D G cl TY NW sd sl s) {d : Nat} {idx c0 s0 : Nat} {L : xb_L} {st : List Value} {q : xb_S} {Q : State → Prop} (h : xb_clnx d pc L A st = some q) (hd : decode cc pc = .ok (.invokevirtual idx, 3)) (hw : xs_wc own Ts NW TY idx) (hfr : d ≤ R.frames) (hlo : 64 * d ≤ R.locals) (hc0 : c0 ≤ A.1) (hs0 : s0 ≤ A.2.1) (hcells : q.2.2.2.1 - c0 ≤ R.cells) (hslots : q.2.2.2.2.1 - s0 ≤ R.slots)
    (kk : xs_G D cl p l e R s m args below meth c nL c0 s0 Q q.1 q.2.1 q.2.2.1 q.2.2.2) : xs_G D cl p l e R s m args below meth c nL c0 s0 Q pc L st A := by
  obtain ⟨a, n, f, r, rfl, hg, hz, hd1, hcat, hfit, rfl⟩ := xb_clnx_spec h
  obtain ⟨w1, w2, w3, w4, w5, w6, w7⟩ := hw
  have hcl1 : A.1 + 1 - c0 ≤ R.cells := hcells
  have hsl1 : A.2.1 + n - s0 ≤ R.slots := hslots
  obtain ⟨c1', t1, f1, f2, f3⟩ := Cond.castable_spec (va_Nw.use (A := args) rfl (hK.2.2.2.2.2.2 _ w6).2)
  have hnm : s.vm.findClass "[B" = some (D.2.1 .byte) := hK.2.1 _ w7
  cases hnm.symm.trans f1
  intro H locs ls hR hl hq T hT X
  have hnx := hR.next hD
  obtain ⟨cell, q1, q2, q3, q4, q5, q6⟩ := (hR.2.2.2.1 a _ hg).2
  have ec := q6 hz
  have q2' := q2
  obtain ⟨q7, kA, hkA, comp, hkk⟩ := q2
  have q2T := State.isArrayOf_alike X.warmed.alike q2'
  obtain ⟨-, kT, hkT, compT, hkkT⟩ := q2T
  subst ec
  obtain ⟨vm', X', st'⟩ := X.cloneArray S.1 S.2.2.2.1 (S.2.2.2.2 _ w1) (S.2.2.2.2 _ w2) (S.2.2.2.2 _ w3) (S.2.2.2.2 _ w4) (S.2.2.2.2 _ w5) (a := D.2.2.1 a) (cell := arrV (D.2.1 .byte) n (fun j => xs_v D.2.2.1 (xs_el (.inl f) j))) (by rw [hT]; exact q1) (fun k h => by cases h) (fun h => by cases h) hnm f2 f3
    (fun i v hv => by
      have hk' : T.vm.classes[D.2.1 .byte]? = some kT := hkT
      have hfv : fits .byte v = true := by
        by_cases hi : i < n
        · rw [arrV_read _ _ hi] at hv
          cases hv
          exact hfit i hi
        · rw [Array.getElem?_eq_none (by rw [arrV_size]; omega)] at hv
          cases hv
      simpa [State.fitsSlot, State.slotType?, hk', hkkT, arrV] using hfv)
    (g := F0 m pc ls (.ref (D.2.2.1 a) :: r.map (xs_v D.2.2.1))) rfl (by rw [S.2.2.1]; exact hl.1) rfl (by rw [S.2.1]; exact hd) (by omega) (by
      show 2 * 0 + ((r.map (xs_v D.2.2.1)).map fun v => v.category).sum + 14 ≤ R.locals
      rw [xs_cats]
      omega) (by omega) (by rw [arrV_size]; omega) (hloader := Vm.clonesLoader_of_array hkA hkk)
  rw [arrV_size] at X'
  have e2 : (H.push (arrV (D.2.1 .byte) n (fun j => xs_v D.2.2.1 (xs_el (.inl f) j))))[D.2.2.1 A.1]? = some (arrV (D.2.1 .byte) n (fun j => xs_v D.2.2.1 (xs_el (.inl f) j))) := by
    rw [hnx, Array.getElem?_push_size]
  have k1 := kk (H.push (arrV (D.2.1 .byte) n (fun j => xs_v D.2.2.1 (xs_el (.inl f) j)))) locs ls (hR.new hD (by simp) ⟨_, e2, q2', (fun z => by cases z), xs_arrsz _ _ _, fun j hj => arrV_read _ _ hj, fun _ => rfl⟩ (fun q hq' => by rw [Array.getElem?_push, if_neg (Nat.ne_of_lt hq')])) hl hq
  have k2 : W p l e R s m args below meth c (H.push (arrV (D.2.1 .byte) n (fun j => xs_v D.2.2.1 (xs_el (.inl f) j)))) locs (A.1 - c0 + 1) (A.2.1 - s0 + n) Q (F0 m (pc + 3) ls (.ref (D.2.2.1 A.1) :: r.map (xs_v D.2.2.1))) := W.cs (cells' := A.1 + 1 - c0) (slots' := A.2.1 + n - s0) (by omega) (by omega) k1
  have hcellE : ({ cls := (arrV (D.2.1 .byte) n (fun j => xs_v D.2.2.1 (xs_el (.inl f) j))).cls, slots := (arrV (D.2.1 .byte) n (fun j => xs_v D.2.2.1 (xs_el (.inl f) j))).slots } : Cell) = arrV (D.2.1 .byte) n (fun j => xs_v D.2.2.1 (xs_el (.inl f) j)) := rfl
  rw [hcellE] at X' st'
  obtain ⟨t, a1, b1⟩ := k2 ((T.setVm vm').pushCell (arrV (D.2.1 .byte) n (fun j => xs_v D.2.2.1 (xs_el (.inl f) j)))) (by rw [← hT]; rfl) X'
  refine ⟨t, st' t ?_, b1⟩
  rw [hT, ← hnx]
  exact a1
/-- the words of getClass of a row of Object -/
def xs_wg (own : String) (Ts NW : List Cond) (TY : List FieldType) (idx : Nat) : Prop := Cond.methodLink own idx ⟨"java/lang/Object", "getClass", "()Ljava/lang/Class;"⟩ ∈ Ts ∧ Cond.declares ⟨"java/lang/Object", "getClass", "()Ljava/lang/Class;"⟩ ∈ NW ∧ Cond.selects "[Ljava/lang/Object;" ⟨"java/lang/Object", "getClass", "()Ljava/lang/Class;"⟩ ⟨"java/lang/Object", "getClass", "()Ljava/lang/Class;"⟩ ∈ Ts ∧ Cond.instanceMethod ⟨"java/lang/Object", "getClass", "()Ljava/lang/Class;"⟩ ∈ Ts ∧ Cond.native ⟨"java/lang/Object", "getClass", "()Ljava/lang/Class;"⟩ ∈ Ts ∧ FieldType.object "java/lang/Object" ∈ TY
theorem xs_getC (S : CallFix p m c cc nL s args Ts own) (hK : xs_K D G cl TY NW sd sl s) {d : Nat} {idx c0 s0 : Nat} {L : xb_L} {st : List Value} {q : xb_S} {Q : State → Prop} (h : xb_gclx d pc L A st = some q) (hd : decode cc pc = .ok (.invokevirtual idx, 3)) (hw : xs_wg own Ts NW TY idx) (hfr : d ≤ R.frames) (hlo : 64 * d ≤ R.locals)
    (kk : xs_G D cl p l e R s m args below meth c nL c0 s0 Q q.1 q.2.1 q.2.2.1 q.2.2.2) : xs_G D cl p l e R s m args below meth c nL c0 s0 Q pc L st A := by
  obtain ⟨a, x, r, rfl, hg, hz, hd1, hcat, rfl⟩ := xb_gclx_spec h
  obtain ⟨w1, w2, w3, w4, w5, w6⟩ := hw
  obtain ⟨n, f⟩ := x
  intro H locs ls hR hl hq
  obtain ⟨cell, q1, q2, q3, q4, q5, q6⟩ := (hR.2.2.2.1 a _ hg).2
  have ec := q6 hz
  exact va_getC (C := "[Ljava/lang/Object;") S.1 S.2.1 (by rw [S.2.2.1]; exact hl.1.symm) S.2.2.2.1 (S.2.2.2.2 _ w1) (va_Nw.use (A := args) rfl (hK.2.2.2.2.2.2 _ w2).2) (S.2.2.2.2 _ w3) (S.2.2.2.2 _ w4) (S.2.2.2.2 _ w5) ((hK.2.2.2.2.2.1 _ w6).2 rfl) ⟨cell, q1, by rw [ec]; rfl, by rw [ec]; exact hK.2.1 _ w6⟩ (by omega) (by rw [xs_cats]; omega) hd (kk H locs ls hR hl hq)
end XC
theorem xs_args (ad : Nat → Nat) : ∀ (av : List Value) (i : Nat), xs_m ad (lv_args i av) = lv_args i (av.map (xs_v ad)) := by
  intro av
  induction av with
  | nil => intro i; rfl
  | cons v t ih =>
    intro i
    show (i, xs_v ad v) :: xs_m ad (lv_args _ t) = (i, xs_v ad v) :: lv_args (if (xs_v ad v).category = 2 then i + 2 else i + 1) (t.map (xs_v ad))
    rw [xs_v_cat, ih]
theorem xs_sl (ad : Nat → Nat) (av : List Value) : (lg_sl (av.map (xs_v ad))).length = (lg_sl av).length := by
  induction av with
  | nil => rfl
  | cons v t ih =>
    unfold lg_sl at ih ⊢
    rw [List.map_cons, List.flatMap_cons, List.flatMap_cons, List.length_append, List.length_append, ih, xs_v_cat]
    split <;> rfl
/-- the words of a static call that is no run of code -/
def xs_bw (G : xb_G) (own : String) (Ts NW : List Cond) (TY : List FieldType) (q : xb_I) : Prop :=
  (∃ idx : Nat, q.1 = .invokestatic idx ∧ q.2.2.2 = 5 ∧ Cond.methodLink own idx arraycopyName ∈ Ts ∧ Cond.native arraycopyName ∈ Ts ∧ Cond.static arraycopyName ∈ Ts ∧ Cond.initialized "java/lang/System" ∈ Ts) ∨
  (∃ idx : Nat, q.1 = .invokestatic idx ∧ q.2.2.2 = 2 ∧ Cond.methodLink own idx Lib.Math.max.name ∈ Ts ∧ Cond.static Lib.Math.max.name ∈ Ts ∧ Cond.initialized "java/lang/Math" ∈ Ts ∧ Cond.code Lib.Math.max.name Lib.Math.max.code 2 (some .int) ∈ Ts) ∨
  (∃ idx : Nat, q.1 = .invokestatic idx ∧ q.2.2.2 = 3 ∧ Cond.methodLink own idx Lib.Math.min.name ∈ Ts ∧ Cond.static Lib.Math.min.name ∈ Ts ∧ Cond.initialized "java/lang/Math" ∈ Ts ∧ Cond.code Lib.Math.min.name Lib.Math.min.code 2 (some .int) ∈ Ts) ∨
  (∃ idx : Nat, q.1 = .invokestatic idx ∧ q.2.2.2 = 6 ∧ Cond.methodLink own idx arraycopyName ∈ Ts ∧ Cond.native arraycopyName ∈ Ts ∧ Cond.static arraycopyName ∈ Ts ∧ Cond.initialized "java/lang/System" ∈ Ts ∧ xb_gI G (.object "java/lang/Object") 9 = true ∧ xb_gI G (.object "java/lang/Object") 4 = true) ∨
  (∃ idx : Nat, q.1 = .invokevirtual idx ∧ q.2.2.2 = 1 ∧ xs_wc own Ts NW TY idx) ∨ (∃ idx : Nat, q.1 = .invokevirtual idx ∧ q.2.2.2 = 2 ∧ xs_wg own Ts NW TY idx)
/-- what is asked of the program's tables -/
def xs_prog (G : xb_G) (cl : List vw_C) (Ts : List Cond) (TY : List FieldType) (NW : List Cond) (sd : Nat → Option (String × String × String)) (sl : String → Nat → Option Nat) (INF : Nat → Option xs_M) : Prop :=
  (∀ w ∈ Ts, (w.onTables && w.keeps) = true ∨ ∃ ty, w = .arrayClass ty) ∧ xs_cls cl Ts (xb_gT G) ∧ ∀ (y : Nat) (inf : xs_M), INF y = some inf →
    plainName inf.1.cls = true ∧ Cond.code inf.1 inf.2.1 inf.2.2.1 inf.2.2.2 ∈ Ts ∧ xb_gR G y = inf.2.2.2 ∧ xb_gN G y = inf.2.2.1 ∧ inf.2.2.1 ≤ 45 ∧
    ∀ (pc : Nat) (q : xb_I), xb_gP G y pc = some q → decode inf.2.1 pc = .ok (q.1, q.2.1) ∧ xs_len inf.2.2.1 pc q ∧
      (xb_sort q.1 = 0 ∨ (xb_sort q.1 = 6 ∧ q.2.2.2 = 0) → xs_lk G cl Ts TY NW sd sl inf.1.cls (inf.1.name == "<init>") q) ∧
      (xb_sort q.1 = 5 → q.2.2.1 = 0 → (∃ idx : Nat, q.1 = .invokespecial idx ∧ Cond.methodLink inf.1.cls idx Lib.objectInit ∈ Ts ∧ Cond.instanceMethod Lib.objectInit ∈ Ts ∧ Cond.code Lib.objectInit ⟨#[0xb1]⟩ 1 none ∈ Ts) ∨ xs_bw G inf.1.cls Ts NW TY q) ∧
      (xb_sort q.1 = 5 → ¬ q.2.2.1 = 0 → ∃ inf' : xs_M, INF q.2.2.1 = some inf' ∧ xs_cl inf.1.cls Ts NW cl inf' (xb_gV G q.2.2.1) q.2.2.2 q.1)
/-- a method of the tables, walked -/
def xs_B (p : Program) (s : State) (m : MethodId) (args : Array Value) (meth : Method) (c : Code) (Ts : List Cond) (inf : xs_M) : Prop :=
  CallFix p m c inf.2.1 inf.2.2.1 s args Ts inf.1.cls ∧ meth.sig.returnType = inf.2.2.2 ∧ meth.locks = false ∧ meth.name = inf.1.name
