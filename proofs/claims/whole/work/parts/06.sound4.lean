theorem xs_zero_spec {t : FieldType} {n : Nat} {a : xb_A} {ad : Nat → Nat} (h : xb_zero t n = some a) : a.1 = n ∧ ∀ j, xs_v ad (xs_el a.2 j) = defaultValue t := by
  cases t <;> simp only [xb_zero, reduceCtorEq, Option.some.injEq] at h <;> (subst h; exact ⟨rfl, fun j => rfl⟩)
theorem xs_v_default (ad : Nat → Nat) (t : FieldType) : xs_v ad (defaultValue t) = defaultValue t := by cases t <;> rfl
section XS4
variable {p : Program} {l : Launch} {e : Env} {R : Room} {s : State} {m : MethodId} {args : Array Value} {below : List Frame} {meth : Method} {c : Code} {Q : State → Prop}
variable {D : xs_D} {cl : List vw_C} {nL c0 s0 : Nat} {cc : ByteArray} {Ts : List Cond} {own : String} {pc : Nat} {L : xb_L} {st : List Value} {A : xb_H} {tys : List (ClassId × FieldType)} {ty : Nat → List FieldType}
theorem xs_upd {f : Nat → Int32} {i : Nat} {x : Int32} (ad : Nat → Nat) (j : Nat) : xs_v ad (xs_el (.inl (upd f i x)) j) = if j = i then .int x else xs_v ad (xs_el (.inl f) j) := by
  show Value.int (upd f i x j) = if j = i then .int x else Value.int (f j)
  unfold upd
  by_cases h : j = i
  · rw [if_pos h, if_pos h]
  · rw [if_neg h, if_neg h]
theorem xs_isI (S : CallFix p m c cc nL s args Ts own) (hD : xs_ad D) {q : xb_S} (h : xb_ias xb_isI pc L A st = some q) (hd : decode cc pc = .ok (.iastore, 1))
    (kk : xs_G D cl p l e R s m args below meth c nL c0 s0 Q q.1 q.2.1 q.2.2.1 q.2.2.2) : xs_G D cl p l e R s m args below meth c nL c0 s0 Q pc L st A := by
  obtain ⟨x, i, a, r, t, n, f, rfl, hg, hok, hz, hin, rfl⟩ := xb_ias_spec h
  cases t <;> simp [xb_isI] at hok
  intro H locs ls hR hl hq
  obtain ⟨cell, h1, h2, h3, h4, h5, h6⟩ := (hR.2.2.2.1 a _ hg).2
  have hn := xs_in hin
  exact W.iast S.1 S.2.1 h1 h2 h3 (fun z => hn (z.imp id (fun z => Nat.le_trans h4.1 z))) rfl rfl hd fun H' e1 e2 e3 => kk H' _ ls (xs_stored hD hR hg hz h1 e1 e2 e3 (fun j => xs_upd D.2.2.1 j)) hl (t_lc hq (by rw [(hD.1 a hz).1]; omega))
theorem xs_isC (S : CallFix p m c cc nL s args Ts own) (hD : xs_ad D) {q : xb_S} (h : xb_ias xb_isC pc L A st = some q) (hd : decode cc pc = .ok (.castore, 1))
    (kk : xs_G D cl p l e R s m args below meth c nL c0 s0 Q q.1 q.2.1 q.2.2.1 q.2.2.2) : xs_G D cl p l e R s m args below meth c nL c0 s0 Q pc L st A := by
  obtain ⟨x, i, a, r, t, n, f, rfl, hg, hok, hz, hin, rfl⟩ := xb_ias_spec h
  cases t <;> simp [xb_isC] at hok
  intro H locs ls hR hl hq
  obtain ⟨cell, h1, h2, h3, h4, h5, h6⟩ := (hR.2.2.2.1 a _ hg).2
  have hn := xs_in hin
  exact W.cast S.1 S.2.1 h1 h2 h3 (fun z => hn (z.imp id (fun z => Nat.le_trans h4.1 z))) rfl rfl hd fun H' e1 e2 e3 => kk H' _ ls (xs_stored hD hR hg hz h1 e1 e2 e3 (fun j => xs_upd D.2.2.1 j)) hl (t_lc hq (by rw [(hD.1 a hz).1]; omega))
theorem xs_isB (S : CallFix p m c cc nL s args Ts own) (hD : xs_ad D) {q : xb_S} (h : xb_ias xb_isB pc L A st = some q) (hd : decode cc pc = .ok (.bastore, 1))
    (kk : xs_G D cl p l e R s m args below meth c nL c0 s0 Q q.1 q.2.1 q.2.2.1 q.2.2.2) : xs_G D cl p l e R s m args below meth c nL c0 s0 Q pc L st A := by
  obtain ⟨x, i, a, r, t, n, f, rfl, hg, hok, hz, hin, rfl⟩ := xb_ias_spec h
  cases t <;> simp [xb_isB] at hok
  · intro H locs ls hR hl hq
    obtain ⟨cell, h1, h2, h3, h4, h5, h6⟩ := (hR.2.2.2.1 a _ hg).2
    have hn := xs_in hin
    exact W.bast S.1 S.2.1 h1 h2 h3 (fun z => hn (z.imp id (fun z => Nat.le_trans h4.1 z))) rfl rfl hd fun H' e1 e2 e3 => kk H' _ ls (xs_stored hD hR hg hz h1 e1 e2 e3 (fun j => xs_upd D.2.2.1 j)) hl (t_lc hq (by rw [(hD.1 a hz).1]; omega))
  · intro H locs ls hR hl hq
    obtain ⟨cell, h1, h2, h3, h4, h5, h6⟩ := (hR.2.2.2.1 a _ hg).2
    have hn := xs_in hin
    exact W.zast S.1 S.2.1 h1 h2 h3 (fun z => hn (z.imp id (fun z => Nat.le_trans h4.1 z))) rfl rfl hd fun H' e1 e2 e3 => kk H' _ ls (xs_stored hD hR hg hz h1 e1 e2 e3 (fun j => xs_upd D.2.2.1 j)) hl (t_lc hq (by rw [(hD.1 a hz).1]; omega))
theorem xs_las (S : CallFix p m c cc nL s args Ts own) (hD : xs_ad D) {q : xb_S} (h : xb_las pc L A st = some q) (hd : decode cc pc = .ok (.lastore, 1))
    (kk : xs_G D cl p l e R s m args below meth c nL c0 s0 Q q.1 q.2.1 q.2.2.1 q.2.2.2) : xs_G D cl p l e R s m args below meth c nL c0 s0 Q pc L st A := by
  obtain ⟨x, i, a, r, n, f, rfl, hg, hz, hin, rfl⟩ := xb_las_spec h
  intro H locs ls hR hl hq
  obtain ⟨cell, h1, h2, h3, h4, h5, h6⟩ := (hR.2.2.2.1 a _ hg).2
  have hn := xs_in hin
  refine W.last S.1 S.2.1 h1 h2 h3 (fun z => hn (z.imp id (fun z => Nat.le_trans h4.1 z))) rfl rfl hd fun H' e1 e2 e3 => kk H' _ ls (xs_stored hD hR hg hz h1 e1 e2 e3 (fun j => ?_)) hl (t_lc hq (by rw [(hD.1 a hz).1]; omega))
  show Value.long (va_up f i.toNatClampNeg x j) = if j = i.toNatClampNeg then .long x else Value.long (f j)
  unfold va_up
  by_cases hj : j = i.toNatClampNeg
  · rw [if_pos hj, if_pos hj]
  · rw [if_neg hj, if_neg hj]
theorem xs_aas (S : CallFix p m c cc nL s args Ts own) (hD : xs_ad D) {into : FieldType → Nat → Bool} {q : xb_S} (h : xb_aas into pc L A st = some q) (hd : decode cc pc = .ok (.aastore, 1))
    (hI : ∀ (t : FieldType) (k : Nat), into t k = true → t.isReference = true ∧ ∃ kv : Class, s.vm.classes[D.1.1 k]? = some kv ∧ ∀ (kA : Class) (comp : ClassId), s.vm.classes[D.2.1 t]? = some kA → kA.kind = .array comp t → s.vm.assignable (D.1.1 k) comp = true ∧ ∃ kc : Class, s.vm.classes[comp]? = some kc)
    (kk : xs_G D cl p l e R s m args below meth c nL c0 s0 Q q.1 q.2.1 q.2.2.1 q.2.2.2) : xs_G D cl p l e R s m args below meth c nL c0 s0 Q pc L st A := by
  obtain ⟨v, i, a, r, t, n, f, k, fs, rfl, hg, hv, hin2, hz, hin, rfl⟩ := xb_aas_spec h
  intro H locs ls hR hl hq
  obtain ⟨cell, h1, h2, h3, h4, h5, h6⟩ := (hR.2.2.2.1 a _ hg).2
  obtain ⟨rr, cv, g0, g1, g2, g3, g4, g5, g6⟩ := (hR.2.2.2.1 v _ hv).2
  have hn := xs_in hin
  obtain ⟨hobj, kA, hkA, comp, hkind⟩ := h2
  obtain ⟨href, kv, hkv, hasg⟩ := hI t k hin2
  have hcls : cell.cls = D.2.1 t := by rw [h6 hz]; rfl
  obtain ⟨has, kc, hkc⟩ := hasg kA comp (by rw [← hcls]; exact hkA) hkind
  refine W.aast S.1 S.2.1 h1 hobj h3 hkA hkind href hkc ⟨fun z => hn (Or.inl z), by have h40 := h4.1; omega⟩ g1 (VmData.ne_statics_of g4) (by rw [g2]; exact hkv) (by rw [g2]; exact has) rfl rfl hd fun H' e1 e2 e3 => kk H' _ ls (xs_stored hD hR hg hz h1 e1 e2 e3 (fun j => ?_)) hl (t_lc hq (by rw [(hD.1 a hz).1]; omega))
  show xs_v D.2.2.1 (va_rf (va_up f i.toNatClampNeg (some v) j)) = if j = i.toNatClampNeg then .ref (D.2.2.1 v) else xs_v D.2.2.1 (va_rf (f j))
  unfold va_up
  by_cases hj : j = i.toNatClampNeg
  · rw [if_pos hj, if_pos hj]
    rfl
  · rw [if_neg hj, if_neg hj]
theorem xs_cast (S : CallFix p m c cc nL s args Ts own) (hK : va_K D.1 cl tys s) {ok : Nat → Bool} {idx : Nat} {nm : String} {q : xb_S} (h : xb_castx ok pc L A st = some q) (hd : decode cc pc = .ok (.checkcast idx, 3)) (hlk : Cond.classLink own idx nm ∈ Ts)
    (hok : ∀ (k : Nat) (r : vw_C), ok k = true → cl[k]? = some r → va_Nw (.castable r.1 nm) s) (hokB : ok 100 = true → s.vm.findClass nm = some (D.2.1 .byte))
    (kk : xs_G D cl p l e R s m args below meth c nL c0 s0 Q q.1 q.2.1 q.2.2.1 q.2.2.2) : xs_G D cl p l e R s m args below meth c nL c0 s0 Q pc L st A := by
  rcases xb_castx_spec h with ⟨r, rfl, rfl⟩ | ⟨a, r, k, fs, rfl, hg, ho, rfl⟩ | ⟨a, r, x, rfl, hg, hz, ho, rfl⟩
  · intro H locs ls hR hl hq
    exact lv_castN S.1 S.2.1 hd (kk H locs ls hR hl hq)
  · intro H locs ls hR hl hq
    obtain ⟨rr, cell, h0, h1, h2, h3, h4, h5, h6⟩ := (hR.2.2.2.1 a _ hg).2
    exact va_castY S.1 S.2.1 S.2.2.2.1 (S.2.2.2.2 _ hlk) (hok k rr ho h0) ⟨cell, h1, h4, by rw [h2]; exact (hK.1 k rr h0).2.1⟩ hd (kk H locs ls hR hl hq)
  · intro H locs ls hR hl hq T hT X
    have hcell := (hR.2.2.2.1 a _ hg).2
    obtain ⟨nn, ff⟩ := x
    obtain ⟨cell, h1, h2, h3, h4, h5, h6⟩ := hcell
    have ec := h6 hz
    obtain ⟨vm', X', st'⟩ := X.checkcastYes S.1 S.2.2.2.1 (S.2.2.2.2 _ hlk) (a := D.2.2.1 a) (cell := cell) (by rw [hT]; exact h1) (by rw [ec]; rfl) (hokB ho) (by rw [ec]; exact va_asg _ _) (g := F0 m pc ls (.ref (D.2.2.1 a) :: r.map (xs_v D.2.2.1))) rfl rfl (by rw [S.2.1]; exact hd)
    obtain ⟨t, a1, b1⟩ := kk H locs ls hR hl hq (T.setVm vm') hT X'
    exact ⟨t, st' t a1, b1⟩
theorem xs_inst (S : CallFix p m c cc nL s args Ts own) (hK : va_K D.1 cl tys s) {ok : Nat → Bool} {idx : Nat} {nm : String} {q : xb_S} (h : xb_instx ok pc L A st = some q) (hd : decode cc pc = .ok (.instanceof idx, 3)) (hlk : Cond.classLink own idx nm ∈ Ts)
    (hok : ∀ (k : Nat) (r : vw_C), ok k = true → cl[k]? = some r → va_Nw (.castable r.1 nm) s)
    (kk : xs_G D cl p l e R s m args below meth c nL c0 s0 Q q.1 q.2.1 q.2.2.1 q.2.2.2) : xs_G D cl p l e R s m args below meth c nL c0 s0 Q pc L st A := by
  rcases xb_instx_spec h with ⟨r, rfl, rfl⟩ | ⟨a, r, k, fs, rfl, hg, ho, rfl⟩
  · intro H locs ls hR hl hq
    exact lv_instN S.1 S.2.1 hd (kk H locs ls hR hl hq)
  · intro H locs ls hR hl hq
    obtain ⟨rr, cell, h0, h1, h2, h3, h4, h5, h6⟩ := (hR.2.2.2.1 a _ hg).2
    exact va_instY S.1 S.2.1 S.2.2.2.1 (S.2.2.2.2 _ hlk) (hok k rr ho h0) ⟨cell, h1, h4, by rw [h2]; exact (hK.1 k rr h0).2.1⟩ hd (kk H locs ls hR hl hq)
theorem xs_new (S : CallFix p m c cc nL s args Ts own) (hD : xs_ad D) (hK : va_K D.1 cl tys s) (hC : xs_cls cl Ts ty) {k idx : Nat} {q : xb_S} (h : xb_newx ty pc k L st A = some q) (hd : decode cc pc = .ok (.new idx, 3))
    (hf : ∃ r : vw_C, cl[k]? = some r ∧ Cond.classLink own idx r.1 ∈ Ts ∧ Cond.instantiable r.1 r.2.2 ∈ Ts ∧ Cond.initialized r.1 ∈ Ts) (hc0 : c0 ≤ A.1) (hs0 : s0 ≤ A.2.1) (hcells : q.2.2.2.1 - c0 ≤ R.cells) (hslots : q.2.2.2.2.1 - s0 ≤ R.slots)
    (kk : xs_G D cl p l e R s m args below meth c nL c0 s0 Q q.1 q.2.1 q.2.2.1 q.2.2.2) : xs_G D cl p l e R s m args below meth c nL c0 s0 Q pc L st A := by
  unfold xb_newx at h
  cases h
  obtain ⟨r, h0, hlk, hin1, hini⟩ := hf
  obtain ⟨hc1, hc2, hc3, hc4⟩ := hC k r h0
  have hKn := hK.1 k _ h0
  have hcl1 : A.1 + 1 - c0 ≤ R.cells := hcells
  have hsl1 : A.2.1 + (ty k).length - s0 ≤ R.slots := hslots
  intro H locs ls hR hl hq
  have hnx := hR.next hD
  refine W.newcK S.1 S.2.1 S.2.2.2.1 (S.2.2.2.2 _ hlk) (S.2.2.2.2 _ hin1) (S.2.2.2.2 _ hini) rfl hd (by omega) (by omega) hKn.2.1 hnx.symm fun H1 kC hkC e1 z1 o1 => ?_
  have hB := u_born (fun i => (ty k).getD i .int) S.2.2.2.2 hc1 hKn hkC e1 (fun i hi => by
    have : (ty k)[i]? = some ((ty k).getD i .int) := by
      rw [List.getD_eq_getElem?_getD, List.getElem?_eq_getElem (by omega)]
      rfl
    exact hc3 i _ this)
  obtain ⟨cell, b1, b2, b3, b4⟩ := hB
  refine W.cs (cells' := A.1 + 1 - c0) (slots' := A.2.1 + (ty k).length - s0) (by omega) (by omega) (kk H1 locs ls (hR.new hD (by omega) ?_ (fun q hq' => o1 q (by omega))) hl hq)
  refine ⟨r, cell, h0, b1, b2, (by rw [b3]; exact fun z => (by cases z)), (by rw [b3]; rfl), fun _ => b3, fun i v hv => ?_⟩
  rw [List.getElem?_map] at hv
  cases ht : (ty k)[i]? with
  | none => rw [ht] at hv; cases hv
  | some t =>
    rw [ht] at hv
    cases hv
    have hi : i < r.2.2 := by
      have := (List.getElem?_eq_some_iff.mp ht).1
      omega
    refine ⟨hi, ?_⟩
    rw [b4 i hi, xs_v_default]
    simp [List.getD_eq_getElem?_getD, ht]
theorem xs_newa (S : CallFix p m c cc nL s args Ts own) (hD : xs_ad D) {t : ArrayType} {q : xb_S} (h : xb_newax (newarray.typeOf t) pc 2 L A st = some q) (hd : decode cc pc = .ok (.newarray t, 2))
    (hlk : Cond.arrayClass (newarray.typeOf t) ∈ Ts) (haid : s.vm.findClass ("[" ++ (newarray.typeOf t).toString) = some (D.2.1 (newarray.typeOf t))) (hc0 : c0 ≤ A.1) (hs0 : s0 ≤ A.2.1) (hcells : q.2.2.2.1 - c0 ≤ R.cells) (hslots : q.2.2.2.2.1 - s0 ≤ R.slots)
    (kk : xs_G D cl p l e R s m args below meth c nL c0 s0 Q q.1 q.2.1 q.2.2.1 q.2.2.2) : xs_G D cl p l e R s m args below meth c nL c0 s0 Q pc L st A := by
  obtain ⟨n, r, a, rfl, hn, hn2, ha, rfl⟩ := xb_newax_spec h
  have hcl1 : A.1 + 1 - c0 ≤ R.cells := hcells
  have hsl1 : A.2.1 + n.toNatClampNeg - s0 ≤ R.slots := hslots
  intro H locs ls hR hl hq
  have hnx := hR.next hD
  have hbytes : n.toNatClampNeg * componentBytes (newarray.typeOf t) ≤ 536870912 := by
    have : componentBytes (newarray.typeOf t) ≤ 8 := by cases t <;> decide
    calc n.toNatClampNeg * componentBytes (newarray.typeOf t) ≤ 65536 * 8 := Nat.mul_le_mul hn2 this
      _ ≤ 536870912 := by decide
  refine va_newaK S.1 S.2.1 (S.2.2.2.2 _ hlk) rfl hd rfl hn rfl hbytes (by omega) (by omega) hnx.symm fun H1 cA e1 z1 o1 hAr hNm => ?_
  have eA : cA = D.2.1 (newarray.typeOf t) := Option.some.inj (hNm.symm.trans haid)
  subst eA
  obtain ⟨hz1, hz2⟩ := xs_zero_spec (ad := D.2.2.1) ha
  have e2 : H1[D.2.2.1 A.1]? = some (arrV (D.2.1 (newarray.typeOf t)) n.toNatClampNeg (fun j => xs_v D.2.2.1 (xs_el a.2 j))) := by
    rw [e1]
    congr 2
    funext j
    exact (hz2 j).symm
  refine W.cs (cells' := A.1 + 1 - c0) (slots' := A.2.1 + n.toNatClampNeg - s0) (by omega) (by omega) (kk H1 locs ls (hR.new hD (by omega) ?_ (fun q hq' => o1 q (by omega))) hl hq)
  obtain ⟨a1, a2⟩ := a
  cases hz1
  exact ⟨_, e2, hAr _ _, (fun z => by cases z), xs_arrsz _ _ _, fun j hj => arrV_read _ _ hj, fun _ => rfl⟩
theorem xs_anew (S : CallFix p m c cc nL s args Ts own) (hD : xs_ad D) {C : String} {idx : Nat} {q : xb_S} (h : xb_newax (.object C) pc 3 L A st = some q) (hd : decode cc pc = .ok (.anewarray idx, 3))
    (hlk : Cond.classLink own idx C ∈ Ts) (hov : va_AO C s) (haid : s.vm.findClass ("[" ++ (FieldType.object C).toString) = some (D.2.1 (.object C))) (hc0 : c0 ≤ A.1) (hs0 : s0 ≤ A.2.1) (hcells : q.2.2.2.1 - c0 ≤ R.cells) (hslots : q.2.2.2.2.1 - s0 ≤ R.slots)
    (kk : xs_G D cl p l e R s m args below meth c nL c0 s0 Q q.1 q.2.1 q.2.2.1 q.2.2.2) : xs_G D cl p l e R s m args below meth c nL c0 s0 Q pc L st A := by
  obtain ⟨n, r, a, rfl, hn, hn2, ha, rfl⟩ := xb_newax_spec h
  have hcl1 : A.1 + 1 - c0 ≤ R.cells := hcells
  have hsl1 : A.2.1 + n.toNatClampNeg - s0 ≤ R.slots := hslots
  intro H locs ls hR hl hq
  have hnx := hR.next hD
  refine W.anew S.1 S.2.1 S.2.2.2.1 (S.2.2.2.2 _ hlk) (va_AO.use hov) rfl hd rfl hn (by omega) (by omega) (by omega) fun cA kA comp f1 f2 f3 f4 => ?_
  have eA : cA = D.2.1 (.object C) := Option.some.inj (f1.symm.trans haid)
  subst eA
  obtain ⟨hz1, hz2⟩ := xs_zero_spec (ad := D.2.2.1) ha
  have e2 : (H.push ({ cls := D.2.1 (.object C), slots := Array.replicate n.toNatClampNeg .null, vm := .none } : Cell))[D.2.2.1 A.1]? = some (arrV (D.2.1 (.object C)) n.toNatClampNeg (fun j => xs_v D.2.2.1 (xs_el a.2 j))) := by
    rw [hnx, arrV_new]
    rw [Array.getElem?_push_size]
    congr 2
    funext j
    exact (hz2 j).symm
  refine W.eq (g2 := F0 m (pc + 3) ls (.ref (D.2.2.1 A.1) :: r.map (xs_v D.2.2.1))) (by rw [hnx]) ?_
  refine W.cs (cells' := A.1 + 1 - c0) (slots' := A.2.1 + n.toNatClampNeg - s0) (by omega) (by omega) (kk _ locs ls (hR.new hD (by simp) ?_ (fun q hq' => by rw [Array.getElem?_push, if_neg (Nat.ne_of_lt hq')])) hl hq)
  obtain ⟨a1, a2⟩ := a
  cases hz1
  exact ⟨_, e2, ⟨fun k z => (by cases z), kA, f2, comp, f3⟩, (fun z => by cases z), xs_arrsz _ _ _, fun j hj => arrV_read _ _ hj, fun _ => rfl⟩
end XS4
