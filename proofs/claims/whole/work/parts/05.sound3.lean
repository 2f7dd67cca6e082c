/-! The heap's instructions -/
theorem xb_any {o : Option FieldType} {f : FieldType → Bool} (h : o.any f = true) : ∃ t, o = some t ∧ f t = true := by
  cases o with
  | none => cases h
  | some t => exact ⟨t, rfl, h⟩
theorem xb_getx_spec {pc k i : Nat} {L : xb_L} {A : xb_H} {st : List Value} {q : xb_S} (h : xb_getx pc k i L A st = some q) : ∃ (a : Nat) (r fs : List Value) (v : Value), st = .ref a :: r ∧ xb_get A a = some (.inr (k, fs)) ∧ fs[i]? = some v ∧ q = (pc + 3, L, v :: r, A) := by
  unfold xb_getx at h
  split at h
  · split at h
    · split at h
      · split at h
        · rename_i hg hc _ v hv
          cases h
          subst hc
          exact ⟨_, _, _, _, rfl, hg, hv, rfl⟩
        · cases h
      · cases h
    · cases h
  · cases h
theorem xb_putx_spec {T : Nat → List FieldType} {pc k i : Nat} {L : xb_L} {A : xb_H} {st : List Value} {q : xb_S} (h : xb_putx T pc k i L A st = some q) : ∃ (a : Nat) (v : Value) (r fs : List Value) (t : FieldType), st = v :: .ref a :: r ∧ xb_get A a = some (.inr (k, fs)) ∧ xb_z ≤ a ∧ i < fs.length ∧ (T k)[i]? = some t ∧ narrow t v = v ∧ fits t v = true ∧ q = (pc + 3, L, r, xb_set A a (.inr (k, fs.set i v))) := by
  unfold xb_putx at h
  split at h
  · split at h
    · split at h
      · rename_i hg hc
        obtain ⟨h1, h2, h3, h4⟩ := hc
        cases h
        subst h1
        obtain ⟨t, ht, hf⟩ := xb_any h4
        simp only [xb_fitx, Bool.and_eq_true, decide_eq_true_eq] at hf
        exact ⟨_, _, _, _, t, rfl, hg, h2, h3, ht, hf.1, hf.2, rfl⟩
      · cases h
    · cases h
  · cases h
theorem xb_ial_spec {ok : FieldType → Bool} {pc : Nat} {L : xb_L} {A : xb_H} {st : List Value} {q : xb_S} (h : xb_ial ok pc L A st = some q) : ∃ (i : Int32) (a : Nat) (r : List Value) (t : FieldType) (n : Nat) (f : Nat → Int32), st = .int i :: .ref a :: r ∧ xb_get A a = some (.inl (t, n, .inl f)) ∧ ok t = true ∧ xb_in i n = true ∧ q = (pc + 1, L, .int (f i.toNatClampNeg) :: r, A) := by
  unfold xb_ial at h
  split at h
  · split at h
    · split at h
      · rename_i hg hc
        cases h
        exact ⟨_, _, _, _, _, _, rfl, hg, hc.1, hc.2, rfl⟩
      · cases h
    · cases h
  · cases h
theorem xb_lal_spec {pc : Nat} {L : xb_L} {A : xb_H} {st : List Value} {q : xb_S} (h : xb_lal pc L A st = some q) : ∃ (i : Int32) (a : Nat) (r : List Value) (n : Nat) (f : Nat → Int64), st = .int i :: .ref a :: r ∧ xb_get A a = some (.inl (.long, n, .inr (.inl f))) ∧ xb_in i n = true ∧ q = (pc + 1, L, .long (f i.toNatClampNeg) :: r, A) := by
  unfold xb_lal at h
  split at h
  · split at h
    · split at h
      · rename_i hg hc
        cases h
        obtain ⟨h1, h2⟩ := hc
        subst h1
        exact ⟨_, _, _, _, _, rfl, hg, h2, rfl⟩
      · cases h
    · cases h
  · cases h
theorem xb_aal_spec {pc : Nat} {L : xb_L} {A : xb_H} {st : List Value} {q : xb_S} (h : xb_aal pc L A st = some q) : ∃ (i : Int32) (a : Nat) (r : List Value) (C : String) (n : Nat) (f : Nat → Option Nat), st = .int i :: .ref a :: r ∧ xb_get A a = some (.inl (.object C, n, .inr (.inr f))) ∧ xb_in i n = true ∧ q = (pc + 1, L, va_rf (f i.toNatClampNeg) :: r, A) := by
  unfold xb_aal at h
  split at h
  · split at h
    · split at h
      · rename_i hg hc
        cases h
        exact ⟨_, _, _, _, _, _, rfl, hg, hc, rfl⟩
      · cases h
    · cases h
  · cases h
theorem xb_ias_spec {ok : FieldType → Bool} {pc : Nat} {L : xb_L} {A : xb_H} {st : List Value} {q : xb_S} (h : xb_ias ok pc L A st = some q) : ∃ (x i : Int32) (a : Nat) (r : List Value) (t : FieldType) (n : Nat) (f : Nat → Int32), st = .int x :: .int i :: .ref a :: r ∧ xb_get A a = some (.inl (t, n, .inl f)) ∧ ok t = true ∧ xb_z ≤ a ∧ xb_in i n = true ∧ q = (pc + 1, L, r, xb_set A a (.inl (t, n, .inl (upd f i.toNatClampNeg (vp_nar t x))))) := by
  unfold xb_ias at h
  split at h
  · split at h
    · split at h
      · rename_i hg hc
        cases h
        exact ⟨_, _, _, _, _, _, _, rfl, hg, hc.1, hc.2.1, hc.2.2, rfl⟩
      · cases h
    · cases h
  · cases h
theorem xb_las_spec {pc : Nat} {L : xb_L} {A : xb_H} {st : List Value} {q : xb_S} (h : xb_las pc L A st = some q) : ∃ (x : Int64) (i : Int32) (a : Nat) (r : List Value) (n : Nat) (f : Nat → Int64), st = .long x :: .int i :: .ref a :: r ∧ xb_get A a = some (.inl (.long, n, .inr (.inl f))) ∧ xb_z ≤ a ∧ xb_in i n = true ∧ q = (pc + 1, L, r, xb_set A a (.inl (.long, n, .inr (.inl (va_up f i.toNatClampNeg x))))) := by
  unfold xb_las at h
  split at h
  · split at h
    · split at h
      · rename_i hg hc
        cases h
        obtain ⟨h1, h2, h3⟩ := hc
        subst h1
        exact ⟨_, _, _, _, _, _, rfl, hg, h2, h3, rfl⟩
      · cases h
    · cases h
  · cases h
theorem xb_aas_spec {into : FieldType → Nat → Bool} {pc : Nat} {L : xb_L} {A : xb_H} {st : List Value} {q : xb_S} (h : xb_aas into pc L A st = some q) : ∃ (v : Nat) (i : Int32) (a : Nat) (r : List Value) (t : FieldType) (n : Nat) (f : Nat → Option Nat) (k : Nat) (fs : List Value), st = .ref v :: .int i :: .ref a :: r ∧ xb_get A a = some (.inl (t, n, .inr (.inr f))) ∧ xb_get A v = some (.inr (k, fs)) ∧ into t k = true ∧ xb_z ≤ a ∧ xb_in i n = true ∧ q = (pc + 1, L, r, xb_set A a (.inl (t, n, .inr (.inr (va_up f i.toNatClampNeg (some v)))))) := by
  unfold xb_aas at h
  split at h
  · split at h
    · split at h
      · rename_i hg hv hc
        cases h
        exact ⟨_, _, _, _, _, _, _, _, _, rfl, hg, hv, hc.1, hc.2.1, hc.2.2, rfl⟩
      · cases h
    · cases h
  · cases h
theorem xb_alenx_spec {pc : Nat} {L : xb_L} {A : xb_H} {st : List Value} {q : xb_S} (h : xb_alenx pc L A st = some q) : ∃ (a : Nat) (r : List Value) (t : FieldType) (n : Nat) (f : (Nat → Int32) ⊕ (Nat → Int64) ⊕ (Nat → Option Nat)), st = .ref a :: r ∧ xb_get A a = some (.inl (t, n, f)) ∧ q = (pc + 1, L, .int (Int32.ofNat n) :: r, A) := by
  unfold xb_alenx at h
  split at h
  · split at h
    · rename_i hg
      cases h
      exact ⟨_, _, _, _, _, rfl, hg, rfl⟩
    · cases h
  · cases h
theorem xb_newax_spec {t : FieldType} {pc len : Nat} {L : xb_L} {A : xb_H} {st : List Value} {q : xb_S} (h : xb_newax t pc len L A st = some q) : ∃ (n : Int32) (r : List Value) (a : xb_A), st = .int n :: r ∧ ¬ n < 0 ∧ n.toNatClampNeg ≤ 65536 ∧ xb_zero t n.toNatClampNeg = some a ∧ q = (pc + len, L, .ref A.1 :: r, xb_new A n.toNatClampNeg (.inl (t, a))) := by
  unfold xb_newax at h
  split at h
  · split at h
    · rename_i hn
      split at h
      · rename_i a ha
        cases h
        exact ⟨_, _, a, rfl, hn.1, hn.2, ha, rfl⟩
      · cases h
    · cases h
  · cases h
theorem xb_castx_spec {ok : Nat → Bool} {pc : Nat} {L : xb_L} {A : xb_H} {st : List Value} {q : xb_S} (h : xb_castx ok pc L A st = some q) : (∃ r : List Value, st = .null :: r ∧ q = (pc + 3, L, .null :: r, A)) ∨ (∃ (a : Nat) (r : List Value) (k : Nat) (fs : List Value), st = .ref a :: r ∧ xb_get A a = some (.inr (k, fs)) ∧ ok k = true ∧ q = (pc + 3, L, .ref a :: r, A)) ∨ ∃ (a : Nat) (r : List Value) (x : xb_A), st = .ref a :: r ∧ xb_get A a = some (.inl (.byte, x)) ∧ xb_z ≤ a ∧ ok 100 = true ∧ q = (pc + 3, L, .ref a :: r, A) := by
  unfold xb_castx at h
  split at h
  · cases h
    exact Or.inl ⟨_, rfl, rfl⟩
  · split at h
    · split at h
      · rename_i hg hc
        cases h
        exact Or.inr (Or.inl ⟨_, _, _, _, rfl, hg, hc, rfl⟩)
      · cases h
    · split at h
      · rename_i hg hc
        cases h
        exact Or.inr (Or.inr ⟨_, _, _, rfl, hg, hc.1, hc.2, rfl⟩)
      · cases h
    · cases h
  · cases h
theorem xb_instx_spec {ok : Nat → Bool} {pc : Nat} {L : xb_L} {A : xb_H} {st : List Value} {q : xb_S} (h : xb_instx ok pc L A st = some q) : (∃ r : List Value, st = .null :: r ∧ q = (pc + 3, L, .int 0 :: r, A)) ∨ ∃ (a : Nat) (r : List Value) (k : Nat) (fs : List Value), st = .ref a :: r ∧ xb_get A a = some (.inr (k, fs)) ∧ ok k = true ∧ q = (pc + 3, L, .int 1 :: r, A) := by
  unfold xb_instx at h
  split at h
  · cases h
    exact Or.inl ⟨_, rfl, rfl⟩
  · split at h
    · split at h
      · rename_i hg hc
        cases h
        exact Or.inr ⟨_, _, _, _, rfl, hg, hc, rfl⟩
      · cases h
    · cases h
  · cases h
theorem xs_in {i : Int32} {n : Nat} (h : xb_in i n = true) : ¬ (i < 0 ∨ n ≤ i.toNatClampNeg) := by
  unfold xb_in at h
  simpa using h
/-- the class tables stand in the words -/
def xs_cls (cl : List vw_C) (Ts : List Cond) (ty : Nat → List FieldType) : Prop := ∀ (k : Nat) (r : vw_C), cl[k]? = some r → (∀ w ∈ u_ws r.1 r.2.1 r.2.2, w ∈ Ts) ∧ (ty k).length = r.2.2 ∧ (∀ i t, (ty k)[i]? = some t → parseFieldDescriptor (r.2.1 i).2.2.1 = some t) ∧ (∀ a, a < r.2.2 → ∀ b, b < r.2.2 → a ≠ b → (r.2.1 a).2.1 ≠ (r.2.1 b).2.1)
def xs_fl (own : String) (Ts : List Cond) (cl : List vw_C) (idx k i : Nat) : Prop := ∃ r : vw_C, cl[k]? = some r ∧ i < r.2.2 ∧ (Cond.fieldLink own idx (r.2.1 i).1 (r.2.1 i).2.1 (r.2.1 i).2.2.1 ∈ Ts ∨ ∃ ref : String, Cond.fieldLink own idx ref (r.2.1 i).2.1 (r.2.1 i).2.2.1 ∈ Ts ∧ Cond.sameField ref (r.2.1 i).1 (r.2.1 i).2.1 (r.2.1 i).2.2.1 ∈ Ts)
/-- the name by which the code spells the field, and what it finds -/
theorem xs_fl_ref {args : Array Value} {s : State} {own : String} {Ts : List Cond} {idx : Nat} {O n d : String} (hts : ∀ w ∈ Ts, w.before args s = true) (h : Cond.fieldLink own idx O n d ∈ Ts ∨ ∃ ref : String, Cond.fieldLink own idx ref n d ∈ Ts ∧ Cond.sameField ref O n d ∈ Ts) : ∃ ref : String, (Cond.fieldLink own idx ref n d).before args s = true ∧ ∀ x, s.fieldFound? O n d = some x → s.fieldFound? ref n d = some x := by
  rcases h with h | ⟨ref, h1, h2⟩
  · exact ⟨O, hts _ h, fun x hx => hx⟩
  · exact ⟨ref, hts _ h1, fun x hx => u_same (hts _ h2) x hx⟩
theorem xs_narrow {t : FieldType} {ad : Nat → Nat} {v : Value} (h : narrow t v = v) : narrow t (xs_v ad v) = xs_v ad v := by
  cases v <;> first | exact h | (cases t <;> rfl)
theorem xs_fits {t : FieldType} {ad : Nat → Nat} {v : Value} (h : fits t v = true) : fits t (xs_v ad v) = true := by
  cases v <;> first | exact h | (cases t <;> first | exact h | rfl)
section XS3
variable {p : Program} {l : Launch} {e : Env} {R : Room} {s : State} {m : MethodId} {args : Array Value} {below : List Frame} {meth : Method} {c : Code} {Q : State → Prop}
variable {D : xs_D} {cl : List vw_C} {nL c0 s0 : Nat} {cc : ByteArray} {Ts : List Cond} {own : String} {pc : Nat} {L : xb_L} {st : List Value} {A : xb_H} {tys : List (ClassId × FieldType)} {ty : Nat → List FieldType}
theorem xs_getf (S : CallFix p m c cc nL s args Ts own) (hK : va_K D.1 cl tys s) (hC : xs_cls cl Ts ty) {k i idx : Nat} {q : xb_S} (h : xb_getx pc k i L A st = some q) (hd : decode cc pc = .ok (.getfield idx, 3)) (hf : xs_fl own Ts cl idx k i)
    (kk : xs_G D cl p l e R s m args below meth c nL c0 s0 Q q.1 q.2.1 q.2.2.1 q.2.2.2) : xs_G D cl p l e R s m args below meth c nL c0 s0 Q pc L st A := by
  obtain ⟨a, r, fs, v, rfl, hg, hv, rfl⟩ := xb_getx_spec h
  obtain ⟨r', hr', hi', hlk⟩ := hf
  intro H locs ls hR hl hq
  obtain ⟨rr, cell, h0, h1, h2, h3, h4, h5, h6⟩ := (hR.2.2.2.1 a _ hg).2
  have er : rr = r' := Option.some.inj (h0.symm.trans hr')
  subst er
  obtain ⟨hS, hfc, kC, hkC, hkind⟩ := hK.1 k _ h0
  obtain ⟨cf, kf, fi, f, hi, hsl⟩ := hS i hi'
  obtain ⟨ref, hlk1, hlk2⟩ := xs_fl_ref S.2.2.2.2 hlk
  exact W.getf S.1 S.2.1 S.2.2.2.1 hlk1 (hlk2 _ hi) (u_facts hfc hkC (u_lays S.2.2.2.2 (hC k rr h0).1 hi') hi).1 h1 h3 (v := xs_v D.2.2.1 v) (by rw [hsl]; exact (h6 i v hv).2) rfl rfl hd (kk H locs ls hR hl hq)
theorem xs_putf (S : CallFix p m c cc nL s args Ts own) (hD : xs_ad D) (hK : va_K D.1 cl tys s) (hC : xs_cls cl Ts ty) {k i idx : Nat} {q : xb_S} (h : xb_putx ty pc k i L A st = some q) (hd : decode cc pc = .ok (.putfield idx, 3)) (hf : xs_fl own Ts cl idx k i)
    (hfin : ∀ r : vw_C, cl[k]? = some r → (r.2.1 i).2.2.2 = false ∨ ((r.2.1 i).2.2.2 = true ∧ (r.2.1 i).1 = own ∧ meth.name = "<init>"))
    (kk : xs_G D cl p l e R s m args below meth c nL c0 s0 Q q.1 q.2.1 q.2.2.1 q.2.2.2) : xs_G D cl p l e R s m args below meth c nL c0 s0 Q pc L st A := by
  obtain ⟨a, v, r, fs, t, rfl, hg, hz, hlen, hty, hn, hfit, rfl⟩ := xb_putx_spec h
  obtain ⟨r', hr', hi', hlk⟩ := hf
  intro H locs ls hR hl hq
  obtain ⟨rr, cell, h0, h1, h2, h3, h4, h5, h6⟩ := (hR.2.2.2.1 a _ hg).2
  have er : rr = r' := Option.some.inj (h0.symm.trans hr')
  subst er
  obtain ⟨hc1, hc2, hc3, hc4⟩ := hC k rr h0
  obtain ⟨hS, hfc, kC, hkC, hkind⟩ := hK.1 k _ h0
  obtain ⟨cf, kf, fi, f, hi, hsl⟩ := hS i hi'
  have hst := (u_facts hfc hkC (u_lays S.2.2.2.2 hc1 hi') hi).1
  have hpd : parseFieldDescriptor (rr.2.1 i).2.2.1 = some t := hc3 i t hty
  have hslot : f.slot < cell.slots.size := by
    obtain ⟨w, hw⟩ : ∃ w, fs[i]? = some w := ⟨fs[i], List.getElem?_eq_getElem hlen⟩
    rw [hsl]
    exact k2_hasslot (h6 i w hw).2
  have hap : ∀ x y, x < rr.2.2 → y < rr.2.2 → x ≠ y → D.1.2 k x ≠ D.1.2 k y := by
    intro x y hx hy hne
    obtain ⟨_, _, _, fa, hia, ea⟩ := hS x hx
    obtain ⟨_, _, _, fb, hib, eb⟩ := hS y hy
    rw [← ea, ← eb]
    have tx : ∃ t, (ty k)[x]? = some t := ⟨_, List.getElem?_eq_getElem (by omega)⟩
    have tyy : ∃ t, (ty k)[y]? = some t := ⟨_, List.getElem?_eq_getElem (by omega)⟩
    obtain ⟨t1, ht1⟩ := tx
    obtain ⟨t2, ht2⟩ := tyy
    refine u_apart (u_lays S.2.2.2.2 hc1 hx) (u_lays S.2.2.2.2 hc1 hy) hia hib ?_
    rw [(State.fieldFound?_type hia (hc3 x t1 ht1)).1, (State.fieldFound?_type hib (hc3 y t2 ht2)).1]
    exact hc4 x hx y hy hne
  have fin : ∀ H' : Heap, H'[D.2.2.1 a]? = some (cell.setSlot f.slot (xs_v D.2.2.1 v)) → H'.size = H.size → (∀ q, q ≠ D.2.2.1 a → H'[q]? = H[q]?) → W p l e R s m args below meth c H' (locs ++ [⟨D.2.2.1 a, f.slot⟩]) (A.1 - c0) (A.2.1 - s0) Q (F0 m (pc + 3) ls (r.map (xs_v D.2.2.1))) := by
    intro H' e1 e2 e3
    refine kk H' _ ls (hR.set hD hg hz e2 ?_ e3) hl (t_lc hq (by rw [(hD.1 a hz).1]; omega))
    refine ⟨rr, _, h0, e1, h2, h3, h4, h5, fun j w hj => ?_⟩
    rw [List.getElem?_set] at hj
    by_cases hij : i = j
    · subst hij
      rw [if_pos rfl, if_pos hlen] at hj
      cases hj
      refine ⟨hi', ?_⟩
      rw [← hsl]
      exact Cell.slots_setSlot_self _ hslot
    · rw [if_neg hij] at hj
      obtain ⟨g1, g2⟩ := h6 j w hj
      refine ⟨g1, ?_⟩
      rw [slot_ne _ _ (by rw [hsl]; exact hap i j hi' g1 hij)]
      exact g2
  obtain ⟨ref, hlk1, hlk2⟩ := xs_fl_ref S.2.2.2.2 hlk
  rcases hfin rr h0 with hff | ⟨hff, hdecl, hin2⟩
  · have hlay := S.2.2.2.2 _ (hc1 _ (u_in_lay hi'))
    unfold u_lay at hlay
    rw [if_neg (by rw [hff]; decide)] at hlay
    have h7 := u_store hfc hkC hkind hlay hi hpd (xs_narrow (ad := D.2.2.1) hn) (xs_fits (ad := D.2.2.1) hfit)
    exact W.putK S.1 S.2.1 (f := f) ⟨S.2.2.2.1, hlk1, ⟨_, _, _, hlk2 _ hi⟩, hst⟩ (by rw [h2]; exact h7) h1 (h5 hz) hslot rfl rfl hd fin
  · have hlay := S.2.2.2.2 _ (hc1 _ (u_in_lay hi'))
    unfold u_lay at hlay
    rw [if_pos hff] at hlay
    have hcf : m.cls = cf := by
      obtain ⟨_, _, c', _, _, _, -, -, hf', -, -, -, hown2, -⟩ := Cond.laysFinal_spec hlay
      have e1 : c' = cf := by have := hi.symm.trans hf'; simp at this; exact this.1.symm
      rw [hdecl] at hown2
      rw [← e1]; exact Option.some.inj (S.2.2.2.1.symm.trans hown2)
    have h7 := u_fits hfc hkC hkind (Or.inr hlay) hi hpd (xs_narrow (ad := D.2.2.1) hn) (xs_fits (ad := D.2.2.1) hfit)
    exact W.putFinK S.1 S.2.1 S.2.2.2.1 hlk1 (hlk2 _ hi) hst hcf hin2 (by rw [h2]; exact h7) h1 (h5 hz) hslot rfl rfl hd fin
theorem xs_alen (S : CallFix p m c cc nL s args Ts own) {q : xb_S} (h : xb_alenx pc L A st = some q) (hd : decode cc pc = .ok (.arraylength, 1))
    (kk : xs_G D cl p l e R s m args below meth c nL c0 s0 Q q.1 q.2.1 q.2.2.1 q.2.2.2) : xs_G D cl p l e R s m args below meth c nL c0 s0 Q pc L st A := by
  obtain ⟨a, r, t, n, f, rfl, hg, rfl⟩ := xb_alenx_spec h
  intro H locs ls hR hl hq
  obtain ⟨cell, h1, h2, h3, h4, h5, h6⟩ := (hR.2.2.2.1 a _ hg).2
  exact W.alen (n := Int32.ofNat n) S.1 S.2.1 h1 h2 h4.2 rfl rfl hd (kk H locs ls hR hl hq)
theorem xs_iaI (S : CallFix p m c cc nL s args Ts own) {q : xb_S} (h : xb_ial xb_isI pc L A st = some q) (hd : decode cc pc = .ok (.iaload, 1))
    (kk : xs_G D cl p l e R s m args below meth c nL c0 s0 Q q.1 q.2.1 q.2.2.1 q.2.2.2) : xs_G D cl p l e R s m args below meth c nL c0 s0 Q pc L st A := by
  obtain ⟨i, a, r, t, n, f, rfl, hg, hok, hin, rfl⟩ := xb_ial_spec h
  cases t <;> simp [xb_isI] at hok
  intro H locs ls hR hl hq
  obtain ⟨cell, h1, h2, h3, h4, h5, h6⟩ := (hR.2.2.2.1 a _ hg).2
  have hn := xs_in hin
  exact W.iald (v := .int (f i.toNatClampNeg)) S.1 S.2.1 h1 h2 h3 (fun z => hn (z.imp id (fun z => Nat.le_trans h4.1 z))) (h5 _ (by omega)) rfl rfl hd (kk H locs ls hR hl hq)
theorem xs_iaC (S : CallFix p m c cc nL s args Ts own) {q : xb_S} (h : xb_ial xb_isC pc L A st = some q) (hd : decode cc pc = .ok (.caload, 1))
    (kk : xs_G D cl p l e R s m args below meth c nL c0 s0 Q q.1 q.2.1 q.2.2.1 q.2.2.2) : xs_G D cl p l e R s m args below meth c nL c0 s0 Q pc L st A := by
  obtain ⟨i, a, r, t, n, f, rfl, hg, hok, hin, rfl⟩ := xb_ial_spec h
  cases t <;> simp [xb_isC] at hok
  intro H locs ls hR hl hq
  obtain ⟨cell, h1, h2, h3, h4, h5, h6⟩ := (hR.2.2.2.1 a _ hg).2
  have hn := xs_in hin
  exact W.cald (v := .int (f i.toNatClampNeg)) S.1 S.2.1 h1 h2 h3 (fun z => hn (z.imp id (fun z => Nat.le_trans h4.1 z))) (h5 _ (by omega)) rfl rfl hd (kk H locs ls hR hl hq)
theorem xs_iaB (S : CallFix p m c cc nL s args Ts own) {q : xb_S} (h : xb_ial xb_isB pc L A st = some q) (hd : decode cc pc = .ok (.baload, 1))
    (kk : xs_G D cl p l e R s m args below meth c nL c0 s0 Q q.1 q.2.1 q.2.2.1 q.2.2.2) : xs_G D cl p l e R s m args below meth c nL c0 s0 Q pc L st A := by
  obtain ⟨i, a, r, t, n, f, rfl, hg, hok, hin, rfl⟩ := xb_ial_spec h
  cases t <;> simp [xb_isB] at hok
  · intro H locs ls hR hl hq
    obtain ⟨cell, h1, h2, h3, h4, h5, h6⟩ := (hR.2.2.2.1 a _ hg).2
    have hn := xs_in hin
    exact W.bald (v := .int (f i.toNatClampNeg)) S.1 S.2.1 h1 h2 h3 (fun z => hn (z.imp id (fun z => Nat.le_trans h4.1 z))) (h5 _ (by omega)) rfl rfl hd (kk H locs ls hR hl hq)
  · intro H locs ls hR hl hq
    obtain ⟨cell, h1, h2, h3, h4, h5, h6⟩ := (hR.2.2.2.1 a _ hg).2
    have hn := xs_in hin
    exact W.zald (v := .int (f i.toNatClampNeg)) S.1 S.2.1 h1 h2 h3 (fun z => hn (z.imp id (fun z => Nat.le_trans h4.1 z))) (h5 _ (by omega)) rfl rfl hd (kk H locs ls hR hl hq)
theorem xs_lal (S : CallFix p m c cc nL s args Ts own) {q : xb_S} (h : xb_lal pc L A st = some q) (hd : decode cc pc = .ok (.laload, 1))
    (kk : xs_G D cl p l e R s m args below meth c nL c0 s0 Q q.1 q.2.1 q.2.2.1 q.2.2.2) : xs_G D cl p l e R s m args below meth c nL c0 s0 Q pc L st A := by
  obtain ⟨i, a, r, n, f, rfl, hg, hin, rfl⟩ := xb_lal_spec h
  intro H locs ls hR hl hq
  obtain ⟨cell, h1, h2, h3, h4, h5, h6⟩ := (hR.2.2.2.1 a _ hg).2
  have hn := xs_in hin
  exact W.lald (v := .long (f i.toNatClampNeg)) S.1 S.2.1 h1 h2 h3 (fun z => hn (z.imp id (fun z => Nat.le_trans h4.1 z))) (h5 _ (by omega)) rfl rfl hd (kk H locs ls hR hl hq)
theorem xs_aal (S : CallFix p m c cc nL s args Ts own) {q : xb_S} (h : xb_aal pc L A st = some q) (hd : decode cc pc = .ok (.aaload, 1))
    (kk : xs_G D cl p l e R s m args below meth c nL c0 s0 Q q.1 q.2.1 q.2.2.1 q.2.2.2) : xs_G D cl p l e R s m args below meth c nL c0 s0 Q pc L st A := by
  obtain ⟨i, a, r, C, n, f, rfl, hg, hin, rfl⟩ := xb_aal_spec h
  intro H locs ls hR hl hq
  obtain ⟨cell, h1, h2, h3, h4, h5, h6⟩ := (hR.2.2.2.1 a _ hg).2
  have hn := xs_in hin
  exact W.aald (v := xs_v D.2.2.1 (va_rf (f i.toNatClampNeg))) (ty := .object C) S.1 S.2.1 h1 h2 rfl h3 (fun z => hn (z.imp id (fun z => Nat.le_trans h4.1 z))) (h5 _ (by omega)) rfl rfl hd (kk H locs ls hR hl hq)
/-- behind a store into an array -/
theorem xs_stored (hD : xs_ad D) {H H1 : Heap} {a n i : Nat} {t : FieldType} {f g : (Nat → Int32) ⊕ (Nat → Int64) ⊕ (Nat → Option Nat)} {x : Value} (hR : xs_R D cl s H A) (hg : xb_get A a = some (.inl (t, n, f))) (hz : xb_z ≤ a) {cell : Cell} (hc : H[D.2.2.1 a]? = some cell) (e1 : H1[D.2.2.1 a]? = some (cell.setSlot i x)) (e2 : H1.size = H.size) (e3 : ∀ q, q ≠ D.2.2.1 a → H1[q]? = H[q]?)
    (hfg : ∀ j, xs_v D.2.2.1 (xs_el g j) = if j = i then x else xs_v D.2.2.1 (xs_el f j)) : xs_R D cl s H1 (xb_set A a (.inl (t, n, g))) := by
  obtain ⟨cell', h1, h2, h3, h4, h5, h6⟩ := (hR.2.2.2.1 a _ hg).2
  have ec : cell' = cell := Option.some.inj (h1.symm.trans hc)
  subst ec
  have hA := h6 hz
  have e4 : cell'.setSlot i x = arrV (D.2.1 t) n (fun j => xs_v D.2.2.1 (xs_el g j)) := by
    rw [hA, arrV_store]
    congr 1
    funext j
    rw [hfg j]
    rfl
  rw [e4] at e1
  refine hR.set hD hg hz e2 ⟨_, e1, ?_, (fun z => by cases z), xs_arrsz _ _ _, fun j hj => arrV_read _ _ hj, fun _ => rfl⟩ e3
  rw [hA] at h2
  exact h2
end XS3
