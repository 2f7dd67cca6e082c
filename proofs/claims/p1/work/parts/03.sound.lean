/-! What the small machine's heap says of the real one -/
def xs_v (ad : Nat → Nat) (v : Value) : Value := match v with
  | .ref a => .ref (ad a)
  | w => w
theorem xs_v_cat (ad : Nat → Nat) (v : Value) : (xs_v ad v).category = v.category := by cases v <;> rfl
theorem xs_v_rf (ad : Nat → Nat) (r : Option Nat) : xs_v ad (va_rf r) = va_rf (r.map ad) := by cases r <;> rfl
def xs_el (c : (Nat → Int32) ⊕ (Nat → Int64) ⊕ (Nat → Option Nat)) (j : Nat) : Value := match c with
  | .inl f => .int (f j)
  | .inr (.inl f) => .long (f j)
  | .inr (.inr f) => va_rf (f j)
abbrev xs_D : Type := va_G × (FieldType → ClassId) × (Nat → Nat) × Nat × (Nat → Prop) × (Nat → Option Cell)
theorem xs_arrsz (cA : ClassId) (n : Nat) (f : Nat → Value) : n ≤ (arrV cA n f).slots.size ∧ (arrV cA n f).slots.size.toInt32 = Int32.ofNat n := by
  rw [arrV_size]
  exact ⟨Nat.le_refl _, rfl⟩
/-- a cell of the small heap, held by the real one: class tables cl, class numbers and slots D.1, array classes D.2.1, addresses D.2.2.1, the first new address D.2.2.2.1, which addresses are in use D.2.2.2.2.1, the old cells D.2.2.2.2.2 -/
def xs_cell (D : xs_D) (cl : List vw_C) (U : State) (H : Heap) (a : Nat) (o : xb_O) : Prop := match o with
  | .inl (t, n, c) => ∃ cell : Cell, H[D.2.2.1 a]? = some cell ∧ U.isArrayOf cell t ∧ cell.vm ≠ .unknown ∧ (n ≤ cell.slots.size ∧ cell.slots.size.toInt32 = Int32.ofNat n) ∧ (∀ j, j < n → cell.slots[j]? = some (xs_v D.2.2.1 (xs_el c j))) ∧ (xb_z ≤ a → cell = arrV (D.2.1 t) n (fun j => xs_v D.2.2.1 (xs_el c j)))
  | .inr (k, fs) => ∃ (r : vw_C) (cell : Cell), cl[k]? = some r ∧ H[D.2.2.1 a]? = some cell ∧ cell.cls = D.1.1 k ∧ cell.vm ≠ .unknown ∧ cell.vm.isStatics = false ∧ (xb_z ≤ a → cell.vm = .none) ∧ ∀ i v, fs[i]? = some v → i < r.2.2 ∧ cell.slots[D.1.2 k i]? = some (xs_v D.2.2.1 v)
def xs_R (D : xs_D) (cl : List vw_C) (U : State) (H : Heap) (A : xb_H) : Prop :=
  D.2.2.2.1 ≤ H.size ∧ A.1 = xb_z + (H.size - D.2.2.2.1) ∧ (∀ q, q < D.2.2.2.1 → H[q]? = D.2.2.2.2.2 q) ∧ (∀ a o, xb_get A a = some o → D.2.2.2.2.1 a ∧ xs_cell D cl U H a o) ∧ ∀ (q : Nat) (cell : Cell), D.2.2.2.1 ≤ q → H[q]? = some cell → cell.vm.isStatics = false
/-- the addresses: new ones in order; those in use apart -/
def xs_ad (D : xs_D) : Prop := (∀ a, xb_z ≤ a → D.2.2.1 a = D.2.2.2.1 + (a - xb_z) ∧ D.2.2.2.2.1 a) ∧ (∀ a, a < xb_z → D.2.2.2.2.1 a → D.2.2.1 a < D.2.2.2.1) ∧ ∀ a b, xb_dist a = true → xb_dist b = true → D.2.2.1 a = D.2.2.1 b → a = b
theorem xs_cell.kept {D : xs_D} {cl : List vw_C} {U : State} {H H1 : Heap} {a : Nat} {o : xb_O} (h : xs_cell D cl U H a o) (hq : H1[D.2.2.1 a]? = H[D.2.2.1 a]?) : xs_cell D cl U H1 a o := by
  cases o with
  | inl x =>
    obtain ⟨t, n, c⟩ := x
    obtain ⟨cell, h1, h2⟩ := h
    exact ⟨cell, by rw [hq]; exact h1, h2⟩
  | inr x =>
    obtain ⟨k, fs⟩ := x
    obtain ⟨r, cell, h0, h1, h2⟩ := h
    exact ⟨r, cell, h0, by rw [hq]; exact h1, h2⟩
theorem xs_cell.moved {D : xs_D} {cl : List vw_C} {u U : State} {H : Heap} {a : Nat} {o : xb_O} (hvm : u.vm.Alike U.vm) (h : xs_cell D cl u H a o) : xs_cell D cl U H a o := by
  cases o with
  | inl x =>
    obtain ⟨t, n, c⟩ := x
    obtain ⟨cell, h1, h2, h3⟩ := h
    exact ⟨cell, h1, State.isArrayOf_alike hvm h2, h3⟩
  | inr x =>
    obtain ⟨k, fs⟩ := x
    exact h
theorem xs_R.moved {D : xs_D} {cl : List vw_C} {u U : State} {H : Heap} {A : xb_H} (hvm : u.vm.Alike U.vm) (h : xs_R D cl u H A) : xs_R D cl U H A := ⟨h.1, h.2.1, h.2.2.1, fun a o ho => ⟨(h.2.2.2.1 a o ho).1, (h.2.2.2.1 a o ho).2.moved hvm⟩, h.2.2.2.2⟩
theorem xs_cell.lt {D : xs_D} {cl : List vw_C} {U : State} {H : Heap} {a : Nat} {o : xb_O} (h : xs_cell D cl U H a o) : D.2.2.1 a < H.size := by
  cases o with
  | inl x =>
    obtain ⟨t, n, c⟩ := x
    obtain ⟨cell, h1, h2⟩ := h
    exact (Array.getElem?_eq_some_iff.mp h1).1
  | inr x =>
    obtain ⟨k, fs⟩ := x
    obtain ⟨r, cell, h0, h1, h2⟩ := h
    exact (Array.getElem?_eq_some_iff.mp h1).1
theorem xs_cell.plain {D : xs_D} {cl : List vw_C} {U : State} {H : Heap} {a : Nat} {o : xb_O} (h : xs_cell D cl U H a o) {cell : Cell} (hc : H[D.2.2.1 a]? = some cell) : cell.vm.isStatics = false := by
  cases o with
  | inl x =>
    obtain ⟨t, n, c⟩ := x
    obtain ⟨cell', h1, h2, -⟩ := h
    have e : cell' = cell := Option.some.inj (h1.symm.trans hc)
    subst e
    have h3 := h2.1
    cases hv : cell'.vm <;> first | rfl | exact absurd hv (h3 _)
  | inr x =>
    obtain ⟨k, fs⟩ := x
    obtain ⟨r, cell', h0, h1, h2, h3, h4, -⟩ := h
    have e : cell' = cell := Option.some.inj (h1.symm.trans hc)
    subst e
    exact h4
/-- a cell is changed -/
theorem xs_R.set {D : xs_D} {cl : List vw_C} {U : State} {H H1 : Heap} {A : xb_H} {a : Nat} {o0 o : xb_O} (hD : xs_ad D) (h : xs_R D cl U H A) (ha : xb_get A a = some o0) (hza : xb_z ≤ a) (hz : H1.size = H.size) (ho : xs_cell D cl U H1 a o) (hq : ∀ q, q ≠ D.2.2.1 a → H1[q]? = H[q]?) : xs_R D cl U H1 (xb_set A a o) := by
  refine ⟨by rw [hz]; exact h.1, by rw [hz]; exact h.2.1, fun q hb => ?_, fun b p hp => ?_, fun q cell hb hcell => ?_⟩
  · have h1 := (hD.1 a hza).1
    rw [hq q (by omega)]
    exact h.2.2.1 q hb
  rw [xb_get_set (xb_get_lt ha)] at hp
  by_cases hb : b = a
  · subst hb
    rw [if_pos rfl] at hp
    cases hp
    exact ⟨(h.2.2.2.1 _ _ ha).1, ho⟩
  · rw [if_neg hb] at hp
    obtain ⟨h1, h2⟩ := h.2.2.2.1 b p hp
    refine ⟨h1, h2.kept (hq _ (fun e => ?_))⟩
    have e1 := (hD.1 a hza).1
    by_cases hbz : xb_z ≤ b
    · have e2 := (hD.1 b hbz).1
      omega
    · have e2 := hD.2.1 b (by omega) h1
      omega
  · by_cases e : q = D.2.2.1 a
    · rw [e] at hcell
      exact ho.plain hcell
    · rw [hq q e] at hcell
      exact h.2.2.2.2 q cell hb hcell
/-- a cell is made -/
theorem xs_R.new {D : xs_D} {cl : List vw_C} {U : State} {H H1 : Heap} {A : xb_H} {n : Nat} {o : xb_O} (hD : xs_ad D) (h : xs_R D cl U H A) (hz : H1.size = H.size + 1) (ho : xs_cell D cl U H1 A.1 o) (hq : ∀ q, q < H.size → H1[q]? = H[q]?) : xs_R D cl U H1 (xb_new A n o) := by
  have hu : D.2.2.2.2.1 A.1 := (hD.1 A.1 (by have := h.2.1; omega)).2
  have hnx : D.2.2.1 A.1 = H.size := by
    have h1 := h.1
    have h2 := h.2.1
    rw [(hD.1 A.1 (by omega)).1]
    omega
  refine ⟨by rw [hz]; have := h.1; omega, ?_, fun q hb => ?_, fun b p hp => ?_, fun q cell hb hcell => ?_⟩
  · show A.1 + 1 = _
    rw [hz, h.2.1]
    have := h.1
    omega
  · rw [hq q (by have := h.1; omega)]
    exact h.2.2.1 q hb
  · rw [xb_get_new] at hp
    by_cases hb : b = A.1
    · subst hb
      rw [if_pos rfl] at hp
      cases hp
      exact ⟨hu, ho⟩
    · rw [if_neg hb] at hp
      obtain ⟨h1, h2⟩ := h.2.2.2.1 b p hp
      exact ⟨h1, h2.kept (hq _ h2.lt)⟩
  · by_cases e : q < H.size
    · rw [hq q e] at hcell
      exact h.2.2.2.2 q cell hb hcell
    · have h3 := (Array.getElem?_eq_some_iff.mp hcell).1
      have e2 : q = D.2.2.1 A.1 := by omega
      rw [e2] at hcell
      exact ho.plain hcell
theorem xs_R.next {D : xs_D} {cl : List vw_C} {U : State} {H : Heap} {A : xb_H} (hD : xs_ad D) (h : xs_R D cl U H A) : D.2.2.1 A.1 = H.size := by
  have h1 := h.1
  have h2 := h.2.1
  rw [(hD.1 A.1 (by omega)).1]
  omega
section XS
variable {p : Program} {l : Launch} {e : Env} {R : Room} {s : State} {m : MethodId} {args : Array Value} {below : List Frame} {meth : Method} {c : Code} {Q : State → Prop}
variable {D : xs_D} {cl : List vw_C} {nL c0 s0 : Nat} {cc : ByteArray} {Ts : List Cond} {own : String} {pc : Nat} {L : xb_L} {st : List Value} {A : xb_H} {tys : List (ClassId × FieldType)}
def xs_m (ad : Nat → Nat) (L : xb_L) : List (Nat × Value) := L.map fun q => (q.1, xs_v ad q.2)
/-- the walk stands at pc with these locals, this stack, this heap -/
def xs_G (D : xs_D) (cl : List vw_C) (p : Program) (l : Launch) (e : Env) (R : Room) (s : State) (m : MethodId) (args : Array Value) (below : List Frame) (meth : Method) (c : Code) (nL c0 s0 : Nat) (Q : State → Prop) (pc : Nat) (L : xb_L) (st : List Value) (A : xb_H) : Prop :=
  ∀ (H : Heap) (locs : List Loc) (ls : Array Slot), xs_R D cl s H A → lv_has ls nL (xs_m D.2.2.1 L) → (∀ q ∈ locs, D.2.2.2.1 ≤ q.base) → W p l e R s m args below meth c H locs (A.1 - c0) (A.2.1 - s0) Q (F0 m pc ls (st.map (xs_v D.2.2.1)))
theorem xs_lookup {L : xb_L} {i : Nat} {v : Value} (h : xb_ld L i = some v) : (i, v) ∈ L := by
  unfold xb_ld at h
  induction L with
  | nil => cases h
  | cons q t ih =>
    obtain ⟨j, w⟩ := q
    rw [List.lookup_cons] at h
    by_cases hij : (i == j) = true
    · rw [hij] at h
      have h1 : i = j := by simpa using hij
      cases h
      rw [h1]
      exact List.mem_cons_self
    · have h2 : (i == j) = false := by simpa using hij
      rw [h2] at h
      exact List.mem_cons_of_mem _ (ih h)
theorem xs_at {ls : Array Slot} {ad : Nat → Nat} {i : Nat} {v : Value} (hl : lv_has ls nL (xs_m ad L)) (h : xb_ld L i = some v) : ls[i]? = some (.val (xs_v ad v)) :=
  hl.2.2 (i, xs_v ad v) (List.mem_map.mpr ⟨(i, v), xs_lookup h, rfl⟩)
theorem xs_m_st (ad : Nat → Nat) (L : xb_L) (i : Nat) (v : Value) : (i, xs_v ad v) :: (xs_m ad L).filter (fun q => !(q.1 == i) && !(q.1 + 1 == i && q.2.category == 2)) = xs_m ad (xb_st L i v) := by
  unfold xs_m xb_st
  rw [List.map_cons, List.filter_map]
  congr 2
  apply List.filter_congr
  intro q _
  simp [Function.comp, xs_v_cat]
theorem xs_m_st2 (ad : Nat → Nat) (L : xb_L) (i : Nat) (v : Value) : (i, xs_v ad v) :: (xs_m ad L).filter (fun q => !(q.1 == i) && (!(q.1 == i + 1) && !(q.1 + 1 == i && q.2.category == 2))) = xs_m ad (xb_st2 L i v) := by
  unfold xs_m xb_st2
  rw [List.map_cons, List.filter_map]
  congr 2
  apply List.filter_congr
  intro q _
  simp [Function.comp, xs_v_cat]
/-- what a row of a method's table says, apart from links -/
def xs_len (nL : Nat) (pc : Nat) (q : xb_I) : Prop := match q.1 with
  | .bipush n => q.2.1 = 2 ∧ (Int8.ofInt n).toInt32 = Int32.ofInt n
  | .sipush n => q.2.1 = 3 ∧ (Int16.ofInt n).toInt32 = Int32.ofInt n
  | .iload _ => q.2.1 = 2
  | .lload _ => q.2.1 = 2
  | .aload _ => q.2.1 = 2
  | .istore_n n => q.2.1 = 1 ∧ (n : Nat) < nL
  | .istore n => q.2.1 = 2 ∧ n < nL
  | .lstore_n n => q.2.1 = 1 ∧ (n : Nat) + 1 < nL
  | .lstore n => q.2.1 = 2 ∧ n + 1 < nL
  | .astore_n n => q.2.1 = 1 ∧ (n : Nat) < nL
  | .astore n => q.2.1 = 2 ∧ n < nL
  | .iinc n _ => q.2.1 = 3 ∧ n < nL
  | .ifCond _ off => q.2.1 = 3 ∧ (pc : Int) + off = (q.2.2.1 : Int)
  | .if_icmp _ off => q.2.1 = 3 ∧ (pc : Int) + off = (q.2.2.1 : Int)
  | .if_acmp _ off => q.2.1 = 3 ∧ (pc : Int) + off = (q.2.2.1 : Int)
  | .ifnull off => q.2.1 = 3 ∧ (pc : Int) + off = (q.2.2.1 : Int)
  | .ifnonnull off => q.2.1 = 3 ∧ (pc : Int) + off = (q.2.2.1 : Int)
  | .goto off => q.2.1 = 3 ∧ (pc : Int) + off = (q.2.2.1 : Int)
  | .lookupswitch _ ps => (ps.toList.zip (ps.toList.drop 1)).all (fun (a, next) => a.1 < next.1) = true
  | .tableswitch _ _ _ _ => True
  | .ldc _ => q.2.1 = 2
  | .ldc2_w _ => q.2.1 = 3
  | .getfield _ => q.2.1 = 3
  | .putfield _ => q.2.1 = 3
  | .getstatic _ => q.2.1 = 3
  | .new _ => q.2.1 = 3
  | .newarray _ => q.2.1 = 2
  | .anewarray _ => q.2.1 = 3
  | .checkcast _ => q.2.1 = 3
  | .instanceof _ => q.2.1 = 3
  | .invokevirtual _ => q.2.1 = 3
  | .invokespecial _ => q.2.1 = 3
  | .invokestatic _ => q.2.1 = 3
  | _ => q.2.1 = 1
-- one row an instruction
theorem xs_ild (S : CallFix p m c cc nL s args Ts own) {n i : Nat} {q : xb_S} (h : xb_ildx pc n i L A st = some q)
    (row : ∀ (H : Heap) (locs : List Loc) (ls : Array Slot) (x : Int32), ls[i]? = some (.val (.int x)) → W p l e R s m args below meth c H locs (A.1 - c0) (A.2.1 - s0) Q (F0 m (pc + n) ls (.int x :: st.map (xs_v D.2.2.1))) → W p l e R s m args below meth c H locs (A.1 - c0) (A.2.1 - s0) Q (F0 m pc ls (st.map (xs_v D.2.2.1))))
    (k : xs_G D cl p l e R s m args below meth c nL c0 s0 Q q.1 q.2.1 q.2.2.1 q.2.2.2) : xs_G D cl p l e R s m args below meth c nL c0 s0 Q pc L st A := by
  unfold xb_ildx at h
  split at h
  · rename_i x hx
    cases h
    intro H locs ls hR hl hq
    exact row H locs ls x (xs_at hl hx) (k H locs ls hR hl hq)
  · cases h
theorem xs_lld (S : CallFix p m c cc nL s args Ts own) {n i : Nat} {q : xb_S} (h : xb_lldx pc n i L A st = some q)
    (row : ∀ (H : Heap) (locs : List Loc) (ls : Array Slot) (x : Int64), ls[i]? = some (.val (.long x)) → W p l e R s m args below meth c H locs (A.1 - c0) (A.2.1 - s0) Q (F0 m (pc + n) ls (.long x :: st.map (xs_v D.2.2.1))) → W p l e R s m args below meth c H locs (A.1 - c0) (A.2.1 - s0) Q (F0 m pc ls (st.map (xs_v D.2.2.1))))
    (k : xs_G D cl p l e R s m args below meth c nL c0 s0 Q q.1 q.2.1 q.2.2.1 q.2.2.2) : xs_G D cl p l e R s m args below meth c nL c0 s0 Q pc L st A := by
  unfold xb_lldx at h
  split at h
  · rename_i x hx
    cases h
    intro H locs ls hR hl hq
    exact row H locs ls x (xs_at hl hx) (k H locs ls hR hl hq)
  · cases h
theorem xs_ald (S : CallFix p m c cc nL s args Ts own) {n i : Nat} {q : xb_S} (h : xb_aldx pc n i L A st = some q)
    (row : ∀ (H : Heap) (locs : List Loc) (ls : Array Slot) (x : Nat), ls[i]? = some (.val (.ref x)) → W p l e R s m args below meth c H locs (A.1 - c0) (A.2.1 - s0) Q (F0 m (pc + n) ls (.ref x :: st.map (xs_v D.2.2.1))) → W p l e R s m args below meth c H locs (A.1 - c0) (A.2.1 - s0) Q (F0 m pc ls (st.map (xs_v D.2.2.1))))
    (row2 : ∀ (H : Heap) (locs : List Loc) (ls : Array Slot), ls[i]? = some (.val .null) → W p l e R s m args below meth c H locs (A.1 - c0) (A.2.1 - s0) Q (F0 m (pc + n) ls (.null :: st.map (xs_v D.2.2.1))) → W p l e R s m args below meth c H locs (A.1 - c0) (A.2.1 - s0) Q (F0 m pc ls (st.map (xs_v D.2.2.1))))
    (k : xs_G D cl p l e R s m args below meth c nL c0 s0 Q q.1 q.2.1 q.2.2.1 q.2.2.2) : xs_G D cl p l e R s m args below meth c nL c0 s0 Q pc L st A := by
  unfold xb_aldx at h
  split at h
  · rename_i x hx
    cases h
    intro H locs ls hR hl hq
    exact row H locs ls _ (xs_at hl hx) (k H locs ls hR hl hq)
  · rename_i hx
    cases h
    intro H locs ls hR hl hq
    exact row2 H locs ls (xs_at hl hx) (k H locs ls hR hl hq)
  · cases h
theorem xs_i2 {f : Int32 → Int32 → Int32} {q : xb_S} (h : xb_i2 f pc L A st = some q)
    (row : ∀ (H : Heap) (locs : List Loc) (ls : Array Slot) (x y : Int32) (rest : List Value), W p l e R s m args below meth c H locs (A.1 - c0) (A.2.1 - s0) Q (F0 m (pc + 1) ls (.int (f x y) :: rest)) → W p l e R s m args below meth c H locs (A.1 - c0) (A.2.1 - s0) Q (F0 m pc ls (.int y :: .int x :: rest)))
    (k : xs_G D cl p l e R s m args below meth c nL c0 s0 Q q.1 q.2.1 q.2.2.1 q.2.2.2) : xs_G D cl p l e R s m args below meth c nL c0 s0 Q pc L st A := by
  unfold xb_i2 at h
  split at h
  · cases h
    intro H locs ls hR hl hq
    exact row H locs ls _ _ _ (k H locs ls hR hl hq)
  · cases h
theorem xs_div {f : Int32 → Int32 → Int32} {q : xb_S} (h : xb_divx f pc L A st = some q)
    (row : ∀ (H : Heap) (locs : List Loc) (ls : Array Slot) (x y : Int32) (rest : List Value), ¬ y = 0 → W p l e R s m args below meth c H locs (A.1 - c0) (A.2.1 - s0) Q (F0 m (pc + 1) ls (.int (f x y) :: rest)) → W p l e R s m args below meth c H locs (A.1 - c0) (A.2.1 - s0) Q (F0 m pc ls (.int y :: .int x :: rest)))
    (k : xs_G D cl p l e R s m args below meth c nL c0 s0 Q q.1 q.2.1 q.2.2.1 q.2.2.2) : xs_G D cl p l e R s m args below meth c nL c0 s0 Q pc L st A := by
  unfold xb_divx at h
  split at h
  · split at h
    · cases h
    · rename_i hy
      cases h
      intro H locs ls hR hl hq
      exact row H locs ls _ _ _ hy (k H locs ls hR hl hq)
  · cases h
theorem xs_i1 {f : Int32 → Int32} {q : xb_S} (h : xb_i1 f pc L A st = some q)
    (row : ∀ (H : Heap) (locs : List Loc) (ls : Array Slot) (x : Int32) (rest : List Value), W p l e R s m args below meth c H locs (A.1 - c0) (A.2.1 - s0) Q (F0 m (pc + 1) ls (.int (f x) :: rest)) → W p l e R s m args below meth c H locs (A.1 - c0) (A.2.1 - s0) Q (F0 m pc ls (.int x :: rest)))
    (k : xs_G D cl p l e R s m args below meth c nL c0 s0 Q q.1 q.2.1 q.2.2.1 q.2.2.2) : xs_G D cl p l e R s m args below meth c nL c0 s0 Q pc L st A := by
  unfold xb_i1 at h
  split at h
  · cases h
    intro H locs ls hR hl hq
    exact row H locs ls _ _ (k H locs ls hR hl hq)
  · cases h
theorem xs_l2 {f : Int64 → Int64 → Int64} {q : xb_S} (h : xb_l2 f pc L A st = some q)
    (row : ∀ (H : Heap) (locs : List Loc) (ls : Array Slot) (x y : Int64) (rest : List Value), W p l e R s m args below meth c H locs (A.1 - c0) (A.2.1 - s0) Q (F0 m (pc + 1) ls (.long (f x y) :: rest)) → W p l e R s m args below meth c H locs (A.1 - c0) (A.2.1 - s0) Q (F0 m pc ls (.long y :: .long x :: rest)))
    (k : xs_G D cl p l e R s m args below meth c nL c0 s0 Q q.1 q.2.1 q.2.2.1 q.2.2.2) : xs_G D cl p l e R s m args below meth c nL c0 s0 Q pc L st A := by
  unfold xb_l2 at h
  split at h
  · cases h
    intro H locs ls hR hl hq
    exact row H locs ls _ _ _ (k H locs ls hR hl hq)
  · cases h
theorem xs_ls {f : Int64 → Int32 → Int64} {q : xb_S} (h : xb_ls f pc L A st = some q)
    (row : ∀ (H : Heap) (locs : List Loc) (ls : Array Slot) (x : Int64) (y : Int32) (rest : List Value), W p l e R s m args below meth c H locs (A.1 - c0) (A.2.1 - s0) Q (F0 m (pc + 1) ls (.long (f x y) :: rest)) → W p l e R s m args below meth c H locs (A.1 - c0) (A.2.1 - s0) Q (F0 m pc ls (.int y :: .long x :: rest)))
    (k : xs_G D cl p l e R s m args below meth c nL c0 s0 Q q.1 q.2.1 q.2.2.1 q.2.2.2) : xs_G D cl p l e R s m args below meth c nL c0 s0 Q pc L st A := by
  unfold xb_ls at h
  split at h
  · cases h
    intro H locs ls hR hl hq
    exact row H locs ls _ _ _ (k H locs ls hR hl hq)
  · cases h
theorem xs_j1 {f : Int32 → Bool} {t : Nat} {q : xb_S} (h : xb_j1 f pc t L A st = some q)
    (row : ∀ (H : Heap) (locs : List Loc) (ls : Array Slot) (x : Int32) (rest : List Value), (f x = true → W p l e R s m args below meth c H locs (A.1 - c0) (A.2.1 - s0) Q (F0 m t ls rest)) → (¬ f x = true → W p l e R s m args below meth c H locs (A.1 - c0) (A.2.1 - s0) Q (F0 m (pc + 3) ls rest)) → W p l e R s m args below meth c H locs (A.1 - c0) (A.2.1 - s0) Q (F0 m pc ls (.int x :: rest)))
    (k : xs_G D cl p l e R s m args below meth c nL c0 s0 Q q.1 q.2.1 q.2.2.1 q.2.2.2) : xs_G D cl p l e R s m args below meth c nL c0 s0 Q pc L st A := by
  unfold xb_j1 at h
  split at h
  · rename_i x r
    cases h
    intro H locs ls hR hl hq
    have k1 := k H locs ls hR hl hq
    refine row H locs ls _ _ (fun hx => ?_) (fun hx => ?_)
    · simp only [hx, ↓reduceIte] at k1
      exact k1
    · simp only [hx, ↓reduceIte] at k1
      exact k1
  · cases h
theorem xs_j2 {f : Int32 → Int32 → Bool} {t : Nat} {q : xb_S} (h : xb_j2 f pc t L A st = some q)
    (row : ∀ (H : Heap) (locs : List Loc) (ls : Array Slot) (x y : Int32) (rest : List Value), (f x y = true → W p l e R s m args below meth c H locs (A.1 - c0) (A.2.1 - s0) Q (F0 m t ls rest)) → (¬ f x y = true → W p l e R s m args below meth c H locs (A.1 - c0) (A.2.1 - s0) Q (F0 m (pc + 3) ls rest)) → W p l e R s m args below meth c H locs (A.1 - c0) (A.2.1 - s0) Q (F0 m pc ls (.int y :: .int x :: rest)))
    (k : xs_G D cl p l e R s m args below meth c nL c0 s0 Q q.1 q.2.1 q.2.2.1 q.2.2.2) : xs_G D cl p l e R s m args below meth c nL c0 s0 Q pc L st A := by
  unfold xb_j2 at h
  split at h
  · cases h
    intro H locs ls hR hl hq
    have k1 := k H locs ls hR hl hq
    refine row H locs ls _ _ _ (fun hx => ?_) (fun hx => ?_)
    · simp only [hx, ↓reduceIte] at k1
      exact k1
    · simp only [hx, ↓reduceIte] at k1
      exact k1
  · cases h
end XS
