/-! What the tables say of a state, and one instruction of the small machine as a step of the real one -/
def xs_Z (D : xs_D) (C n d : String) (v : Value) (U : State) : Prop := ∃ (cf : ClassId) (kf : Class) (fi : Nat) (f : Field) (a : Nat) (cell : Cell), U.fieldFound? C n d = some (cf, kf, fi, f) ∧ f.isStatic = true ∧ kf.init = .initialized ∧ kf.statics = some a ∧ a < D.2.2.2.1 ∧ D.2.2.2.2.2 a = some cell ∧ cell.vm.isStatics = true ∧ cell.slots[f.slot]? = some (xs_v D.2.2.1 v)
theorem xs_Z.moved {D : xs_D} {C n d : String} {v : Value} {u U : State} (hvm : u.vm.Alike U.vm) (h : xs_Z D C n d v u) : xs_Z D C n d v U := by
  obtain ⟨cf, kf, fi, f, a, cell, h1, h2, h3, h4, h5⟩ := h
  obtain ⟨k', hi', he⟩ := State.fieldFound?_setVm hvm h1
  exact ⟨cf, k', fi, f, a, cell, hi', h2, by rw [he]; exact h3, by rw [he]; exact h4, h5⟩
def xs_into (D : xs_D) (into : FieldType → Nat → Bool) (U : State) : Prop := ∀ (t : FieldType) (k : Nat), into t k = true → t.isReference = true ∧ ∃ kv : Class, U.vm.classes[D.1.1 k]? = some kv ∧ ∀ (kA : Class) (comp : ClassId), U.vm.classes[D.2.1 t]? = some kA → kA.kind = .array comp t → U.vm.assignable (D.1.1 k) comp = true ∧ ∃ kc : Class, U.vm.classes[comp]? = some kc
/-- words that a call doesn't carry by itself -/
def xs_nk (w : Cond) : Bool := match w with
  | .castable _ _ => true
  | .methodLinkNest _ _ _ _ => true
  | .fieldLinkNest _ _ _ _ _ _ => true
  | .declares _ => true
  | _ => false
theorem xs_Nw {w : Cond} {s U : State} (hk : xs_nk w = true) (hW : s.WarmedH U.vm) (h : va_Nw w s) : va_Nw w U := by
  cases w <;> first | (exact va_Nw.warmC hW h) | (exact va_Nw.warmM hW h) | (exact va_Nw.warmF hW h) | (exact va_Nw.warmD hW h) | (cases hk; done)
/-- what is known of a state: D, the tables G, the class tables, the array types, the statics' names, the string constants' places -/
def xs_K (D : xs_D) (G : xb_G) (cl : List vw_C) (TY : List FieldType) (NW : List Cond) (sd : Nat → Option (String × String × String)) (sl : String → Nat → Option Nat) (U : State) : Prop :=
  va_K D.1 cl [] U ∧ (∀ t ∈ TY, U.vm.findClass ("[" ++ t.toString) = some (D.2.1 t)) ∧ xs_into D (xb_gI G) U ∧
  (∀ i C n d v, sd i = some (C, n, d) → xb_gS G i = some v → xs_Z D C n d v U) ∧
  (∀ own idx j, sl own idx = some j → ∃ (a : Nat) (tx : String), xb_gC G j = some (.ref a) ∧ vk_R own idx tx (D.2.2.1 a) U) ∧ (∀ C : String, FieldType.object C ∈ TY → va_AO C U ∧ (C = "java/lang/Object" → va_Mi "[Ljava/lang/Object;" (D.2.2.1 21) U)) ∧ ∀ w ∈ NW, xs_nk w = true ∧ va_Nw w U
theorem xs_K.warm {D : xs_D} {G : xb_G} {cl : List vw_C} {TY : List FieldType} {NW : List Cond} {sd : Nat → Option (String × String × String)} {sl : String → Nat → Option Nat} {s U : State} (hW : s.WarmedH U.vm) (h : xs_K D G cl TY NW sd sl s) : xs_K D G cl TY NW sd sl U := by
  obtain ⟨h1, h2, h3, h4, h5, h6, h7⟩ := h
  have hvm := hW.alike
  refine ⟨va_K.moved hvm h1, fun t ht => by rw [hvm.findClass]; exact h2 t ht, fun t k hk => ?_, fun i C n d v q1 q2 => (h4 i C n d v q1 q2).moved hvm, fun own idx j hj => ?_, fun C hC => ⟨(h6 C hC).1.moved hvm, fun e => ((h6 C hC).2 e).moved hvm⟩, fun w hw => ⟨(h7 w hw).1, xs_Nw (h7 w hw).1 hW (h7 w hw).2⟩⟩
  · obtain ⟨g1, kv, g2, g3⟩ := h3 t k hk
    obtain ⟨kv', hkv', -⟩ := hvm.2.2 _ _ g2
    refine ⟨g1, kv', hkv', fun kA comp hkA hkind => ?_⟩
    have hs : ∃ kA0, s.vm.classes[D.2.1 t]? = some kA0 ∧ kA0.kind = .array comp t := by
      obtain ⟨k0, hk0, he0⟩ := hvm.symm.2.2 _ _ hkA
      exact ⟨k0, hk0, by rw [he0]; exact hkind⟩
    obtain ⟨kA0, q1, q2⟩ := hs
    obtain ⟨g4, kc, g5⟩ := g3 kA0 comp q1 q2
    obtain ⟨kc', hkc', -⟩ := hvm.2.2 _ _ g5
    exact ⟨by rw [hvm.assignable]; exact g4, kc', hkc'⟩
  · obtain ⟨a, tx, g1, g2⟩ := h5 own idx j hj
    exact ⟨a, tx, g1, g2.warm hW⟩
/-- the links of a row -/
def xs_lk (G : xb_G) (cl : List vw_C) (Ts : List Cond) (TY : List FieldType) (NW : List Cond) (sd : Nat → Option (String × String × String)) (sl : String → Nat → Option Nat) (own : String) (ini : Bool) (q : xb_I) : Prop := match q.1 with
  | .getfield idx => xs_fl own Ts cl idx q.2.2.1 q.2.2.2
  | .putfield idx => xs_fl own Ts cl idx q.2.2.1 q.2.2.2 ∧ ∀ r : vw_C, cl[q.2.2.1]? = some r → (r.2.1 q.2.2.2).2.2.2 = false ∨ ((r.2.1 q.2.2.2).2.2.2 = true ∧ (r.2.1 q.2.2.2).1 = own ∧ ini = true)
  | .new idx => ∃ r : vw_C, cl[q.2.2.1]? = some r ∧ Cond.classLink own idx r.1 ∈ Ts ∧ Cond.instantiable r.1 r.2.2 ∈ Ts ∧ Cond.initialized r.1 ∈ Ts
  | .newarray t => Cond.arrayClass (newarray.typeOf t) ∈ Ts ∧ newarray.typeOf t ∈ TY
  | .anewarray idx => ∃ C : String, xb_gE G q.2.2.1 = .object C ∧ Cond.classLink own idx C ∈ Ts ∧ FieldType.object C ∈ TY
  | .checkcast idx => ∃ nm : String, Cond.classLink own idx nm ∈ Ts ∧ (∀ (k : Nat) (r : vw_C), xb_gX G k q.2.2.1 = true → cl[k]? = some r → Cond.castable r.1 nm ∈ NW) ∧ (xb_gX G 100 q.2.2.1 = true → nm = "[" ++ FieldType.byte.toString ∧ FieldType.byte ∈ TY)
  | .instanceof idx => ∃ nm : String, Cond.classLink own idx nm ∈ Ts ∧ ∀ (k : Nat) (r : vw_C), xb_gX G k q.2.2.1 = true → cl[k]? = some r → Cond.castable r.1 nm ∈ NW
  | .getstatic idx => ∃ C n d : String, sd q.2.2.1 = some (C, n, d) ∧ Cond.fieldLink own idx C n d ∈ Ts
  | .ldc idx => (∃ v : Int32, xb_gC G q.2.2.1 = some (.int v) ∧ Cond.constant own idx v ∈ Ts) ∨ sl own idx = some q.2.2.1 ∨ (xb_gC G q.2.2.1 = some (.ref 21) ∧ Cond.classLink own idx "[Ljava/lang/Object;" ∈ Ts ∧ FieldType.object "java/lang/Object" ∈ TY)
  | .ldc2_w idx => ∃ v : Int64, xb_gC G q.2.2.1 = some (.long v) ∧ Cond.constantLong own idx v ∈ Ts
  | _ => True
section XS5
variable {p : Program} {l : Launch} {e : Env} {R : Room} {s : State} {m : MethodId} {args : Array Value} {below : List Frame} {meth : Method} {c : Code} {Q : State → Prop}
variable {D : xs_D} {cl : List vw_C} {nL c0 s0 : Nat} {cc : ByteArray} {Ts : List Cond} {own : String} {pc : Nat} {L : xb_L} {st : List Value} {A : xb_H} {G : xb_G} {TY : List FieldType} {NW : List Cond} {sd : Nat → Option (String × String × String)} {sl : String → Nat → Option Nat}
theorem xs_gets (S : CallFix p m c cc nL s args Ts own) (hK : xs_K D G cl TY NW sd sl s) {i idx : Nat} {C n d : String} {q : xb_S} (h : xb_cst (xb_gS G i) pc 3 L st A = some q) (hd : decode cc pc = .ok (.getstatic idx, 3)) (hsd : sd i = some (C, n, d)) (hlk : Cond.fieldLink own idx C n d ∈ Ts)
    (kk : xs_G D cl p l e R s m args below meth c nL c0 s0 Q q.1 q.2.1 q.2.2.1 q.2.2.2) : xs_G D cl p l e R s m args below meth c nL c0 s0 Q pc L st A := by
  unfold xb_cst at h
  split at h
  · rename_i v hv
    cases h
    obtain ⟨cf, kf, fi, f, a, cell, h1, h2, h3, h4, h5, h6, h7, h8⟩ := hK.2.2.2.1 i C n d v hsd hv
    intro H locs ls hR hl hq
    exact W.gets S.1 S.2.1 S.2.2.2.1 (S.2.2.2.2 _ hlk) h1 h2 h3 h4 (by rw [hR.2.2.1 a h5]; exact h6) (fun z => by rw [z] at h7; cases h7) h8 rfl hd (kk H locs ls hR hl hq)
  · cases h
theorem xs_ldc (S : CallFix p m c cc nL s args Ts own) (hK : xs_K D G cl TY NW sd sl s) {j idx : Nat} {q : xb_S} (h : xb_cst (xb_gC G j) pc 2 L st A = some q) (hd : decode cc pc = .ok (.ldc idx, 2)) (hf : (∃ v : Int32, xb_gC G j = some (.int v) ∧ Cond.constant own idx v ∈ Ts) ∨ sl own idx = some j ∨ (xb_gC G j = some (.ref 21) ∧ Cond.classLink own idx "[Ljava/lang/Object;" ∈ Ts ∧ FieldType.object "java/lang/Object" ∈ TY))
    (kk : xs_G D cl p l e R s m args below meth c nL c0 s0 Q q.1 q.2.1 q.2.2.1 q.2.2.2) : xs_G D cl p l e R s m args below meth c nL c0 s0 Q pc L st A := by
  unfold xb_cst at h
  split at h
  · rename_i v hv
    cases h
    intro H locs ls hR hl hq
    rcases hf with ⟨w, h1, h2⟩ | h1 | ⟨h1, h2, h3⟩
    · cases h1.symm.trans hv
      exact lv_ldc S.1 S.2.1 S.2.2.2.1 (S.2.2.2.2 _ h2) hd (kk H locs ls hR hl hq)
    · obtain ⟨a, tx, g1, g2⟩ := hK.2.2.2.2.1 own idx j h1
      cases g1.symm.trans hv
      exact va_ldcS S.1 S.2.1 S.2.2.2.1 g2 hd (kk H locs ls hR hl hq)
    · cases h1.symm.trans hv
      exact va_ldcM S.1 S.2.1 S.2.2.2.1 (S.2.2.2.2 _ h2) ((hK.2.2.2.2.2.1 _ h3).2 rfl) hd (kk H locs ls hR hl hq)
  · cases h
theorem xs_ldc2 (S : CallFix p m c cc nL s args Ts own) {j idx : Nat} {v : Int64} {q : xb_S} (h : xb_cst (xb_gC G j) pc 3 L st A = some q) (hd : decode cc pc = .ok (.ldc2_w idx, 3)) (hv : xb_gC G j = some (.long v)) (hlk : Cond.constantLong own idx v ∈ Ts)
    (kk : xs_G D cl p l e R s m args below meth c nL c0 s0 Q q.1 q.2.1 q.2.2.1 q.2.2.2) : xs_G D cl p l e R s m args below meth c nL c0 s0 Q pc L st A := by
  rw [hv] at h
  cases h
  intro H locs ls hR hl hq
  exact lv_ldc2 S.1 S.2.1 S.2.2.2.1 (S.2.2.2.2 _ hlk) hd (kk H locs ls hR hl hq)
theorem xs_b1 {b : Bool} {P : Prop} (h : b = true ↔ P) {W1 W2 : Prop} (kt : b = true → W1) (kf : ¬ b = true → W2) : (P → W1) ∧ (¬ P → W2) := ⟨fun z => kt (h.mpr z), fun z => kf (fun y => z (h.mp y))⟩
theorem xs_b0 {P : Prop} (hb : Decidable P) {W1 W2 : Prop} (kt : (!decide P) = true → W1) (kf : ¬ (!decide P) = true → W2) : (¬ P → W1) ∧ (P → W2) := ⟨fun z => kt (by simp [z]), fun z => kf (by simp [z])⟩
theorem xs_lcmp (S : CallFix p m c cc nL s args Ts own) {q : xb_S} (h : xb_lcmpx pc L A st = some q) (hd : decode cc pc = .ok (.lcmp, 1))
    (kk : xs_G D cl p l e R s m args below meth c nL c0 s0 Q q.1 q.2.1 q.2.2.1 q.2.2.2) : xs_G D cl p l e R s m args below meth c nL c0 s0 Q pc L st A := by
  unfold xb_lcmpx at h
  split at h
  · cases h
    intro H locs ls hR hl hq
    exact W.lcmp S.1 S.2.1 hd (kk H locs ls hR hl hq)
  · cases h
theorem xs_i2l (S : CallFix p m c cc nL s args Ts own) {q : xb_S} (h : xb_i2lx pc L A st = some q) (hd : decode cc pc = .ok (.i2l, 1))
    (kk : xs_G D cl p l e R s m args below meth c nL c0 s0 Q q.1 q.2.1 q.2.2.1 q.2.2.2) : xs_G D cl p l e R s m args below meth c nL c0 s0 Q pc L st A := by
  unfold xb_i2lx at h
  split at h
  · cases h
    intro H locs ls hR hl hq
    exact lv_i2l S.1 S.2.1 hd rfl (kk H locs ls hR hl hq)
  · cases h
theorem xs_l2i (S : CallFix p m c cc nL s args Ts own) {q : xb_S} (h : xb_l2ix pc L A st = some q) (hd : decode cc pc = .ok (.l2i, 1))
    (kk : xs_G D cl p l e R s m args below meth c nL c0 s0 Q q.1 q.2.1 q.2.2.1 q.2.2.2) : xs_G D cl p l e R s m args below meth c nL c0 s0 Q pc L st A := by
  unfold xb_l2ix at h
  split at h
  · cases h
    intro H locs ls hR hl hq
    exact lv_l2i S.1 S.2.1 hd rfl (kk H locs ls hR hl hq)
  · cases h
end XS5
