/-! Locals that are not asked for do no harm -/
def xq_L (L : xb_L) (o : Option xb_S) : Option xb_S := match o with
  | some (pc, _, st, A) => some (pc, L, st, A)
  | none => none
theorem xq_i1 (f : Int32 → Int32) (pc : Nat) (L : xb_L) (A : xb_H) (st : List Value) : xb_i1 f pc L A st = xq_L L (xb_i1 f pc [] A st) := by
  unfold xb_i1
  repeat' split
  all_goals first | rfl | (simp_all; done) | (simp_all [xq_L]; done)
theorem xq_i2 (f : Int32 → Int32 → Int32) (pc : Nat) (L : xb_L) (A : xb_H) (st : List Value) : xb_i2 f pc L A st = xq_L L (xb_i2 f pc [] A st) := by
  unfold xb_i2
  repeat' split
  all_goals first | rfl | (simp_all; done) | (simp_all [xq_L]; done)
theorem xq_l2 (f : Int64 → Int64 → Int64) (pc : Nat) (L : xb_L) (A : xb_H) (st : List Value) : xb_l2 f pc L A st = xq_L L (xb_l2 f pc [] A st) := by
  unfold xb_l2
  repeat' split
  all_goals first | rfl | (simp_all; done) | (simp_all [xq_L]; done)
theorem xq_ls (f : Int64 → Int32 → Int64) (pc : Nat) (L : xb_L) (A : xb_H) (st : List Value) : xb_ls f pc L A st = xq_L L (xb_ls f pc [] A st) := by
  unfold xb_ls
  repeat' split
  all_goals first | rfl | (simp_all; done) | (simp_all [xq_L]; done)
theorem xq_j1 (p : Int32 → Bool) (pc t : Nat) (L : xb_L) (A : xb_H) (st : List Value) : xb_j1 p pc t L A st = xq_L L (xb_j1 p pc t [] A st) := by
  unfold xb_j1
  repeat' split
  all_goals first | rfl | (simp_all; done) | (simp_all [xq_L]; done)
theorem xq_j2 (p : Int32 → Int32 → Bool) (pc t : Nat) (L : xb_L) (A : xb_H) (st : List Value) : xb_j2 p pc t L A st = xq_L L (xb_j2 p pc t [] A st) := by
  unfold xb_j2
  repeat' split
  all_goals first | rfl | (simp_all; done) | (simp_all [xq_L]; done)
theorem xq_ja (p : Bool) (pc t : Nat) (L : xb_L) (A : xb_H) (st : List Value) : xb_ja p pc t L A st = xq_L L (xb_ja p pc t [] A st) := by
  unfold xb_ja
  repeat' split
  all_goals first | rfl | (simp_all; done) | (simp_all [xq_L]; done)
theorem xq_jn (p : Bool) (pc t : Nat) (L : xb_L) (A : xb_H) (st : List Value) : xb_jn p pc t L A st = xq_L L (xb_jn p pc t [] A st) := by
  unfold xb_jn
  repeat' split
  all_goals first | rfl | (simp_all; done) | (simp_all [xq_L]; done)
theorem xq_dupx  (pc : Nat) (L : xb_L) (A : xb_H) (st : List Value) : xb_dupx pc L A st = xq_L L (xb_dupx pc [] A st) := by
  unfold xb_dupx
  repeat' split
  all_goals first | rfl | (simp_all; done) | (simp_all [xq_L]; done)
theorem xq_popx  (pc : Nat) (L : xb_L) (A : xb_H) (st : List Value) : xb_popx pc L A st = xq_L L (xb_popx pc [] A st) := by
  unfold xb_popx
  repeat' split
  all_goals first | rfl | (simp_all; done) | (simp_all [xq_L]; done)
theorem xq_dupx1  (pc : Nat) (L : xb_L) (A : xb_H) (st : List Value) : xb_dupx1 pc L A st = xq_L L (xb_dupx1 pc [] A st) := by
  unfold xb_dupx1
  repeat' split
  all_goals first | rfl | (simp_all; done) | (simp_all [xq_L]; done)
theorem xq_dupx2  (pc : Nat) (L : xb_L) (A : xb_H) (st : List Value) : xb_dupx2 pc L A st = xq_L L (xb_dupx2 pc [] A st) := by
  unfold xb_dupx2
  repeat' split
  all_goals first | rfl | (simp_all; done) | (simp_all [xq_L]; done)
theorem xq_dup2x  (pc : Nat) (L : xb_L) (A : xb_H) (st : List Value) : xb_dup2x pc L A st = xq_L L (xb_dup2x pc [] A st) := by
  unfold xb_dup2x
  repeat' split
  all_goals first | rfl | (simp_all; done) | (simp_all [xq_L]; done)
theorem xq_getx  (pc k i : Nat) (L : xb_L) (A : xb_H) (st : List Value) : xb_getx pc k i L A st = xq_L L (xb_getx pc k i [] A st) := by
  unfold xb_getx
  repeat' split
  all_goals first | rfl | (simp_all; done) | (simp_all [xq_L]; done)
theorem xq_putx (T : Nat → List FieldType) (pc k i : Nat) (L : xb_L) (A : xb_H) (st : List Value) : xb_putx T pc k i L A st = xq_L L (xb_putx T pc k i [] A st) := by
  unfold xb_putx
  repeat' split
  all_goals first | rfl | (simp_all; done) | (simp_all [xq_L]; done)
theorem xq_newax (t : FieldType) (pc len : Nat) (L : xb_L) (A : xb_H) (st : List Value) : xb_newax t pc len L A st = xq_L L (xb_newax t pc len [] A st) := by
  unfold xb_newax
  repeat' split
  all_goals first | rfl | (simp_all; done) | (simp_all [xq_L]; done)
theorem xq_alenx  (pc : Nat) (L : xb_L) (A : xb_H) (st : List Value) : xb_alenx pc L A st = xq_L L (xb_alenx pc [] A st) := by
  unfold xb_alenx
  repeat' split
  all_goals first | rfl | (simp_all; done) | (simp_all [xq_L]; done)
theorem xq_ial (ok : FieldType → Bool) (pc : Nat) (L : xb_L) (A : xb_H) (st : List Value) : xb_ial ok pc L A st = xq_L L (xb_ial ok pc [] A st) := by
  unfold xb_ial
  repeat' split
  all_goals first | rfl | (simp_all; done) | (simp_all [xq_L]; done)
theorem xq_lal  (pc : Nat) (L : xb_L) (A : xb_H) (st : List Value) : xb_lal pc L A st = xq_L L (xb_lal pc [] A st) := by
  unfold xb_lal
  repeat' split
  all_goals first | rfl | (simp_all; done) | (simp_all [xq_L]; done)
theorem xq_aal  (pc : Nat) (L : xb_L) (A : xb_H) (st : List Value) : xb_aal pc L A st = xq_L L (xb_aal pc [] A st) := by
  unfold xb_aal
  repeat' split
  all_goals first | rfl | (simp_all; done) | (simp_all [xq_L]; done)
theorem xq_ias (ok : FieldType → Bool) (pc : Nat) (L : xb_L) (A : xb_H) (st : List Value) : xb_ias ok pc L A st = xq_L L (xb_ias ok pc [] A st) := by
  unfold xb_ias
  repeat' split
  all_goals first | rfl | (simp_all; done) | (simp_all [xq_L]; done)
theorem xq_las  (pc : Nat) (L : xb_L) (A : xb_H) (st : List Value) : xb_las pc L A st = xq_L L (xb_las pc [] A st) := by
  unfold xb_las
  repeat' split
  all_goals first | rfl | (simp_all; done) | (simp_all [xq_L]; done)
theorem xq_aas (into : FieldType → Nat → Bool) (pc : Nat) (L : xb_L) (A : xb_H) (st : List Value) : xb_aas into pc L A st = xq_L L (xb_aas into pc [] A st) := by
  unfold xb_aas
  repeat' split
  all_goals first | rfl | (simp_all; done) | (simp_all [xq_L]; done)
theorem xq_castx (ok : Nat → Bool) (pc : Nat) (L : xb_L) (A : xb_H) (st : List Value) : xb_castx ok pc L A st = xq_L L (xb_castx ok pc [] A st) := by
  unfold xb_castx
  repeat' split
  all_goals first | rfl | (simp_all; done) | (simp_all [xq_L]; done)
theorem xq_instx (ok : Nat → Bool) (pc : Nat) (L : xb_L) (A : xb_H) (st : List Value) : xb_instx ok pc L A st = xq_L L (xb_instx ok pc [] A st) := by
  unfold xb_instx
  repeat' split
  all_goals first | rfl | (simp_all; done) | (simp_all [xq_L]; done)
theorem xq_lcmpx  (pc : Nat) (L : xb_L) (A : xb_H) (st : List Value) : xb_lcmpx pc L A st = xq_L L (xb_lcmpx pc [] A st) := by
  unfold xb_lcmpx
  repeat' split
  all_goals first | rfl | (simp_all; done) | (simp_all [xq_L]; done)
theorem xq_i2lx  (pc : Nat) (L : xb_L) (A : xb_H) (st : List Value) : xb_i2lx pc L A st = xq_L L (xb_i2lx pc [] A st) := by
  unfold xb_i2lx
  repeat' split
  all_goals first | rfl | (simp_all; done) | (simp_all [xq_L]; done)
theorem xq_l2ix  (pc : Nat) (L : xb_L) (A : xb_H) (st : List Value) : xb_l2ix pc L A st = xq_L L (xb_l2ix pc [] A st) := by
  unfold xb_l2ix
  repeat' split
  all_goals first | rfl | (simp_all; done) | (simp_all [xq_L]; done)
theorem xq_divx (f : Int32 → Int32 → Int32) (pc : Nat) (L : xb_L) (A : xb_H) (st : List Value) : xb_divx f pc L A st = xq_L L (xb_divx f pc [] A st) := by
  unfold xb_divx
  repeat' split
  all_goals first | rfl | (simp_all; done) | (simp_all [xq_L]; done)
theorem xq_lookx (d : Int) (ps : Array (Int × Int)) (pc : Nat) (L : xb_L) (A : xb_H) (st : List Value) : xb_lookx d ps pc L A st = xq_L L (xb_lookx d ps pc [] A st) := by
  unfold xb_lookx
  repeat' split
  all_goals first | rfl | (simp_all; done) | (simp_all [xq_L]; done)
theorem xq_tabx (d lo hi : Int) (os : Array Int) (pc : Nat) (L : xb_L) (A : xb_H) (st : List Value) : xb_tabx d lo hi os pc L A st = xq_L L (xb_tabx d lo hi os pc [] A st) := by
  unfold xb_tabx
  repeat' split
  all_goals first | rfl | (simp_all; done) | (simp_all [xq_L]; done)
theorem xq_objx  (d pc : Nat) (L : xb_L) (A : xb_H) (st : List Value) : xb_objx d pc L A st = xq_L L (xb_objx d pc [] A st) := by
  unfold xb_objx
  repeat' split
  all_goals first | rfl | (simp_all; done) | (simp_all [xq_L]; done)
theorem xq_cpyx  (d pc : Nat) (L : xb_L) (A : xb_H) (st : List Value) : xb_cpyx d pc L A st = xq_L L (xb_cpyx d pc [] A st) := by
  unfold xb_cpyx
  repeat' split
  all_goals first | rfl | (simp_all; done) | (simp_all [xq_L]; done)
theorem xq_cpyo  (d pc : Nat) (L : xb_L) (A : xb_H) (st : List Value) : xb_cpyo d pc L A st = xq_L L (xb_cpyo d pc [] A st) := by
  unfold xb_cpyo
  repeat' split
  all_goals first | rfl | (simp_all; done) | (simp_all [xq_L]; done)
theorem xq_clnx  (d pc : Nat) (L : xb_L) (A : xb_H) (st : List Value) : xb_clnx d pc L A st = xq_L L (xb_clnx d pc [] A st) := by
  unfold xb_clnx
  repeat' split
  all_goals first | rfl | (simp_all; done) | (simp_all [xq_L]; done)
theorem xq_gclx  (d pc : Nat) (L : xb_L) (A : xb_H) (st : List Value) : xb_gclx d pc L A st = xq_L L (xb_gclx d pc [] A st) := by
  unfold xb_gclx
  repeat' split
  all_goals first | rfl | (simp_all; done) | (simp_all [xq_L]; done)
theorem xq_mmx (mx : Bool) (d pc : Nat) (L : xb_L) (A : xb_H) (st : List Value) : xb_mmx mx d pc L A st = xq_L L (xb_mmx mx d pc [] A st) := by
  unfold xb_mmx
  repeat' split
  all_goals first | rfl | (simp_all; done) | (simp_all [xq_L]; done)
/-- fewer locals, each with one value -/
def xle (L L' : xb_L) : Prop := (L.map fun q => q.1).Nodup ∧ ∀ (i : Nat) (v : Value), xb_ld L i = some v → xb_ld L' i = some v
theorem xq_lk : ∀ (L : xb_L) (i : Nat) (v : Value), xb_ld L i = some v → (i, v) ∈ L := by
  intro L
  induction L with
  | nil => intro i v h; cases h
  | cons q L ih =>
    obtain ⟨k, u⟩ := q
    intro i v h
    unfold xb_ld at h ih
    rw [List.lookup_cons] at h
    by_cases e : i = k
    · rw [e, beq_self_eq_true] at h
      cases h
      rw [e]
      exact List.mem_cons_self
    · rw [beq_false_of_ne e] at h
      exact List.mem_cons_of_mem _ (ih i v h)
theorem xq_lk2 : ∀ (L : xb_L) (i : Nat) (v : Value), (L.map fun q => q.1).Nodup → (i, v) ∈ L → xb_ld L i = some v := by
  intro L
  induction L with
  | nil => intro i v _ h; exact absurd h List.not_mem_nil
  | cons q L ih =>
    obtain ⟨k, u⟩ := q
    intro i v hn h
    rw [List.map_cons, List.nodup_cons] at hn
    unfold xb_ld at ih ⊢
    rw [List.lookup_cons]
    rcases List.mem_cons.mp h with h | h
    · cases h
      rw [beq_self_eq_true]
    · have e : ¬ i = k := by
        intro e
        exact hn.1 (List.mem_map.mpr ⟨(i, v), h, e⟩)
      rw [beq_false_of_ne e]
      exact ih i v hn.2 h
theorem xq_flt (p : Nat × Value → Bool) : ∀ (L : xb_L) (i : Nat) (v : Value), xb_ld L i = some v → p (i, v) = true → xb_ld (L.filter p) i = some v := by
  intro L
  induction L with
  | nil => intro i v h; cases h
  | cons q L ih =>
    obtain ⟨k, u⟩ := q
    intro i v h hp
    unfold xb_ld at h ih ⊢
    rw [List.lookup_cons] at h
    by_cases e : i = k
    · rw [e, beq_self_eq_true] at h
      cases h
      rw [e] at hp ⊢
      rw [List.filter_cons_of_pos hp, List.lookup_cons, beq_self_eq_true]
    · rw [beq_false_of_ne e] at h
      by_cases hq : p (k, u) = true
      · rw [List.filter_cons_of_pos hq, List.lookup_cons, beq_false_of_ne e]
        exact ih i v h hp
      · rw [List.filter_cons_of_neg hq]
        exact ih i v h hp
theorem xle_put {L L' : xb_L} (h : xle L L') (p : Nat × Value → Bool) (i : Nat) (v : Value) (hp : ∀ u, p (i, u) = false) : xle ((i, v) :: L.filter p) ((i, v) :: L'.filter p) := by
  have hn : ((L.filter p).map fun q => q.1).Nodup := (List.filter_sublist.map _).nodup h.1
  refine ⟨?_, fun j w hj => ?_⟩
  · rw [List.map_cons, List.nodup_cons]
    refine ⟨fun hm => ?_, hn⟩
    obtain ⟨⟨k, u⟩, h1, h2⟩ := List.mem_map.mp hm
    have h3 := (List.mem_filter.mp h1).2
    dsimp only at h2
    rw [h2, hp] at h3
    cases h3
  · unfold xb_ld at hj ⊢
    rw [List.lookup_cons] at hj ⊢
    by_cases e : j = i
    · rw [e, beq_self_eq_true] at hj ⊢
      exact hj
    · rw [beq_false_of_ne e] at hj ⊢
      have m := xq_lk _ _ _ hj
      obtain ⟨m1, m2⟩ := List.mem_filter.mp m
      exact xq_flt p L' j w (h.2 j w (xq_lk2 L j w h.1 m1)) m2
theorem xle_st {L L' : xb_L} (h : xle L L') (i : Nat) (v : Value) : xle (xb_st L i v) (xb_st L' i v) := xle_put h _ i v (fun u => by rw [beq_self_eq_true]; rfl)
theorem xle_st2 {L L' : xb_L} (h : xle L L') (i : Nat) (v : Value) : xle (xb_st2 L i v) (xb_st2 L' i v) := xle_put h _ i v (fun u => by rw [beq_self_eq_true]; rfl)
/-- what follows from a step with fewer locals -/
def xq_mo (L L' : xb_L) (o o' : Option xb_S) : Prop := ∀ (pc : Nat) (L1 : xb_L) (st : List Value) (A : xb_H), o = some (pc, L1, st, A) → ∃ L1', o' = some (pc, L1', st, A) ∧ xle L1 L1'
theorem xq_thru {L L' : xb_L} {o o' z : Option xb_S} (h : xle L L') (h1 : o = xq_L L z) (h2 : o' = xq_L L' z) : xq_mo L L' o o' := by
  intro pc L1 st A e
  rw [h1] at e
  rw [h2]
  cases z with
  | none => cases e
  | some z =>
    obtain ⟨a, b, c, f⟩ := z
    cases e
    exact ⟨L', rfl, h⟩
theorem xq_ild {L L' : xb_L} (h : xle L L') (pc n i : Nat) (A : xb_H) (st : List Value) : xq_mo L L' (xb_ildx pc n i L A st) (xb_ildx pc n i L' A st) := by
  intro pc' L1 st' A' e
  unfold xb_ildx at e ⊢
  split at e
  · rename_i x hx
    cases e
    rw [h.2 _ _ hx]
    exact ⟨L', rfl, h⟩
  · cases e
theorem xq_lld {L L' : xb_L} (h : xle L L') (pc n i : Nat) (A : xb_H) (st : List Value) : xq_mo L L' (xb_lldx pc n i L A st) (xb_lldx pc n i L' A st) := by
  intro pc' L1 st' A' e
  unfold xb_lldx at e ⊢
  split at e
  · rename_i x hx
    cases e
    rw [h.2 _ _ hx]
    exact ⟨L', rfl, h⟩
  · cases e
theorem xq_ald {L L' : xb_L} (h : xle L L') (pc n i : Nat) (A : xb_H) (st : List Value) : xq_mo L L' (xb_aldx pc n i L A st) (xb_aldx pc n i L' A st) := by
  intro pc' L1 st' A' e
  unfold xb_aldx at e ⊢
  split at e
  · rename_i x hx
    cases e
    rw [h.2 _ _ hx]
    exact ⟨L', rfl, h⟩
  · rename_i hx
    cases e
    rw [h.2 _ _ hx]
    exact ⟨L', rfl, h⟩
  · cases e
theorem xq_iinc {L L' : xb_L} (h : xle L L') (pc i : Nat) (n : Int) (A : xb_H) (st : List Value) : xq_mo L L' (xb_iincx pc i n L A st) (xb_iincx pc i n L' A st) := by
  intro pc' L1 st' A' e
  unfold xb_iincx at e ⊢
  split at e
  · rename_i x hx
    cases e
    rw [h.2 _ _ hx]
    exact ⟨_, rfl, xle_st h _ _⟩
  · cases e
theorem xq_ist {L L' : xb_L} (h : xle L L') (pc n i : Nat) (A : xb_H) (st : List Value) : xq_mo L L' (xb_istx pc n i L A st) (xb_istx pc n i L' A st) := by
  intro pc' L1 st' A' e
  unfold xb_istx at e ⊢
  split at e
  · cases e
    exact ⟨_, rfl, xle_st h _ _⟩
  · cases e
theorem xq_lst {L L' : xb_L} (h : xle L L') (pc n i : Nat) (A : xb_H) (st : List Value) : xq_mo L L' (xb_lstx pc n i L A st) (xb_lstx pc n i L' A st) := by
  intro pc' L1 st' A' e
  unfold xb_lstx at e ⊢
  split at e
  · cases e
    exact ⟨_, rfl, xle_st2 h _ _⟩
  · cases e
theorem xq_ast {L L' : xb_L} (h : xle L L') (pc n i : Nat) (A : xb_H) (st : List Value) : xq_mo L L' (xb_astx pc n i L A st) (xb_astx pc n i L' A st) := by
  intro pc' L1 st' A' e
  unfold xb_astx at e ⊢
  split at e
  · cases e
    exact ⟨_, rfl, xle_st h _ _⟩
  · cases e
    exact ⟨_, rfl, xle_st h _ _⟩
  · cases e
theorem xq_cst {L L' : xb_L} (h : xle L L') (o : Option Value) (pc n : Nat) (st : List Value) (A : xb_H) : xq_mo L L' (xb_cst o pc n L st A) (xb_cst o pc n L' st A) := by
  intro pc' L1 st' A' e
  unfold xb_cst at e ⊢
  split at e
  · cases e
    exact ⟨L', rfl, h⟩
  · cases e
theorem xq_s {L L' : xb_L} (h : xle L L') (pc : Nat) (st : List Value) (A : xb_H) : xq_mo L L' (some (pc, L, st, A)) (some (pc, L', st, A)) := by
  intro pc' L1 st' A' e
  cases e
  exact ⟨L', rfl, h⟩
theorem xq_none {L L' : xb_L} {o : Option xb_S} : xq_mo L L' none o := fun _ _ _ _ e => by cases e
theorem xq_pure {G : xb_G} {q : xb_I} {L L' : xb_L} (h : xle L L') (pc : Nat) (st : List Value) (A : xb_H) : xq_mo L L' (xb_pure G q pc L st A) (xb_pure G q pc L' st A) := by
  unfold xb_pure
  split
  all_goals first
    | exact xq_none
    | exact xq_s h _ _ _
    | exact xq_ild h _ _ _ _ _
    | exact xq_lld h _ _ _ _ _
    | exact xq_ald h _ _ _ _ _
    | exact xq_ist h _ _ _ _ _
    | exact xq_lst h _ _ _ _ _
    | exact xq_ast h _ _ _ _ _
    | exact xq_iinc h _ _ _ _ _
    | exact xq_cst h _ _ _ _ _
    | exact xq_thru h (xq_i1 _ _ _ _ _) (xq_i1 _ _ _ _ _)
    | exact xq_thru h (xq_i2 _ _ _ _ _) (xq_i2 _ _ _ _ _)
    | exact xq_thru h (xq_l2 _ _ _ _ _) (xq_l2 _ _ _ _ _)
    | exact xq_thru h (xq_ls _ _ _ _ _) (xq_ls _ _ _ _ _)
    | exact xq_thru h (xq_j1 _ _ _ _ _ _) (xq_j1 _ _ _ _ _ _)
    | exact xq_thru h (xq_j2 _ _ _ _ _ _) (xq_j2 _ _ _ _ _ _)
    | exact xq_thru h (xq_ja _ _ _ _ _ _) (xq_ja _ _ _ _ _ _)
    | exact xq_thru h (xq_jn _ _ _ _ _ _) (xq_jn _ _ _ _ _ _)
    | exact xq_thru h (xq_dupx _ _ _ _) (xq_dupx _ _ _ _)
    | exact xq_thru h (xq_popx _ _ _ _) (xq_popx _ _ _ _)
    | exact xq_thru h (xq_dupx1 _ _ _ _) (xq_dupx1 _ _ _ _)
    | exact xq_thru h (xq_dupx2 _ _ _ _) (xq_dupx2 _ _ _ _)
    | exact xq_thru h (xq_dup2x _ _ _ _) (xq_dup2x _ _ _ _)
    | exact xq_thru h (xq_getx _ _ _ _ _ _) (xq_getx _ _ _ _ _ _)
    | exact xq_thru h (xq_putx _ _ _ _ _ _ _) (xq_putx _ _ _ _ _ _ _)
    | exact xq_thru h (xq_newax _ _ _ _ _ _) (xq_newax _ _ _ _ _ _)
    | exact xq_thru h (xq_alenx _ _ _ _) (xq_alenx _ _ _ _)
    | exact xq_thru h (xq_ial _ _ _ _ _) (xq_ial _ _ _ _ _)
    | exact xq_thru h (xq_lal _ _ _ _) (xq_lal _ _ _ _)
    | exact xq_thru h (xq_aal _ _ _ _) (xq_aal _ _ _ _)
    | exact xq_thru h (xq_ias _ _ _ _ _) (xq_ias _ _ _ _ _)
    | exact xq_thru h (xq_las _ _ _ _) (xq_las _ _ _ _)
    | exact xq_thru h (xq_aas _ _ _ _ _) (xq_aas _ _ _ _ _)
    | exact xq_thru h (xq_castx _ _ _ _ _) (xq_castx _ _ _ _ _)
    | exact xq_thru h (xq_instx _ _ _ _ _) (xq_instx _ _ _ _ _)
    | exact xq_thru h (xq_lcmpx _ _ _ _) (xq_lcmpx _ _ _ _)
    | exact xq_thru h (xq_i2lx _ _ _ _) (xq_i2lx _ _ _ _)
    | exact xq_thru h (xq_l2ix _ _ _ _) (xq_l2ix _ _ _ _)
    | exact xq_thru h (xq_divx _ _ _ _ _) (xq_divx _ _ _ _ _)
    | exact xq_thru h (xq_lookx _ _ _ _ _ _) (xq_lookx _ _ _ _ _ _)
    | exact xq_thru h (xq_tabx _ _ _ _ _ _ _ _) (xq_tabx _ _ _ _ _ _ _ _)
    | exact xq_s h _ _ _
theorem xq_bix {i : Instr} {k d : Nat} {L L' : xb_L} (h : xle L L') (pc : Nat) (A : xb_H) (st : List Value) : xq_mo L L' (xb_bix i k d pc L A st) (xb_bix i k d pc L' A st) := by
  unfold xb_bix
  split
  · exact xq_thru h (xq_objx _ _ _ _ _) (xq_objx _ _ _ _ _)
  · repeat' split
    · exact xq_thru h (xq_cpyx _ _ _ _ _) (xq_cpyx _ _ _ _ _)
    · exact xq_thru h (xq_mmx _ _ _ _ _ _) (xq_mmx _ _ _ _ _ _)
    · exact xq_thru h (xq_mmx _ _ _ _ _ _) (xq_mmx _ _ _ _ _ _)
    · exact xq_thru h (xq_cpyo _ _ _ _ _) (xq_cpyo _ _ _ _ _)
    · exact xq_none
  · repeat' split
    · exact xq_thru h (xq_clnx _ _ _ _ _) (xq_clnx _ _ _ _ _)
    · exact xq_thru h (xq_gclx _ _ _ _ _) (xq_gclx _ _ _ _ _)
    · exact xq_none
  · exact xq_none
theorem xq_run {G : xb_G} : ∀ (n d y pc : Nat) (L L' : xb_L) (st : List Value) (A : xb_H) (o : xb_R × xb_H), xle L L' → xb_run G n d y pc L st A = some o → xb_run G n d y pc L' st A = some o := by
  intro n
  induction n with
  | zero => intro d y pc L L' st A o _ h; cases h
  | succ n ih =>
    intro d y pc L L' st A o hL h
    rw [xb_run] at h ⊢
    cases hq : xb_gP G y pc with
    | none => rw [hq] at h; cases h
    | some q =>
      rw [hq] at h
      dsimp only at h ⊢
      split at h
      · cases hp : xb_pure G q pc L st A with
        | none => rw [hp] at h; cases h
        | some r =>
          obtain ⟨pc', L1, st', A'⟩ := r
          rw [hp] at h
          obtain ⟨L1', e1, e2⟩ := xq_pure hL pc st A pc' L1 st' A' hp
          rw [e1]
          exact ih _ _ _ _ _ _ _ _ e2 h
      · exact h
      · exact h
      · exact h
      · exact h
      · by_cases hz : q.2.2.1 = 0
        · rw [if_pos hz] at h ⊢
          cases hp : xb_bix q.1 q.2.2.2 d pc L A st with
          | none => rw [hp] at h; cases h
          | some r =>
            obtain ⟨pc', L1, st', A'⟩ := r
            rw [hp] at h
            obtain ⟨L1', e1, e2⟩ := xq_bix hL pc A st pc' L1 st' A' hp
            rw [e1]
            exact ih _ _ _ _ _ _ _ _ e2 h
        · rw [if_neg hz] at h ⊢
          split at h
          · split at h
            · rename_i hr
              rw [if_pos hr]
              split at h
              · exact ih _ _ _ _ _ _ _ _ hL h
              · cases h
            · cases h
          · cases h
      · by_cases hz : q.2.2.2 = 0
        · rw [if_pos hz] at h ⊢
          cases hp : xb_pure G q pc L st A with
          | none => rw [hp] at h; cases h
          | some r =>
            obtain ⟨pc', L1, st', A'⟩ := r
            rw [hp] at h
            obtain ⟨L1', e1, e2⟩ := xq_pure hL pc st A pc' L1 st' A' hp
            rw [e1]
            exact ih _ _ _ _ _ _ _ _ e2 h
        · rw [if_neg hz] at h ⊢
          exact h
/-- locals that are not asked for may be there -/
theorem xr_le {G : xb_G} {d y pc : Nat} {L L' : xb_L} {st : List Value} {A : xb_H} {Q : xb_R → xb_H → Prop} (h : xle L L') (k : xr_ok G d y pc L st A Q) : xr_ok G d y pc L' st A Q := by
  obtain ⟨n, o, A', h1, h2⟩ := k
  exact ⟨n, o, A', xq_run n d y pc L L' st A _ h h1, h2⟩
theorem xle_of (L L' : xb_L) (h1 : (L.map fun q => q.1).Nodup) (h2 : ∀ q ∈ L, xb_ld L' q.1 = some q.2) : xle L L' := ⟨h1, fun i v h => h2 (i, v) (xq_lk _ _ _ h)⟩
def xle_all : xb_L → xb_L → Prop
  | [], _ => True
  | q :: L, L' => xb_ld L' q.1 = some q.2 ∧ xle_all L L'
theorem xle_in : ∀ (L L' : xb_L), xle_all L L' → ∀ q ∈ L, xb_ld L' q.1 = some q.2 := by
  intro L
  induction L with
  | nil => intro L' _ q hq; exact absurd hq List.not_mem_nil
  | cons a L ih =>
    intro L' h q hq
    rcases List.mem_cons.mp hq with rfl | hq
    · exact h.1
    · exact ih L' h.2 q hq
theorem xr_loc {G : xb_G} {d y pc : Nat} {L L' : xb_L} {st : List Value} {A : xb_H} {Q : xb_R → xb_H → Prop} (h1 : (L.map fun q => q.1).Nodup) (h2 : xle_all L L') (k : xr_ok G d y pc L st A Q) : xr_ok G d y pc L' st A Q := xr_le (xle_of L L' h1 (xle_in L L' h2)) k
