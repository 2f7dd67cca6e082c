/-! A run with some old cells left out is a run with them -/
def xb_ov (A : xb_H) (X : Nat → Option xb_O) : xb_H := (A.1, A.2.1, fun a => match A.2.2 a with
  | some o => some o
  | none => X a)
theorem xo_get {A : xb_H} {X : Nat → Option xb_O} {a : Nat} {o : xb_O} (h : xb_get A a = some o) : xb_get (xb_ov A X) a = some o := by
  have hlt := xb_get_lt h
  unfold xb_get at h ⊢
  rw [if_pos hlt] at h
  have e : (xb_ov A X).1 = A.1 := rfl
  rw [e, if_pos hlt]
  show (match A.2.2 a with | some o => some o | none => X a) = some o
  rw [h]
theorem xo_set (A : xb_H) (X : Nat → Option xb_O) (a : Nat) (o : xb_O) : xb_set (xb_ov A X) a o = xb_ov (xb_set A a o) X := by
  unfold xb_set xb_ov
  simp only [Prod.mk.injEq, true_and]
  funext x
  by_cases h : x = a
  · simp [h]
  · simp [h]
theorem xo_new (A : xb_H) (X : Nat → Option xb_O) (n : Nat) (o : xb_O) : xb_new (xb_ov A X) n o = xb_ov (xb_new A n o) X := by
  unfold xb_new xb_ov
  simp only [Prod.mk.injEq, true_and]
  funext x
  by_cases h : x = A.1
  · simp [h]
  · simp [h]
theorem xo_thr (A : xb_H) (X : Nat → Option xb_O) (hX : ∀ a, 64 ≤ a → X a = none) (hA : 64 ≤ A.1) : xb_thr (xb_ov A X) = xb_ov (xb_thr A) X := by
  unfold xb_thr xb_ov
  simp only [Prod.mk.injEq, true_and]
  funext x
  by_cases h : x = A.1
  · simp [h, hX _ hA]
  · simp [h]
/-- the heap is only handed on -/
def xo_P (F : xb_H → Option xb_S) : Prop := ∀ (A : xb_H) (r : xb_S), F A = some r → r.2.2.2 = A ∧ ∀ B, F B = some (r.1, r.2.1, r.2.2.1, B)
section XO
variable {pc n i t : Nat} {L : xb_L} {st : List Value}
theorem xo_i1 {f : Int32 → Int32} : xo_P (fun A => xb_i1 f pc L A st) := by
  intro A r h
  dsimp only at h ⊢
  unfold xb_i1 at h ⊢
  split at h <;> first | (cases h; exact ⟨rfl, fun _ => rfl⟩) | (cases h; done) | skip
theorem xo_i2 {f : Int32 → Int32 → Int32} : xo_P (fun A => xb_i2 f pc L A st) := by
  intro A r h
  dsimp only at h ⊢
  unfold xb_i2 at h ⊢
  split at h <;> first | (cases h; exact ⟨rfl, fun _ => rfl⟩) | (cases h; done) | skip
theorem xo_l2 {f : Int64 → Int64 → Int64} : xo_P (fun A => xb_l2 f pc L A st) := by
  intro A r h
  dsimp only at h ⊢
  unfold xb_l2 at h ⊢
  split at h <;> first | (cases h; exact ⟨rfl, fun _ => rfl⟩) | (cases h; done) | skip
theorem xo_ls {f : Int64 → Int32 → Int64} : xo_P (fun A => xb_ls f pc L A st) := by
  intro A r h
  dsimp only at h ⊢
  unfold xb_ls at h ⊢
  split at h <;> first | (cases h; exact ⟨rfl, fun _ => rfl⟩) | (cases h; done) | skip
theorem xo_j1 {f : Int32 → Bool} : xo_P (fun A => xb_j1 f pc t L A st) := by
  intro A r h
  dsimp only at h ⊢
  unfold xb_j1 at h ⊢
  split at h <;> first | (cases h; exact ⟨rfl, fun _ => rfl⟩) | (cases h; done) | skip
theorem xo_j2 {f : Int32 → Int32 → Bool} : xo_P (fun A => xb_j2 f pc t L A st) := by
  intro A r h
  dsimp only at h ⊢
  unfold xb_j2 at h ⊢
  split at h <;> first | (cases h; exact ⟨rfl, fun _ => rfl⟩) | (cases h; done) | skip
theorem xo_jn {f : Bool} : xo_P (fun A => xb_jn f pc t L A st) := by
  intro A r h
  dsimp only at h ⊢
  unfold xb_jn at h ⊢
  split at h <;> first | (cases h; exact ⟨rfl, fun _ => rfl⟩) | (cases h; done) | skip
theorem xo_ildx : xo_P (fun A => xb_ildx pc n i L A st) := by
  intro A r h
  dsimp only at h ⊢
  unfold xb_ildx at h ⊢
  split at h <;> first | (cases h; exact ⟨rfl, fun _ => rfl⟩) | (cases h; done) | skip
theorem xo_lldx : xo_P (fun A => xb_lldx pc n i L A st) := by
  intro A r h
  dsimp only at h ⊢
  unfold xb_lldx at h ⊢
  split at h <;> first | (cases h; exact ⟨rfl, fun _ => rfl⟩) | (cases h; done) | skip
theorem xo_aldx : xo_P (fun A => xb_aldx pc n i L A st) := by
  intro A r h
  dsimp only at h ⊢
  unfold xb_aldx at h ⊢
  split at h <;> first | (cases h; exact ⟨rfl, fun _ => rfl⟩) | (cases h; done) | skip
theorem xo_istx : xo_P (fun A => xb_istx pc n i L A st) := by
  intro A r h
  dsimp only at h ⊢
  unfold xb_istx at h ⊢
  split at h <;> first | (cases h; exact ⟨rfl, fun _ => rfl⟩) | (cases h; done) | skip
theorem xo_lstx : xo_P (fun A => xb_lstx pc n i L A st) := by
  intro A r h
  dsimp only at h ⊢
  unfold xb_lstx at h ⊢
  split at h <;> first | (cases h; exact ⟨rfl, fun _ => rfl⟩) | (cases h; done) | skip
theorem xo_astx : xo_P (fun A => xb_astx pc n i L A st) := by
  intro A r h
  dsimp only at h ⊢
  unfold xb_astx at h ⊢
  split at h <;> first | (cases h; exact ⟨rfl, fun _ => rfl⟩) | (cases h; done) | skip
theorem xo_iincx {z : Int} : xo_P (fun A => xb_iincx pc i z L A st) := by
  intro A r h
  dsimp only at h ⊢
  unfold xb_iincx at h ⊢
  split at h <;> first | (cases h; exact ⟨rfl, fun _ => rfl⟩) | (cases h; done) | skip
theorem xo_dupx : xo_P (fun A => xb_dupx pc L A st) := by
  intro A r h
  dsimp only at h ⊢
  unfold xb_dupx at h ⊢
  split at h <;> first | (cases h; exact ⟨rfl, fun _ => rfl⟩) | (cases h; done) | skip
  all_goals
    split at h
    · rename_i hc
      cases h
      exact ⟨rfl, fun B => if_pos hc⟩
    · cases h
theorem xo_popx : xo_P (fun A => xb_popx pc L A st) := by
  intro A r h
  dsimp only at h ⊢
  unfold xb_popx at h ⊢
  split at h <;> first | (cases h; exact ⟨rfl, fun _ => rfl⟩) | (cases h; done) | skip
  all_goals
    split at h
    · rename_i hc
      cases h
      exact ⟨rfl, fun B => if_pos hc⟩
    · cases h
theorem xo_dupx1 : xo_P (fun A => xb_dupx1 pc L A st) := by
  intro A r h
  dsimp only at h ⊢
  unfold xb_dupx1 at h ⊢
  split at h <;> first | (cases h; exact ⟨rfl, fun _ => rfl⟩) | (cases h; done) | skip
  all_goals
    split at h
    · rename_i hc
      cases h
      exact ⟨rfl, fun B => if_pos hc⟩
    · cases h
theorem xo_dupx2 : xo_P (fun A => xb_dupx2 pc L A st) := by
  intro A r h
  dsimp only at h ⊢
  unfold xb_dupx2 at h ⊢
  split at h <;> first | (cases h; exact ⟨rfl, fun _ => rfl⟩) | (cases h; done) | skip
  all_goals
    split at h
    · rename_i hc
      cases h
      exact ⟨rfl, fun B => if_pos hc⟩
    · cases h
theorem xo_dup2x : xo_P (fun A => xb_dup2x pc L A st) := by
  intro A r h
  dsimp only at h ⊢
  unfold xb_dup2x at h ⊢
  split at h <;> first | (cases h; exact ⟨rfl, fun _ => rfl⟩) | (cases h; done) | skip
  all_goals
    split at h
    · rename_i hc
      cases h
      exact ⟨rfl, fun B => if_pos hc⟩
    · cases h
theorem xo_cst {o : Option Value} : xo_P (fun A => xb_cst o pc n L st A) := by
  intro A r h
  dsimp only at h ⊢
  unfold xb_cst at h ⊢
  split at h <;> first | (cases h; exact ⟨rfl, fun _ => rfl⟩) | (cases h; done) | skip
theorem xo_lcmpx : xo_P (fun A => xb_lcmpx pc L A st) := by
  intro A r h
  dsimp only at h ⊢
  unfold xb_lcmpx at h ⊢
  split at h <;> first | (cases h; exact ⟨rfl, fun _ => rfl⟩) | (cases h; done) | skip
theorem xo_i2lx : xo_P (fun A => xb_i2lx pc L A st) := by
  intro A r h
  dsimp only at h ⊢
  unfold xb_i2lx at h ⊢
  split at h <;> first | (cases h; exact ⟨rfl, fun _ => rfl⟩) | (cases h; done) | skip
theorem xo_l2ix : xo_P (fun A => xb_l2ix pc L A st) := by
  intro A r h
  dsimp only at h ⊢
  unfold xb_l2ix at h ⊢
  split at h <;> first | (cases h; exact ⟨rfl, fun _ => rfl⟩) | (cases h; done) | skip
theorem xo_divx {f : Int32 → Int32 → Int32} : xo_P (fun A => xb_divx f pc L A st) := by
  intro A r h
  dsimp only at h ⊢
  unfold xb_divx at h ⊢
  split at h <;> first | (cases h; exact ⟨rfl, fun _ => rfl⟩) | (cases h; done) | skip
  all_goals
    split at h
    · cases h
    · rename_i hc
      cases h
      exact ⟨rfl, fun B => if_neg hc⟩
theorem xo_lookx {z : Int} {ps : Array (Int × Int)} : xo_P (fun A => xb_lookx z ps pc L A st) := by
  intro A r h
  dsimp only at h ⊢
  unfold xb_lookx at h ⊢
  split at h <;> first | (cases h; exact ⟨rfl, fun _ => rfl⟩) | (cases h; done) | skip
  all_goals
    split at h <;> first | (cases h; exact ⟨rfl, fun _ => rfl⟩) | (cases h; done)
theorem xo_tabx {z lo hi : Int} {os : Array Int} : xo_P (fun A => xb_tabx z lo hi os pc L A st) := by
  intro A r h
  dsimp only at h ⊢
  unfold xb_tabx at h ⊢
  split at h
  · rename_i x rest
    by_cases hc : x.toInt < lo ∨ hi < x.toInt
    · simp only [if_pos hc] at h ⊢
      split at h
      · cases h
        exact ⟨rfl, fun _ => rfl⟩
      · cases h
    · simp only [if_neg hc] at h ⊢
      split at h
      · split at h
        · cases h
          exact ⟨rfl, fun _ => rfl⟩
        · cases h
      · cases h
  · cases h
theorem xo_ja {f : Bool} : xo_P (fun A => xb_ja f pc t L A st) := by
  intro A r h
  dsimp only at h ⊢
  unfold xb_ja at h ⊢
  split at h
  · split at h
    · rename_i rx ry _ _
      split at h
      · rename_i hc
        cases h
        exact ⟨rfl, fun B => if_pos (show (xb_ok B rx = true ∧ xb_ok B ry = true) ∨ rx = ry from hc)⟩
      · cases h
    · cases h
  · cases h
end XO
