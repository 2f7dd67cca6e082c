/-! The fresh heap: what the constructors leave -/
def yz_o (A : xb_H) (a : Nat) : Option (Nat × List Value) := match xb_get A a with
  | some (.inr p) => some p
  | _ => none
def yz_i (A : xb_H) (a : Nat) : Option (FieldType × Nat × Bool) := match xb_get A a with
  | some (.inl (t, n, .inl f)) => some (t, n, (List.range n).all fun j => decide (f j = 0))
  | _ => none
def yz_r (A : xb_H) (a : Nat) : Option (FieldType × Nat × Bool) := match xb_get A a with
  | some (.inl (t, n, .inr (.inr f))) => some (t, n, (List.range n).all fun j => decide (f j = none))
  | _ => none
theorem yz_o_get {A : xb_H} {a : Nat} {p : Nat × List Value} (h : yz_o A a = some p) : xb_get A a = some (.inr p) := by
  unfold yz_o at h
  split at h
  · rename_i q e
    cases h
    exact e
  · cases h
theorem yz_i_get {A : xb_H} {a n : Nat} {ty : FieldType} (h : yz_i A a = some (ty, n, true)) : ∃ f : Nat → Int32, xb_get A a = some (.inl (ty, n, .inl f)) ∧ ∀ j, j < n → f j = 0 := by
  unfold yz_i at h
  split at h
  · rename_i t' n' f e
    simp only [Option.some.injEq, Prod.mk.injEq] at h
    obtain ⟨rfl, rfl, h3⟩ := h
    refine ⟨f, e, fun j hj => ?_⟩
    exact of_decide_eq_true (List.all_eq_true.mp h3 j (List.mem_range.mpr hj))
  · cases h
theorem yz_r_get {A : xb_H} {a n : Nat} {ty : FieldType} (h : yz_r A a = some (ty, n, true)) : ∃ f : Nat → Option Nat, xb_get A a = some (.inl (ty, n, .inr (.inr f))) ∧ ∀ j, j < n → f j = none := by
  unfold yz_r at h
  split at h
  · rename_i t' n' f e
    simp only [Option.some.injEq, Prod.mk.injEq] at h
    obtain ⟨rfl, rfl, h3⟩ := h
    refine ⟨f, e, fun j hj => ?_⟩
    exact of_decide_eq_true (List.all_eq_true.mp h3 j (List.mem_range.mpr hj))
  · cases h
/-- what is looked at, as one Bool -/
def yz_chk (A : xb_H) : Bool := decide (yz_o A 64 = some (0, [.ref 65, .ref 67, .int 0, .ref 68, .ref 71])) && (decide (yz_o A 65 = some (11, [.ref 66, .int 0, .int 0, .int 0])) && (decide (yz_o A 68 = some (8, [.ref 69, .ref 70, .int 0])) && (decide (yz_o A 71 = some (1, [.ref 72, .ref 74, .int 0, .null])) && (decide (yz_o A 165 = some (10, ym_F fun _ => 0)) && (decide (yz_i A 66 = some (.byte, 16, true)) && (decide (yz_i A 69 = some (.int, 6, true)) && (decide (yz_i A 70 = some (.int, 3072, true)) && (decide (yz_r A 67 = some (.object "ContractDesk$Interaction", 4, true)) && (List.range 27).all fun i => decide (yz_i A (166 + i) = some ((ym_ty (166 + i)).1, (ym_ty (166 + i)).2, true))))))))))
theorem yz_c0 : yz_chk (xd_A2 .null) = true := by decide +kernel
theorem yz_c1 : yz_chk (xd_A2 (.ref 19)) = true := by decide +kernel
/-- the rows of the reference, taken out of the heap -/
def yz_t (A : xb_H) (x j : Nat) : Int := match xb_get A x with
  | some (.inl (_, _, .inl f)) => (f j).toInt
  | _ => 0
theorem yz_B {A2 : xb_H} {n : Nat} {xs : Nat → Int32} {a : Nat} {o : xb_O} (h : xb_get A2 a = some o) : xb_get (xd_B A2 n xs) a = some o := by
  have hlt := xb_get_lt h
  have h2 : A2.2.2 a = some o := by
    unfold xb_get at h
    rw [if_pos hlt] at h
    exact h
  unfold xd_B xb_get
  rw [if_pos (by show a < A2.1 + 1; omega)]
  show (match (if a = A2.1 then some (Sum.inl (FieldType.long, 1, Sum.inr (Sum.inl fun _ => 0))) else A2.2.2 a) with | some o => some o | none => xd_X n xs a) = _
  rw [if_neg (by omega), h2]
theorem yz_B193 {A2 : xb_H} {n : Nat} {xs : Nat → Int32} (h : A2.1 = 193) : xb_get (xd_B A2 n xs) 193 = some (.inl (.long, 1, .inr (.inl fun _ => 0))) := by
  unfold xd_B xb_get
  rw [if_pos (by show 193 < A2.1 + 1; omega)]
  show (match (if 193 = A2.1 then some (Sum.inl (FieldType.long, 1, Sum.inr (Sum.inl fun _ => 0))) else A2.2.2 193) with | some o => some o | none => xd_X n xs 193) = _
  rw [if_pos h.symm]
/-- a heap that has the reference's cells is one laid over -/
theorem yz_ym {A : xb_H} {s : Nat → Int} (hA : 194 ≤ A.1) (h165 : xb_get A 165 = some (.inr (10, ym_F s))) (hr : ∀ x, 166 ≤ x → x < 193 → ∃ f : Nat → Int32, xb_get A x = some (.inl ((ym_ty x).1, (ym_ty x).2, .inl f))) : A = ym A s (yz_t A) := by
  obtain ⟨a1, a2, g⟩ := A
  unfold ym
  simp only [Prod.mk.injEq, true_and]
  funext x
  by_cases h1 : x = 165
  · subst h1
    rw [if_pos rfl]
    unfold xb_get at h165
    rw [if_pos (show 165 < a1 by have : 194 ≤ a1 := hA; omega)] at h165
    exact h165
  · rw [if_neg h1]
    by_cases h2 : 166 ≤ x ∧ x < 193
    · rw [if_pos h2]
      obtain ⟨f, hf⟩ := hr x h2.1 h2.2
      unfold ym_c yz_t
      rw [hf]
      unfold xb_get at hf
      rw [if_pos (show x < a1 by have : 194 ≤ a1 := hA; omega)] at hf
      rw [show g x = _ from hf]
      have e : f = fun j => Int32.ofInt (f j).toInt := by
        funext j
        rw [Int32.ofInt_toInt]
      exact congrArg (fun z => some (Sum.inl ((ym_ty x).1, (ym_ty x).2, Sum.inl z))) e
    · rw [if_neg h2]
/-- THE FRESH HEAP -/
theorem yz_fresh {w : Value} (hw : w = .null ∨ w = .ref 19) (n : Nat) (xs : Nat → Int32) : ∃ (A : xb_H) (t : Nat → Nat → Int) (f66 : Nat → Int) (f69 : Nat → Int32) (f70 : Nat → Int32) (f67 : Nat → Option Nat), xd_B (xd_A2 w) n xs = ym A (fun _ => 0) t ∧ xd_B (xd_A2 w) n xs = A ∧ A.1 = 194 ∧ A.2.1 = 14431 ∧ (∀ x, 166 ≤ x → x < 193 → ∀ j, j < (ym_ty x).2 → t x j = 0) ∧
    xb_get A 20 = some (.inl (.int, n, .inl xs)) ∧ xb_get A 193 = some (.inl (.long, 1, .inr (.inl fun _ => 0))) ∧ xb_get A 64 = some (.inr (0, [.ref 65, .ref 67, .int 0, .ref 68, .ref 71])) ∧ yb A 65 66 16 0 0 f66 ∧ (xb_get A 68 = some (.inr (8, [.ref 69, .ref 70, .int 0])) ∧ xb_get A 71 = some (.inr (1, [.ref 72, .ref 74, .int 0, .null]))) ∧ (xb_get A 69 = some (.inl (.int, 6, .inl f69)) ∧ ∀ j, j < 6 → f69 j = 0) ∧ (xb_get A 70 = some (.inl (.int, 3072, .inl f70)) ∧ ∀ j, j < 3072 → f70 j = 0) ∧ (xb_get A 67 = some (.inl (.object "ContractDesk$Interaction", 4, .inr (.inr f67))) ∧ ∀ j, j < 4 → f67 j = none) := by
  have hscr := xd_scr hw n xs
  have hchk : yz_chk (xd_A2 w) = true := by
    rcases hw with rfl | rfl
    · exact yz_c0
    · exact yz_c1
  obtain ⟨A2, -, e2, n2, n3⟩ := xd_m2 w hw
  rw [e2] at hscr hchk ⊢
  clear e2 hw
  unfold yz_chk at hchk
  simp only [Bool.and_eq_true, decide_eq_true_eq] at hchk
  obtain ⟨c64, c65, c68, c71, c165, c66, c69, c70, c67, call⟩ := hchk
  obtain ⟨f66, g66, z66⟩ := yz_i_get c66
  obtain ⟨f69, g69, z69⟩ := yz_i_get c69
  obtain ⟨f70, g70, z70⟩ := yz_i_get c70
  obtain ⟨f67, g67, z67⟩ := yz_r_get c67
  have hrow : ∀ x, 166 ≤ x → x < 193 → ∃ f : Nat → Int32, xb_get (xd_B A2 n xs) x = some (.inl ((ym_ty x).1, (ym_ty x).2, .inl f)) ∧ ∀ j, j < (ym_ty x).2 → f j = 0 := by
    intro x h1 h2
    have := List.all_eq_true.mp call (x - 166) (List.mem_range.mpr (by omega))
    rw [decide_eq_true_eq, show 166 + (x - 166) = x by omega] at this
    obtain ⟨f, q1, q2⟩ := yz_i_get this
    exact ⟨f, yz_B q1, q2⟩
  have hA1 : (xd_B A2 n xs).1 = 194 := by show A2.1 + 1 = 194; omega
  have hym := yz_ym (A := xd_B A2 n xs) (s := fun _ => 0) (by omega) (yz_B (yz_o_get c165)) (fun x h1 h2 => by obtain ⟨f, hf, _⟩ := hrow x h1 h2; exact ⟨f, hf⟩)
  have hz : ∀ x, 166 ≤ x → x < 193 → ∀ j, j < (ym_ty x).2 → yz_t (xd_B A2 n xs) x j = 0 := by
    intro x h1 h2 j hj
    obtain ⟨f, q1, q2⟩ := hrow x h1 h2
    unfold yz_t
    rw [q1]
    dsimp only
    rw [q2 j hj]
    rfl
  have hB64 := yz_B (n := n) (xs := xs) (yz_o_get c64)
  have hB65 := yz_B (n := n) (xs := xs) (yz_o_get c65)
  have hB66 := yz_B (n := n) (xs := xs) g66
  have hs2 : (xd_B A2 n xs).2.1 = 14431 := by show A2.2.1 + 1 = 14431; omega
  have h193 := yz_B193 (n := n) (xs := xs) n2
  refine ⟨xd_B A2 n xs, yz_t (xd_B A2 n xs), fun j => (f66 j).toInt, f69, f70, f67, hym, rfl, hA1, hs2, hz, hscr, h193, hB64, ⟨hB65, ?_, ⟨by omega, by omega⟩, ⟨by omega, by omega⟩, fun j hj => ?_⟩, ⟨yz_B (yz_o_get c68), yz_B (yz_o_get c71)⟩, ⟨yz_B g69, z69⟩, ⟨yz_B g70, z70⟩, yz_B g67, z67⟩
  · rw [hB66]
    have e : f66 = fun j => Int32.ofInt (f66 j).toInt := by
      funext j
      rw [Int32.ofInt_toInt]
    exact congrArg (fun z => some (Sum.inl (FieldType.byte, 16, Sum.inl z))) e
  · show 0 ≤ (f66 j).toInt ∧ (f66 j).toInt ≤ 127
    rw [z66 j hj]
    decide
