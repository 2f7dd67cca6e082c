/-! The fresh object's text is taken and read: run by the kernel -/
def yk_c : xb_O := .inl (.long, 1, .inr (.inl fun _ => 0))
def yk_1 (w : Value) : Option (xb_R × xb_H) := xb_run (xt_G w) 3000 999 46 0 [(0, .ref 64)] [] (xb_new (xd_A2 w) 1 yk_c)
def yk_A (w : Value) : xb_H := match yk_1 w with
  | some (_, A) => A
  | none => xd_A0
def yk_2 (w : Value) (y : Nat) : Option (xb_R × xb_H) := xb_run (xt_G w) 3000 999 y 0 [(0, .ref 194)] [] (yk_A w)
def yk_B (w : Value) (y : Nat) : xb_H := match yk_2 w y with
  | some (_, A) => A
  | none => xd_A0
def yk_l (A : xb_H) (a : Nat) : Option (FieldType × Nat) := match xb_get A a with
  | some (.inl (t, n, .inr (.inl _))) => some (t, n)
  | _ => none
def yk_chk (A : xb_H) : Bool := decide ((yz_o A 64).map (fun p => p.1) = some 0) && (decide (yz_o A 165 = some (10, ym_F fun _ => 0)) && (decide (yk_l A 193 = some (.long, 1)) && ((xb_get A 20).isNone && ((List.range 27).all fun i => decide (yz_i A (166 + i) = some ((ym_ty (166 + i)).1, (ym_ty (166 + i)).2, true))))))
def yk_ok1 (w : Value) : Bool := decide ((yk_1 w).map (fun r => (r.1, r.2.1)) = some (.inl (some (.ref 194)), 197))
def yk_ok2 (w : Value) (y : Nat) : Bool := decide ((yk_2 w y).map (fun r => (r.1, r.2.1, r.2.2.1)) = some (.inl (some .null), 197, 14437)) && yk_chk (yk_B w y)
theorem yk_k1 : yk_ok1 .null = true ∧ yk_ok1 (.ref 19) = true := by decide +kernel
theorem yk_k2 : yk_ok2 .null 110 = true ∧ yk_ok2 (.ref 19) 110 = true := by decide +kernel
theorem yk_k3 : yk_ok2 .null 153 = true ∧ yk_ok2 (.ref 19) 153 = true := by decide +kernel
theorem yk_k4 : yk_ok2 .null 65 = true ∧ yk_ok2 (.ref 19) 65 = true := by decide +kernel
/-- what the law needs and the reference's cells as they were -/
def yk_st (A : xb_H) (n : Nat) (xs : Nat → Int32) : Prop := 194 ≤ A.1 ∧ yl_st A n xs ∧ (∃ f : Nat → Int64, xb_get A 193 = some (.inl (.long, 1, .inr (.inl f)))) ∧ ∃ t, A = ym A (fun _ => 0) t ∧ ∀ x, 166 ≤ x → x < 193 → ∀ j, j < (ym_ty x).2 → t x j = 0
theorem yk_mk {A : xb_H} {n : Nat} {xs : Nat → Int32} (hA : 194 ≤ A.1) (h20 : xb_get A 20 = some (.inl (.int, n, .inl xs))) (h64 : ∃ fs, xb_get A 64 = some (.inr (0, fs))) (h193 : ∃ f : Nat → Int64, xb_get A 193 = some (.inl (.long, 1, .inr (.inl f)))) (h165 : xb_get A 165 = some (.inr (10, ym_F fun _ => 0))) (hr : ∀ x, 166 ≤ x → x < 193 → ∃ f : Nat → Int32, xb_get A x = some (.inl ((ym_ty x).1, (ym_ty x).2, .inl f)) ∧ ∀ j, j < (ym_ty x).2 → f j = 0) : yk_st A n xs := by
  refine ⟨hA, ⟨h20, h64, ⟨_, h165⟩⟩, h193, yz_t A, yz_ym hA h165 (fun x h1 h2 => by obtain ⟨f, hf, _⟩ := hr x h1 h2; exact ⟨f, hf⟩), fun x h1 h2 j hj => ?_⟩
  obtain ⟨f, q1, q2⟩ := hr x h1 h2
  unfold yz_t
  rw [q1]
  dsimp only
  rw [q2 j hj]
  rfl
theorem yk_of {A : xb_H} (n : Nat) (xs : Nat → Int32) (hA : 194 ≤ A.1) (h : yk_chk A = true) : yk_st (xb_ov A (xd_X n xs)) n xs := by
  unfold yk_chk at h
  simp only [Bool.and_eq_true, decide_eq_true_eq] at h
  obtain ⟨c64, c165, c193, c20, call⟩ := h
  refine yk_mk hA ?_ ?_ ?_ (xo_get (yz_o_get c165)) ?_
  · have h2 : A.2.2 20 = none := by
      unfold xb_get at c20
      rw [if_pos (by omega)] at c20
      exact Option.isNone_iff_eq_none.mp c20
    unfold xb_ov xb_get
    rw [if_pos (by show 20 < A.1; omega)]
    show (match A.2.2 20 with | some o => some o | none => xd_X n xs 20) = _
    rw [h2]
    rfl
  · cases hq : yz_o A 64 with
    | none => rw [hq] at c64; cases c64
    | some p =>
      rw [hq] at c64
      obtain ⟨k, fs⟩ := p
      have : k = 0 := by simpa using c64
      subst this
      exact ⟨fs, xo_get (yz_o_get hq)⟩
  · unfold yk_l at c193
    split at c193
    · rename_i t n' f e
      cases c193
      exact ⟨f, xo_get e⟩
    · cases c193
  · intro x h1 h2
    have := List.all_eq_true.mp call (x - 166) (List.mem_range.mpr (by omega))
    rw [decide_eq_true_eq, show 166 + (x - 166) = x by omega] at this
    obtain ⟨f, q1, q2⟩ := yz_i_get this
    exact ⟨f, xo_get q1, q2⟩
/-- taking the fresh text, and reading it by y: a frame of both -/
theorem yk_run {w : Value} (hw : w = .null ∨ w = .ref 19) {y : Nat} (hy : y = 110 ∨ y = 153 ∨ y = 65) (n : Nat) (xs : Nat → Int32) : ∃ A1 A2 : xb_H, xr_ok (xt_G w) 999 46 0 [(0, .ref 64)] [] (xd_B (xd_A2 w) n xs) (fun o A' => ∃ v, o = .inl v ∧ v = some (.ref 194) ∧ A' = A1) ∧ xr_ok (xt_G w) 999 y 0 [(0, .ref 194)] [] A1 (fun o A' => ∃ v, o = .inl v ∧ v = some .null ∧ A' = A2) ∧ A2.1 = 197 ∧ A2.2.1 = 14437 ∧ yk_st A2 n xs := by
  have k1 : yk_ok1 w = true := by
    rcases hw with rfl | rfl
    · exact yk_k1.1
    · exact yk_k1.2
  have k2 : yk_ok2 w y = true := by
    rcases hw with rfl | rfl <;> rcases hy with rfl | rfl | rfl
    · exact yk_k2.1
    · exact yk_k3.1
    · exact yk_k4.1
    · exact yk_k2.2
    · exact yk_k3.2
    · exact yk_k4.2
  obtain ⟨A2, -, e2, n2, n3⟩ := xd_m2 w hw
  unfold yk_ok1 at k1
  unfold yk_ok2 yk_B yk_2 yk_A at k2
  unfold yk_1 at k1 k2
  rw [e2] at k1 k2 ⊢
  clear e2 hw
  rw [decide_eq_true_eq] at k1
  cases r1 : xb_run (xt_G w) 3000 999 46 0 [(0, .ref 64)] [] (xb_new A2 1 yk_c) with
  | none => rw [r1] at k1; cases k1
  | some p =>
    obtain ⟨o, B1⟩ := p
    rw [r1] at k1 k2
    simp only [Option.map_some, Option.some.injEq, Prod.mk.injEq] at k1
    obtain ⟨rfl, b1⟩ := k1
    dsimp only at k2
    cases r2 : xb_run (xt_G w) 3000 999 y 0 [(0, .ref 194)] [] B1 with
    | none => rw [r2] at k2; cases k2
    | some p =>
      obtain ⟨o, B2⟩ := p
      rw [r2, Bool.and_eq_true, decide_eq_true_eq] at k2
      obtain ⟨k2, k3⟩ := k2
      simp only [Option.map_some, Option.some.injEq, Prod.mk.injEq] at k2
      obtain ⟨rfl, b2, b3⟩ := k2
      dsimp only at k3
      have q1 := xo_run (xd_Xz n xs) _ _ _ _ _ _ _ _ r1 (by show 64 ≤ A2.1 + 1; omega)
      have q2 := xo_run (xd_Xz n xs) _ _ _ _ _ _ _ _ r2 (by omega)
      exact ⟨xb_ov B1 (xd_X n xs), xb_ov B2 (xd_X n xs), ⟨3000, _, _, q1, _, rfl, rfl, rfl⟩, ⟨3000, _, _, q2, _, rfl, rfl, rfl⟩, b2, b3, yk_of n xs (by omega) k3⟩
/-- an exception is thrown: the old cells stay -/
theorem yk_thr {A : xb_H} {n : Nat} {xs : Nat → Int32} (h : yk_st A n xs) : yk_st (xb_thr A) n xs := by
  obtain ⟨hA, ⟨h20, ⟨fs, h64⟩, -⟩, ⟨f, h193⟩, t, ht, hz⟩ := h
  have hg : ∀ x, x < A.1 → xb_get (xb_thr A) x = xb_get A x := by
    intro x hx
    unfold xb_get xb_thr
    show (if x < A.1 + 1 then (if x = A.1 then none else A.2.2 x) else none) = _
    rw [if_pos (by omega), if_neg (by omega), if_pos hx]
  have h165 : xb_get A 165 = some (.inr (10, ym_F fun _ => 0)) := by
    rw [ht]
    exact ym_165 hA
  refine yk_mk (by show 194 ≤ A.1 + 1; omega) (by rw [hg _ (xb_get_lt h20)]; exact h20) ⟨fs, by rw [hg _ (xb_get_lt h64)]; exact h64⟩ ⟨f, by rw [hg _ (xb_get_lt h193)]; exact h193⟩ (by rw [hg _ (xb_get_lt h165)]; exact h165) (fun x h1 h2 => ?_)
  refine ⟨fun j => Int32.ofInt (t x j), ?_, fun j hj => ?_⟩
  · rw [hg x (by omega), ht]
    exact ym_get hA h1 h2
  · show Int32.ofInt (t x j) = 0
    rw [hz x h1 h2 j hj]
    rfl
/-- ... and so behind a frame -/
theorem yk_fr {A A' : xb_H} {n : Nat} {xs : Nat → Int32} {M : List Nat} {p q : Nat} (h : yk_st A n xs) (hf : yfr A A' M p q) (hM : ∀ x ∈ M, (64 ≤ x ∧ x < 165) ∨ 193 ≤ x) (h64 : ∃ fs, xb_get A' 64 = some (.inr (0, fs))) (h193 : ∃ f : Nat → Int64, xb_get A' 193 = some (.inl (.long, 1, .inr (.inl f)))) : yk_st A' n xs := by
  obtain ⟨hA, ⟨h20, -, -⟩, -, t, ht, hz⟩ := h
  have h165 : xb_get A 165 = some (.inr (10, ym_F fun _ => 0)) := by
    rw [ht]
    exact ym_165 hA
  have hm : ∀ x, x < 64 ∨ (165 ≤ x ∧ x < 193) → ¬ x ∈ M := fun x hx hm => by
    have := hM x hm
    omega
  refine yk_mk (Nat.le_trans hA hf.1.1) (yfr_get hf h20 (hm _ (by omega))) h64 h193 (yfr_get hf h165 (hm _ (by omega))) (fun x h1 h2 => ?_)
  refine ⟨fun j => Int32.ofInt (t x j), yfr_get hf ?_ (hm _ (by omega)), fun j hj => ?_⟩
  · rw [ht]
    exact ym_get hA h1 h2
  · show Int32.ofInt (t x j) = 0
    rw [hz x h1 h2 j hj]
    rfl
