/-! The law's beginning: both objects are made (run by the kernel on the heap without the script) -/
def xd_old (a : Nat) : Option xb_O := if a = 20 then none else xt_old 0 (fun _ => 0) a
def xd_A0 : xb_H := (64, 0, xd_old)
def xd_X (L : Nat) (xs : Nat → Int32) (a : Nat) : Option xb_O := if a = 20 then some (.inl (.int, L, .inl xs)) else none
theorem xd_Xz (L : Nat) (xs : Nat → Int32) : ∀ a, 64 ≤ a → xd_X L xs a = none := by
  intro a h
  unfold xd_X
  rw [if_neg (by omega)]
theorem xd_start (L : Nat) (xs : Nat → Int32) : xt_A0 L xs = xb_ov xd_A0 (xd_X L xs) := by
  unfold xt_A0 xb_ov xd_A0
  simp only [Prod.mk.injEq, true_and]
  funext a
  by_cases h20 : a = 20
  · subst h20
    simp [xt_old, xd_old, xd_X]
  · have e1 : xt_old L xs a = xt_old 0 (fun _ => 0) a := by
      unfold xt_old
      simp only [if_neg h20]
    have e2 : xd_old a = xt_old 0 (fun _ => 0) a := if_neg h20
    have e3 : xd_X L xs a = none := if_neg h20
    rw [e1, e2, e3]
    cases xt_old 0 (fun _ => 0) a <;> rfl
def xd_1 (w : Value) : Option (xb_R × xb_H) := xb_run (xt_G w) 5000 xl_d 1 0 [(0, .ref 64)] [] (xb_new xd_A0 5 (.inr (0, (xt_ty 0).map defaultValue)))
def xd_A1 (w : Value) : xb_H := match xd_1 w with
  | some (_, A) => A
  | none => xd_A0
def xd_2 (w : Value) : Option (xb_R × xb_H) := xb_run (xt_G w) 5000 xl_d 203 0 [(0, .ref 165)] [] (xb_new (xd_A1 w) 35 (.inr (10, (xt_ty 10).map defaultValue)))
def xd_A2 (w : Value) : xb_H := match xd_2 w with
  | some (_, A) => A
  | none => xd_A0
theorem xd_n1 : (xd_1 .null).map (fun r => (r.1, r.2.1)) = some (.inl none, 165) := by decide +kernel
theorem xd_n1' : (xd_1 (.ref 19)).map (fun r => (r.1, r.2.1)) = some (.inl none, 165) := by decide +kernel
theorem xd_n2 : (xd_2 .null).map (fun r => r.1) = some (.inl none) := by decide +kernel
theorem xd_n2' : (xd_2 (.ref 19)).map (fun r => r.1) = some (.inl none) := by decide +kernel
