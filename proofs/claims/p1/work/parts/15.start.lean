/-! The first heap: constants below 64, the script at 20 -/
def xt_by (l : List Int32) : xb_O := .inl (.byte, l.length, .inl fun j => l.getD j 0)
def xt_str (i : Nat) : List Int32 := match i with
  | 0 => []
  | 1 => [110, 117, 108, 108]
  | 2 => [116, 114, 117, 101]
  | 3 => [102, 97, 108, 115, 101]
  | 4 => [48]
  | _ => []
def xt_dig (ten : Bool) : List Int32 := (List.range 100).map fun i => Int32.ofNat (48 + if ten then i / 10 else i % 10)
def xt_old (L : Nat) (xs : Nat → Int32) (a : Nat) : Option xb_O :=
  if a < 6 then none
  else if a = 6 then some (.inl (.object "java/lang/Object", 0, .inr (.inr fun _ => none)))
  else if a = 7 then some (xt_by (xt_dig false))
  else if a = 8 then some (xt_by (xt_dig true))
  else if a < 14 then some (.inr (12, [.ref (a + 5), .int 0]))
  else if a < 19 then some (xt_by (xt_str (a - 14)))
  else if a = 20 then some (.inl (.int, L, .inl xs))
  else none
def xt_A0 (L : Nat) (xs : Nat → Int32) : xb_H := (64, 0, xt_old L xs)
def xt_A1 : xb_H := xb_new (xt_A0 0 fun _ => 0) 5 (.inr (0, (xt_ty 0).map defaultValue))
theorem xq_1 : (xb_run (xt_G .null) 3000 20 1 0 [(0, .ref 64)] [] xt_A1).map (fun r => r.1) = some (.inl none) := by decide +kernel
