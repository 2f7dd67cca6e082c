/-! A small machine over the method tables: a heap of typed arrays and of objects by the number of their class, addresses counted from 0, the old cells (constants, the script) below xb_z. -/
abbrev xb_A : Type := Nat × ((Nat → Int32) ⊕ (Nat → Int64) ⊕ (Nat → Option Nat))
abbrev xb_O : Type := (FieldType × xb_A) ⊕ (Nat × List Value)
/-- next address, slots used so far, the cells -/
abbrev xb_H : Type := Nat × Nat × (Nat → Option xb_O)
abbrev xb_L : Type := List (Nat × Value)
/-- an instruction, its length, two numbers that its link or jump is resolved to -/
abbrev xb_I : Type := Instr × Nat × Nat × Nat
def xb_z : Nat := 64
def xb_get (A : xb_H) (a : Nat) : Option xb_O := if a < A.1 then A.2.2 a else none
def xb_set (A : xb_H) (a : Nat) (o : xb_O) : xb_H := (A.1, A.2.1, fun x => if x = a then some o else A.2.2 x)
def xb_new (A : xb_H) (n : Nat) (o : xb_O) : xb_H := (A.1 + 1, A.2.1 + n, fun x => if x = A.1 then some o else A.2.2 x)
theorem xb_get_new {A : xb_H} {n : Nat} {o : xb_O} {a : Nat} : xb_get (xb_new A n o) a = if a = A.1 then some o else xb_get A a := by
  unfold xb_get xb_new
  by_cases h : a = A.1
  · simp [h]
  · by_cases h2 : a < A.1
    · have h3 : a < A.1 + 1 := by omega
      simp [h, h2, h3]
    · have h3 : ¬ a < A.1 + 1 := by omega
      simp [h, h2, h3]
theorem xb_get_set {A : xb_H} {b : Nat} {o : xb_O} {a : Nat} (hb : b < A.1) : xb_get (xb_set A b o) a = if a = b then some o else xb_get A a := by
  unfold xb_get xb_set
  by_cases h : a = b
  · subst h
    simp [hb]
  · simp [h]
theorem xb_get_lt {A : xb_H} {a : Nat} {o : xb_O} (h : xb_get A a = some o) : a < A.1 := by
  unfold xb_get at h
  by_cases h2 : a < A.1
  · exact h2
  · simp [h2] at h
/-- locals -/
def xb_ld (L : xb_L) (i : Nat) : Option Value := L.lookup i
def xb_st (L : xb_L) (i : Nat) (v : Value) : xb_L := (i, v) :: L.filter (fun q => !(q.1 == i) && !(q.1 + 1 == i && q.2.category == 2))
def xb_st2 (L : xb_L) (i : Nat) (v : Value) : xb_L := (i, v) :: L.filter (fun q => !(q.1 == i) && (!(q.1 == i + 1) && !(q.1 + 1 == i && q.2.category == 2)))
/-- a reference as a value -/
def xb_ref (r : Option Nat) : Value := va_rf r
def xb_ar (v : Value) : Option (Option Nat) := match v with
  | .null => some none
  | .ref a => some (some a)
  | _ => none
def xb_in (i : Int32) (n : Nat) : Bool := !(decide (i < 0) || decide (n ≤ i.toNatClampNeg))
def xb_isP (t : FieldType) : Bool := match t with
  | .int => true
  | .char => true
  | .byte => true
  | .boolean => true
  | _ => false
def xb_tgt (pc : Nat) (off : Int) : Option Nat := if 0 ≤ (pc : Int) + off then some ((pc : Int) + off).toNat else none
abbrev xb_S : Type := Nat × xb_L × List Value × xb_H
def xb_i1 (f : Int32 → Int32) (pc : Nat) (L : xb_L) (A : xb_H) : List Value → Option xb_S
  | .int x :: st => some (pc + 1, L, .int (f x) :: st, A)
  | _ => none
def xb_i2 (f : Int32 → Int32 → Int32) (pc : Nat) (L : xb_L) (A : xb_H) : List Value → Option xb_S
  | .int y :: .int x :: st => some (pc + 1, L, .int (f x y) :: st, A)
  | _ => none
def xb_l2 (f : Int64 → Int64 → Int64) (pc : Nat) (L : xb_L) (A : xb_H) : List Value → Option xb_S
  | .long y :: .long x :: st => some (pc + 1, L, .long (f x y) :: st, A)
  | _ => none
def xb_ls (f : Int64 → Int32 → Int64) (pc : Nat) (L : xb_L) (A : xb_H) : List Value → Option xb_S
  | .int y :: .long x :: st => some (pc + 1, L, .long (f x y) :: st, A)
  | _ => none
def xb_j1 (p : Int32 → Bool) (pc t : Nat) (L : xb_L) (A : xb_H) : List Value → Option xb_S
  | .int x :: st => some (if p x then t else pc + 3, L, st, A)
  | _ => none
def xb_j2 (p : Int32 → Int32 → Bool) (pc t : Nat) (L : xb_L) (A : xb_H) : List Value → Option xb_S
  | .int y :: .int x :: st => some (if p x y then t else pc + 3, L, st, A)
  | _ => none
/-- addresses that are known to be apart: the six constants, the empty row, the strings, all new ones -/
def xb_dist (a : Nat) : Bool := decide (a < 7) || ((decide (9 ≤ a) && decide (a < 14)) || decide (xb_z ≤ a))
def xb_ok (_ : xb_H) (r : Option Nat) : Bool := match r with
  | none => true
  | some a => xb_dist a
def xb_ja (p : Bool) (pc t : Nat) (L : xb_L) (A : xb_H) : List Value → Option xb_S
  | y :: x :: st => match xb_ar x, xb_ar y with
    | some rx, some ry => if (xb_ok A rx = true ∧ xb_ok A ry = true) ∨ rx = ry then some (if decide (rx = ry) = p then t else pc + 3, L, st, A) else none
    | _, _ => none
  | _ => none
def xb_jn (p : Bool) (pc t : Nat) (L : xb_L) (A : xb_H) : List Value → Option xb_S
  | .null :: st => some (if p then t else pc + 3, L, st, A)
  | .ref _ :: st => some (if p then pc + 3 else t, L, st, A)
  | _ => none
def xb_ildx (pc n i : Nat) (L : xb_L) (A : xb_H) (st : List Value) : Option xb_S := match xb_ld L i with
  | some (.int x) => some (pc + n, L, .int x :: st, A)
  | _ => none
def xb_lldx (pc n i : Nat) (L : xb_L) (A : xb_H) (st : List Value) : Option xb_S := match xb_ld L i with
  | some (.long x) => some (pc + n, L, .long x :: st, A)
  | _ => none
def xb_aldx (pc n i : Nat) (L : xb_L) (A : xb_H) (st : List Value) : Option xb_S := match xb_ld L i with
  | some (.ref x) => some (pc + n, L, .ref x :: st, A)
  | some .null => some (pc + n, L, .null :: st, A)
  | _ => none
def xb_istx (pc n i : Nat) (L : xb_L) (A : xb_H) : List Value → Option xb_S
  | .int x :: st => some (pc + n, xb_st L i (.int x), st, A)
  | _ => none
def xb_lstx (pc n i : Nat) (L : xb_L) (A : xb_H) : List Value → Option xb_S
  | .long x :: st => some (pc + n, xb_st2 L i (.long x), st, A)
  | _ => none
def xb_astx (pc n i : Nat) (L : xb_L) (A : xb_H) : List Value → Option xb_S
  | .ref x :: st => some (pc + n, xb_st L i (.ref x), st, A)
  | .null :: st => some (pc + n, xb_st L i .null, st, A)
  | _ => none
def xb_iincx (pc i : Nat) (n : Int) (L : xb_L) (A : xb_H) (st : List Value) : Option xb_S := match xb_ld L i with
  | some (.int x) => some (pc + 3, xb_st L i (.int (x + Int32.ofInt n)), st, A)
  | _ => none
def xb_dupx (pc : Nat) (L : xb_L) (A : xb_H) : List Value → Option xb_S
  | v :: st => if v.category = 1 then some (pc + 1, L, v :: v :: st, A) else none
  | _ => none
def xb_popx (pc : Nat) (L : xb_L) (A : xb_H) : List Value → Option xb_S
  | v :: st => if v.category = 1 then some (pc + 1, L, st, A) else none
  | _ => none
def xb_dupx1 (pc : Nat) (L : xb_L) (A : xb_H) : List Value → Option xb_S
  | v :: w :: st => if v.category = 1 ∧ w.category = 1 then some (pc + 1, L, v :: w :: v :: st, A) else none
  | _ => none
def xb_dupx2 (pc : Nat) (L : xb_L) (A : xb_H) : List Value → Option xb_S
  | v :: w :: u :: st => if v.category = 1 ∧ w.category = 1 ∧ u.category = 1 then some (pc + 1, L, v :: w :: u :: v :: st, A) else none
  | _ => none
def xb_dup2x (pc : Nat) (L : xb_L) (A : xb_H) : List Value → Option xb_S
  | v :: w :: st => if v.category = 1 ∧ w.category = 1 then some (pc + 1, L, v :: w :: v :: w :: st, A) else none
  | _ => none
def xb_getx (pc k i : Nat) (L : xb_L) (A : xb_H) : List Value → Option xb_S
  | .ref a :: st => match xb_get A a with
    | some (.inr (c, fs)) => if c = k then (match fs[i]? with
      | some v => some (pc + 3, L, v :: st, A)
      | none => none) else none
    | _ => none
  | _ => none
def xb_fitx (t : FieldType) (v : Value) : Bool := decide (narrow t v = v) && fits t v
def xb_putx (T : Nat → List FieldType) (pc k i : Nat) (L : xb_L) (A : xb_H) : List Value → Option xb_S
  | v :: .ref a :: st => match xb_get A a with
    | some (.inr (c, fs)) => if c = k ∧ xb_z ≤ a ∧ i < fs.length ∧ (T k)[i]?.any (fun t => xb_fitx t v) = true then some (pc + 3, L, st, xb_set A a (.inr (c, fs.set i v))) else none
    | _ => none
  | _ => none
def xb_newx (T : Nat → List FieldType) (pc k : Nat) (L : xb_L) (st : List Value) (A : xb_H) : Option xb_S :=
  some (pc + 3, L, .ref A.1 :: st, xb_new A (T k).length (.inr (k, (T k).map defaultValue)))
def xb_zero (t : FieldType) (n : Nat) : Option xb_A := match t with
  | .int => some (n, .inl fun _ => 0)
  | .char => some (n, .inl fun _ => 0)
  | .byte => some (n, .inl fun _ => 0)
  | .boolean => some (n, .inl fun _ => 0)
  | .long => some (n, .inr (.inl fun _ => 0))
  | .object _ => some (n, .inr (.inr fun _ => none))
  | _ => none
def xb_newax (t : FieldType) (pc len : Nat) (L : xb_L) (A : xb_H) : List Value → Option xb_S
  | .int n :: st => if ¬ n < 0 ∧ n.toNatClampNeg ≤ 65536 then (match xb_zero t n.toNatClampNeg with
      | some a => some (pc + len, L, .ref A.1 :: st, xb_new A n.toNatClampNeg (.inl (t, a)))
      | none => none) else none
  | _ => none
def xb_alenx (pc : Nat) (L : xb_L) (A : xb_H) : List Value → Option xb_S
  | .ref a :: st => match xb_get A a with
    | some (.inl (_, n, _)) => some (pc + 1, L, .int (Int32.ofNat n) :: st, A)
    | _ => none
  | _ => none
def xb_ial (ok : FieldType → Bool) (pc : Nat) (L : xb_L) (A : xb_H) : List Value → Option xb_S
  | .int i :: .ref a :: st => match xb_get A a with
    | some (.inl (t, n, .inl f)) => if ok t = true ∧ xb_in i n = true then some (pc + 1, L, .int (f i.toNatClampNeg) :: st, A) else none
    | _ => none
  | _ => none
def xb_lal (pc : Nat) (L : xb_L) (A : xb_H) : List Value → Option xb_S
  | .int i :: .ref a :: st => match xb_get A a with
    | some (.inl (t, n, .inr (.inl f))) => if t = .long ∧ xb_in i n = true then some (pc + 1, L, .long (f i.toNatClampNeg) :: st, A) else none
    | _ => none
  | _ => none
def xb_aal (pc : Nat) (L : xb_L) (A : xb_H) : List Value → Option xb_S
  | .int i :: .ref a :: st => match xb_get A a with
    | some (.inl (.object _, n, .inr (.inr f))) => if xb_in i n = true then some (pc + 1, L, xb_ref (f i.toNatClampNeg) :: st, A) else none
    | _ => none
  | _ => none
def xb_ias (ok : FieldType → Bool) (pc : Nat) (L : xb_L) (A : xb_H) : List Value → Option xb_S
  | .int x :: .int i :: .ref a :: st => match xb_get A a with
    | some (.inl (t, n, .inl f)) => if ok t = true ∧ xb_z ≤ a ∧ xb_in i n = true then some (pc + 1, L, st, xb_set A a (.inl (t, n, .inl (upd f i.toNatClampNeg (vp_nar t x))))) else none
    | _ => none
  | _ => none
def xb_las (pc : Nat) (L : xb_L) (A : xb_H) : List Value → Option xb_S
  | .long x :: .int i :: .ref a :: st => match xb_get A a with
    | some (.inl (t, n, .inr (.inl f))) => if t = .long ∧ xb_z ≤ a ∧ xb_in i n = true then some (pc + 1, L, st, xb_set A a (.inl (t, n, .inr (.inl (va_up f i.toNatClampNeg x))))) else none
    | _ => none
  | _ => none
def xb_isI (t : FieldType) : Bool := match t with | .int => true | _ => false
def xb_isC (t : FieldType) : Bool := match t with | .char => true | _ => false
def xb_isB (t : FieldType) : Bool := match t with | .byte => true | .boolean => true | _ => false
/-- the program's tables: field types of a class; statics; constants; which class may lie in a row of a type; which class passes a cast; the code; return types; receivers' classes; numbers of locals -/
abbrev xb_G : Type := (Nat → List FieldType) × (Nat → Option Value) × (Nat → Option Value) × (FieldType → Nat → Bool) × (Nat → Nat → Bool) × (Nat → FieldType) × (Nat → Nat → Option xb_I) × (Nat → Option FieldType) × (Nat → Option Nat) × (Nat → Nat)
abbrev xb_gT (G : xb_G) : Nat → List FieldType := G.1
abbrev xb_gS (G : xb_G) : Nat → Option Value := G.2.1
abbrev xb_gC (G : xb_G) : Nat → Option Value := G.2.2.1
abbrev xb_gI (G : xb_G) : FieldType → Nat → Bool := G.2.2.2.1
abbrev xb_gX (G : xb_G) : Nat → Nat → Bool := G.2.2.2.2.1
abbrev xb_gE (G : xb_G) : Nat → FieldType := G.2.2.2.2.2.1
abbrev xb_gP (G : xb_G) : Nat → Nat → Option xb_I := G.2.2.2.2.2.2.1
abbrev xb_gR (G : xb_G) : Nat → Option FieldType := G.2.2.2.2.2.2.2.1
abbrev xb_gV (G : xb_G) : Nat → Option Nat := G.2.2.2.2.2.2.2.2.1
abbrev xb_gN (G : xb_G) : Nat → Nat := G.2.2.2.2.2.2.2.2.2
def xb_aas (into : FieldType → Nat → Bool) (pc : Nat) (L : xb_L) (A : xb_H) : List Value → Option xb_S
  | .ref v :: .int i :: .ref a :: st => match xb_get A a, xb_get A v with
    | some (.inl (t, n, .inr (.inr f))), some (.inr (k, _)) => if into t k = true ∧ xb_z ≤ a ∧ xb_in i n = true then some (pc + 1, L, st, xb_set A a (.inl (t, n, .inr (.inr (va_up f i.toNatClampNeg (some v)))))) else none
    | _, _ => none
  | _ => none
def xb_castx (ok : Nat → Bool) (pc : Nat) (L : xb_L) (A : xb_H) : List Value → Option xb_S
  | .null :: st => some (pc + 3, L, .null :: st, A)
  | .ref a :: st => match xb_get A a with
    | some (.inr (k, _)) => if ok k = true then some (pc + 3, L, .ref a :: st, A) else none
    | some (.inl (.byte, _, _)) => if xb_z ≤ a ∧ ok 100 = true then some (pc + 3, L, .ref a :: st, A) else none
    | _ => none
  | _ => none
def xb_instx (ok : Nat → Bool) (pc : Nat) (L : xb_L) (A : xb_H) : List Value → Option xb_S
  | .null :: st => some (pc + 3, L, .int 0 :: st, A)
  | .ref a :: st => match xb_get A a with
    | some (.inr (k, _)) => if ok k = true then some (pc + 3, L, .int 1 :: st, A) else none
    | _ => none
  | _ => none
def xb_cst (o : Option Value) (pc n : Nat) (L : xb_L) (st : List Value) (A : xb_H) : Option xb_S := match o with
  | some v => some (pc + n, L, v :: st, A)
  | none => none
def xb_lcmpx (pc : Nat) (L : xb_L) (A : xb_H) : List Value → Option xb_S
  | .long y :: .long x :: st => some (pc + 1, L, Value.int (lg_cmp x y) :: st, A)
  | _ => none
def xb_i2lx (pc : Nat) (L : xb_L) (A : xb_H) : List Value → Option xb_S
  | .int x :: st => some (pc + 1, L, .long x.toInt64 :: st, A)
  | _ => none
def xb_l2ix (pc : Nat) (L : xb_L) (A : xb_H) : List Value → Option xb_S
  | .long x :: st => some (pc + 1, L, .int x.toInt32 :: st, A)
  | _ => none
def xb_divx (f : Int32 → Int32 → Int32) (pc : Nat) (L : xb_L) (A : xb_H) : List Value → Option xb_S
  | .int y :: .int x :: st => if y = 0 then none else some (pc + 1, L, .int (f x y) :: st, A)
  | _ => none
def xb_lookx (d : Int) (ps : Array (Int × Int)) (pc : Nat) (L : xb_L) (A : xb_H) : List Value → Option xb_S
  | .int x :: st => match xb_tgt pc (Op.lookupswitch.offset ps.toList d x.toInt) with
    | some t => some (t, L, st, A)
    | none => none
  | _ => none
def xb_tabx (d lo hi : Int) (os : Array Int) (pc : Nat) (L : xb_L) (A : xb_H) : List Value → Option xb_S
  | .int x :: st => if x.toInt < lo ∨ hi < x.toInt then (match xb_tgt pc d with
      | some t => some (t, L, st, A)
      | none => none) else (match os[(x.toInt - lo).toNat]? with
      | some o => (match xb_tgt pc o with
        | some t => some (t, L, st, A)
        | none => none)
      | none => none)
  | _ => none
/-- one instruction that neither calls nor returns -/
def xb_pure (G : xb_G) (q : xb_I) (pc : Nat) (L : xb_L) (st : List Value) (A : xb_H) : Option xb_S := match q.1 with
  | .aconst_null => some (pc + 1, L, .null :: st, A)
  | .iconst n => some (pc + 1, L, .int (Int32.ofInt n) :: st, A)
  | .bipush n => some (pc + 2, L, .int (Int32.ofInt n) :: st, A)
  | .sipush n => some (pc + 3, L, .int (Int32.ofInt n) :: st, A)
  | .iload_n n => xb_ildx pc 1 n L A st
  | .iload n => xb_ildx pc 2 n L A st
  | .lload_n n => xb_lldx pc 1 n L A st
  | .lload n => xb_lldx pc 2 n L A st
  | .aload_n n => xb_aldx pc 1 n L A st
  | .aload n => xb_aldx pc 2 n L A st
  | .istore_n n => xb_istx pc 1 n L A st
  | .istore n => xb_istx pc 2 n L A st
  | .lstore_n n => xb_lstx pc 1 n L A st
  | .lstore n => xb_lstx pc 2 n L A st
  | .astore_n n => xb_astx pc 1 n L A st
  | .astore n => xb_astx pc 2 n L A st
  | .iinc i n => xb_iincx pc i n L A st
  | .iadd => xb_i2 (fun x y => x + y) pc L A st
  | .isub => xb_i2 (fun x y => x - y) pc L A st
  | .imul => xb_i2 (fun x y => x * y) pc L A st
  | .iand => xb_i2 (fun x y => x &&& y) pc L A st
  | .ior => xb_i2 (fun x y => x ||| y) pc L A st
  | .ixor => xb_i2 (fun x y => x ^^^ y) pc L A st
  | .ishl => xb_i2 (fun x y => x <<< (y &&& 31)) pc L A st
  | .ishr => xb_i2 (fun x y => x >>> (y &&& 31)) pc L A st
  | .iushr => xb_i2 (fun x y => (x.toUInt32 >>> (y.toUInt32 &&& Int32.toUInt32 31)).toInt32) pc L A st
  | .idiv => xb_divx (fun x y => x / y) pc L A st
  | .irem => xb_divx (fun x y => x - x / y * y) pc L A st
  | .ineg => xb_i1 (fun x => -x) pc L A st
  | .i2b => xb_i1 (fun x => x.toInt8.toInt32) pc L A st
  | .i2c => xb_i1 (fun x => (x.toUInt32 % 65536).toInt32) pc L A st
  | .i2l => xb_i2lx pc L A st
  | .l2i => xb_l2ix pc L A st
  | .land => xb_l2 (fun x y => x &&& y) pc L A st
  | .lor => xb_l2 (fun x y => x ||| y) pc L A st
  | .lushr => xb_ls (fun x y => (x.toUInt64 >>> (y.toInt64.toUInt64 &&& Int64.toUInt64 63)).toInt64) pc L A st
  | .lshl => xb_ls (fun x y => x <<< (y.toInt64 &&& 63)) pc L A st
  | .lcmp => xb_lcmpx pc L A st
  | .dup => xb_dupx pc L A st
  | .pop => xb_popx pc L A st
  | .dup_x1 => xb_dupx1 pc L A st
  | .dup_x2 => xb_dupx2 pc L A st
  | .dup2 => xb_dup2x pc L A st
  | .ifCond .eq _ => xb_j1 (fun x => decide (x = 0)) pc q.2.2.1 L A st
  | .ifCond .ne _ => xb_j1 (fun x => !decide (x = 0)) pc q.2.2.1 L A st
  | .ifCond .lt _ => xb_j1 (fun x => decide (x < 0)) pc q.2.2.1 L A st
  | .ifCond .ge _ => xb_j1 (fun x => decide (0 ≤ x)) pc q.2.2.1 L A st
  | .ifCond .gt _ => xb_j1 (fun x => decide (0 < x)) pc q.2.2.1 L A st
  | .ifCond .le _ => xb_j1 (fun x => decide (x ≤ 0)) pc q.2.2.1 L A st
  | .if_icmp .eq _ => xb_j2 (fun x y => decide (x = y)) pc q.2.2.1 L A st
  | .if_icmp .ne _ => xb_j2 (fun x y => !decide (x = y)) pc q.2.2.1 L A st
  | .if_icmp .lt _ => xb_j2 (fun x y => decide (x < y)) pc q.2.2.1 L A st
  | .if_icmp .ge _ => xb_j2 (fun x y => decide (y ≤ x)) pc q.2.2.1 L A st
  | .if_icmp .gt _ => xb_j2 (fun x y => decide (y < x)) pc q.2.2.1 L A st
  | .if_icmp .le _ => xb_j2 (fun x y => decide (x ≤ y)) pc q.2.2.1 L A st
  | .if_acmp .eq _ => xb_ja true pc q.2.2.1 L A st
  | .if_acmp .ne _ => xb_ja false pc q.2.2.1 L A st
  | .ifnull _ => xb_jn true pc q.2.2.1 L A st
  | .ifnonnull _ => xb_jn false pc q.2.2.1 L A st
  | .goto _ => some (q.2.2.1, L, st, A)
  | .lookupswitch d ps => xb_lookx d ps pc L A st
  | .tableswitch d lo hi os => xb_tabx d lo hi os pc L A st
  | .getfield _ => xb_getx pc q.2.2.1 q.2.2.2 L A st
  | .putfield _ => xb_putx (xb_gT G) pc q.2.2.1 q.2.2.2 L A st
  | .getstatic _ => xb_cst (xb_gS G q.2.2.1) pc 3 L st A
  | .ldc _ => xb_cst (xb_gC G q.2.2.1) pc 2 L st A
  | .ldc2_w _ => xb_cst (xb_gC G q.2.2.1) pc 3 L st A
  | .new _ => xb_newx (xb_gT G) pc q.2.2.1 L st A
  | .newarray t => xb_newax (newarray.typeOf t) pc 2 L A st
  | .anewarray _ => xb_newax (xb_gE G q.2.2.1) pc 3 L A st
  | .arraylength => xb_alenx pc L A st
  | .iaload => xb_ial xb_isI pc L A st
  | .caload => xb_ial xb_isC pc L A st
  | .baload => xb_ial xb_isB pc L A st
  | .laload => xb_lal pc L A st
  | .aaload => xb_aal pc L A st
  | .iastore => xb_ias xb_isI pc L A st
  | .castore => xb_ias xb_isC pc L A st
  | .bastore => xb_ias xb_isB pc L A st
  | .lastore => xb_las pc L A st
  | .aastore => xb_aas (xb_gI G) pc L A st
  | .checkcast _ => xb_castx (fun k => xb_gX G k q.2.2.1) pc L A st
  | .instanceof _ => xb_instx (fun k => xb_gX G k q.2.2.1) pc L A st
  | _ => none
/-- the end of a call: a value, or an exception of a kind -/
abbrev xb_R : Type := Option Value ⊕ Nat
def xb_pop (n : Nat) (st : List Value) : Option (List Value × List Value) := if n ≤ st.length ∧ ((st.drop n).map fun v => v.category).sum ≤ 8 then some ((st.take n).reverse, st.drop n) else none
/-- the receiver is an object of the class that the callee asks -/
def xb_rcv (G : xb_G) (y : Nat) (av : List Value) (A : xb_H) : Bool := match xb_gV G y with
  | none => true
  | some k => match av with
    | .ref a :: _ => (match xb_get A a with
      | some (.inr (c, _)) => decide (c = k)
      | _ => false)
    | _ => false
def xb_retI (G : xb_G) (mno : Nat) (A : xb_H) : List Value → Option (xb_R × xb_H)
  | [.int x] => match xb_gR G mno with
    | some t => if narrow t (.int x) = .int x ∧ xb_isP t = true then some (.inl (some (.int x)), A) else none
    | none => none
  | _ => none
def xb_retL (G : xb_G) (mno : Nat) (A : xb_H) : List Value → Option (xb_R × xb_H)
  | [.long x] => if xb_gR G mno = some .long then some (.inl (some (.long x)), A) else none
  | _ => none
def xb_isR (t : Option FieldType) : Bool := match t with
  | some (.object _) => true
  | some (.array _) => true
  | _ => false
def xb_retA (G : xb_G) (mno : Nat) (A : xb_H) : List Value → Option (xb_R × xb_H)
  | [.ref a] => if xb_isR (xb_gR G mno) = true then some (.inl (some (.ref a)), A) else none
  | [.null] => if xb_isR (xb_gR G mno) = true then some (.inl (some .null), A) else none
  | _ => none
def xb_retV (G : xb_G) (mno : Nat) (A : xb_H) : List Value → Option (xb_R × xb_H)
  | [] => if xb_gR G mno = none then some (.inl none, A) else none
  | _ => none
/-- Object's own constructor: nothing happens -/
def xb_objx (d pc : Nat) (L : xb_L) (A : xb_H) : List Value → Option xb_S
  | .ref _ :: st => if 1 ≤ d ∧ (st.map fun v => v.category).sum ≤ 8 then some (pc + 3, L, st, A) else none
  | _ => none
/-- System.arraycopy between two rows of bytes -/
def xb_cpyx (d pc : Nat) (L : xb_L) (A : xb_H) : List Value → Option xb_S
  | .int n :: .int dp :: .ref b :: .int sp :: .ref a :: st => match xb_get A a, xb_get A b with
    | some (.inl (.byte, n0, .inl f)), some (.inl (.byte, n1, .inl g)) => if xb_z ≤ b ∧ ¬ sp < 0 ∧ ¬ dp < 0 ∧ ¬ n < 0 ∧ sp.toNatClampNeg + n.toNatClampNeg ≤ n0 ∧ dp.toNatClampNeg + n.toNatClampNeg ≤ n1 ∧ 1 ≤ d ∧ (st.map fun v => v.category).sum ≤ 8 ∧ (List.range n.toNatClampNeg).all (fun i => fits .byte (.int (f (sp.toNatClampNeg + i)))) = true then some (pc + 3, L, st, xb_set A b (.inl (.byte, n1, .inl (va_cpy f g sp.toNatClampNeg dp.toNatClampNeg n.toNatClampNeg)))) else none
    | _, _ => none
  | _ => none
/-- an element of a row of Object: none, or an object of a class that may lie there -/
def xb_elo (A : xb_H) (r : Option Nat) : Bool := match r with
  | none => true
  | some y => match xb_get A y with
    | some (.inr (k, _)) => decide (k = 9) || decide (k = 4)
    | _ => false
/-- System.arraycopy between two rows of Object -/
def xb_cpyo (d pc : Nat) (L : xb_L) (A : xb_H) : List Value → Option xb_S
  | .int n :: .int dp :: .ref b :: .int sp :: .ref a :: st => match xb_get A a, xb_get A b with
    | some (.inl (.object "java/lang/Object", n0, .inr (.inr f))), some (.inl (.object "java/lang/Object", n1, .inr (.inr g))) => if xb_z ≤ a ∧ xb_z ≤ b ∧ ¬ sp < 0 ∧ ¬ dp < 0 ∧ ¬ n < 0 ∧ sp.toNatClampNeg + n.toNatClampNeg ≤ n0 ∧ dp.toNatClampNeg + n.toNatClampNeg ≤ n1 ∧ 1 ≤ d ∧ (st.map fun v => v.category).sum ≤ 8 ∧ (List.range n.toNatClampNeg).all (fun i => xb_elo A (f (sp.toNatClampNeg + i))) = true then some (pc + 3, L, st, xb_set A b (.inl (.object "java/lang/Object", n1, .inr (.inr (va_cpy f g sp.toNatClampNeg dp.toNatClampNeg n.toNatClampNeg))))) else none
    | _, _ => none
  | _ => none
/-- clone() of a row of bytes -/
def xb_clnx (d pc : Nat) (L : xb_L) (A : xb_H) : List Value → Option xb_S
  | .ref a :: st => match xb_get A a with
    | some (.inl (.byte, n, .inl f)) => if xb_z ≤ a ∧ 1 ≤ d ∧ (st.map fun v => v.category).sum ≤ 8 ∧ (List.range n).all (fun i => fits .byte (.int (f i))) = true then some (pc + 3, L, .ref A.1 :: st, xb_new A n (.inl (.byte, n, .inl f))) else none
    | _ => none
  | _ => none
/-- getClass() of a row of Object: the class object is address 21 -/
def xb_gclx (d pc : Nat) (L : xb_L) (A : xb_H) : List Value → Option xb_S
  | .ref a :: st => match xb_get A a with
    | some (.inl (.object "java/lang/Object", _, _)) => if xb_z ≤ a ∧ 1 ≤ d ∧ (st.map fun v => v.category).sum ≤ 8 then some (pc + 3, L, .ref 21 :: st, A) else none
    | _ => none
  | _ => none
/-- Math.max, Math.min -/
def xb_mmx (mx : Bool) (d pc : Nat) (L : xb_L) (A : xb_H) : List Value → Option xb_S
  | .int y :: .int x :: st => if 1 ≤ d ∧ (st.map fun v => v.category).sum ≤ 8 then some (pc + 3, L, .int (if mx = true then (if x < y then y else x) else (if y < x then y else x)) :: st, A) else none
  | _ => none
/-- calls that are no runs of code -/
def xb_bix (i : Instr) (k : Nat) (d pc : Nat) (L : xb_L) (A : xb_H) (st : List Value) : Option xb_S := match i with
  | .invokespecial _ => xb_objx d pc L A st
  | .invokestatic _ => if k = 5 then xb_cpyx d pc L A st else if k = 2 then xb_mmx true d pc L A st else if k = 3 then xb_mmx false d pc L A st else if k = 6 then xb_cpyo d pc L A st else none
  | .invokevirtual _ => if k = 1 then xb_clnx d pc L A st else if k = 2 then xb_gclx d pc L A st else none
  | _ => none
/-- an exception is made and thrown: its cell is new, nothing is known of it -/
def xb_thr (A : xb_H) : xb_H := (A.1 + 1, A.2.1 + 6, fun x => if x = A.1 then none else A.2.2 x)
/-- which instructions the loop below doesn't leave to xb_pure: 1 int, 2 long, 3 reference, 4 nothing is returned; 5 a call; 6 new -/
def xb_sort (i : Instr) : Nat := match i with
  | .ireturn => 1
  | .lreturn => 2
  | .areturn => 3
  | .return_ => 4
  | .invokespecial _ => 5
  | .invokevirtual _ => 5
  | .invokestatic _ => 5
  | .new _ => 6
  | _ => 0
/-- a call: fuel, depth, method, place, locals, stack, heap -/
def xb_run (G : xb_G) : Nat → Nat → Nat → Nat → xb_L → List Value → xb_H → Option (xb_R × xb_H)
  | 0, _, _, _, _, _, _ => none
  | n + 1, d, y, pc, L, st, A => match xb_gP G y pc with
    | none => none
    | some q => match xb_sort q.1 with
      | 0 => (match xb_pure G q pc L st A with
        | some (pc', L', st', A') => xb_run G n d y pc' L' st' A'
        | none => none)
      | 1 => xb_retI G y A st
      | 2 => xb_retL G y A st
      | 3 => xb_retA G y A st
      | 4 => xb_retV G y A st
      | 5 => if q.2.2.1 = 0 then (match xb_bix q.1 q.2.2.2 d pc L A st with
          | some (pc', L', st', A') => xb_run G n d y pc' L' st' A'
          | none => none) else (match d, xb_pop q.2.2.2 st with
          | d' + 1, some (av, rest) => if xb_rcv G q.2.2.1 av A = true ∧ (lg_sl av).length ≤ xb_gN G q.2.2.1 then (match xb_run G n d' q.2.2.1 0 (lv_args 0 av) [] A with
            | some (.inl v, A') => xb_run G n d y (pc + 3) L (v.toList ++ rest) A'
            | _ => none) else none
          | _, _ => none)
      | _ => if q.2.2.2 = 0 then (match xb_pure G q pc L st A with
          | some (pc', L', st', A') => xb_run G n d y pc' L' st' A'
          | none => none) else if 8 ≤ d ∧ st = [] then some (.inr q.2.2.1, xb_thr A) else none
