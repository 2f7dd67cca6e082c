def xt_ad : Int32 := 1
def xt_hi : Int32 := 0
def xt_lo : Int32 := 8
/-! THE TABLES OF THE PROGRAM, by a program out of the Statement (wip/whole/gen.py): classes, fields, statics, constants, codes -/
def xt_T0 : u_T := fun k => match k with
  | 0 => ("ContractDesk", "text", "Ljava/lang/StringBuilder;", true)
  | 1 => ("ContractDesk", "interactions", "[LContractDesk$Interaction;", true)
  | 2 => ("ContractDesk", "interactionCount", "I", false)
  | 3 => ("ContractDesk", "states", "LContractDesk$States;", true)
  | _ => ("ContractDesk", "comparison", "LContractDesk$Comparison;", true)
def xt_T1 : u_T := fun k => match k with
  | 0 => ("ContractDesk$Comparison", "place", "LContractDesk$Path;", true)
  | 1 => ("ContractDesk$Comparison", "mismatches", "[LContractDesk$Mismatch;", true)
  | 2 => ("ContractDesk$Comparison", "found", "I", false)
  | _ => ("ContractDesk$Comparison", "interaction", "LContractDesk$Interaction;", false)
def xt_T2 : u_T := fun k => match k with
  | 0 => ("ContractDesk$Cursor", "letters", "Ljava/lang/String;", true)
  | _ => ("ContractDesk$Cursor", "position", "I", false)
def xt_T3 : u_T := fun k => match k with
  | 0 => ("ContractDesk$Interaction", "strict", "Z", true)
  | 1 => ("ContractDesk$Interaction", "rules", "[LContractDesk$Rule;", true)
  | 2 => ("ContractDesk$Interaction", "ruleCount", "I", false)
  | 3 => ("ContractDesk$Interaction", "states", "[I", true)
  | 4 => ("ContractDesk$Interaction", "stateCount", "I", false)
  | _ => ("ContractDesk$Interaction", "expected", "LContractDesk$Value;", false)
def xt_T4 : u_T := fun k => match k with
  | 0 => ("ContractDesk$Matcher", "sign", "C", true)
  | 1 => ("ContractDesk$Matcher", "bound", "I", true)
  | _ => ("ContractDesk$Matcher", "detail", "Ljava/lang/String;", true)
def xt_T5 : u_T := fun k => match k with
  | 0 => ("ContractDesk$Mismatch", "place", "Ljava/lang/StringBuilder;", true)
  | _ => ("ContractDesk$Mismatch", "kind", "I", false)
def xt_T6 : u_T := fun k => match k with
  | 0 => ("ContractDesk$Path", "steps", "[I", true)
  | _ => ("ContractDesk$Path", "length", "I", false)
def xt_T7 : u_T := fun k => match k with
  | 0 => ("ContractDesk$Rule", "pattern", "LContractDesk$Path;", true)
  | 1 => ("ContractDesk$Rule", "matchers", "Ljava/util/ArrayList;", true)
  | 2 => ("ContractDesk$Rule", "oneIsEnough", "Z", false)
  | _ => ("ContractDesk$Rule", "loose", "Z", false)
def xt_T8 : u_T := fun k => match k with
  | 0 => ("ContractDesk$States", "handlers", "[I", true)
  | 1 => ("ContractDesk$States", "events", "[I", true)
  | _ => ("ContractDesk$States", "eventCount", "I", false)
def xt_T9 : u_T := fun k => match k with
  | 0 => ("ContractDesk$Value", "kind", "LContractDesk$Kind;", true)
  | 1 => ("ContractDesk$Value", "letters", "Ljava/lang/String;", true)
  | 2 => ("ContractDesk$Value", "parts", "Ljava/util/ArrayList;", true)
  | 3 => ("ContractDesk$Value", "key", "C", false)
  | _ => ("ContractDesk$Value", "count", "I", false)
def xt_T10 : u_T := fun k => match k with
  | 0 => ("ContractDeskModel", "thrown", "I", false)
  | 1 => ("ContractDeskModel", "all", "[C", true)
  | 2 => ("ContractDeskModel", "typed", "I", false)
  | 3 => ("ContractDeskModel", "made", "I", false)
  | 4 => ("ContractDeskModel", "strict", "[Z", true)
  | 5 => ("ContractDeskModel", "bodyLength", "[I", true)
  | 6 => ("ContractDeskModel", "rules", "[I", true)
  | 7 => ("ContractDeskModel", "ruleLength", "[I", true)
  | 8 => ("ContractDeskModel", "needCount", "[I", true)
  | 9 => ("ContractDeskModel", "need", "[I", true)
  | 10 => ("ContractDeskModel", "handlers", "[I", true)
  | 11 => ("ContractDeskModel", "events", "I", false)
  | 12 => ("ContractDeskModel", "eventRow", "[I", true)
  | 13 => ("ContractDeskModel", "listed", "I", false)
  | 14 => ("ContractDeskModel", "kinds", "[I", true)
  | 15 => ("ContractDeskModel", "letters", "[I", true)
  | 16 => ("ContractDeskModel", "places", "[C", true)
  | 17 => ("ContractDeskModel", "open", "[C", true)
  | 18 => ("ContractDeskModel", "keys", "[I", true)
  | 19 => ("ContractDeskModel", "spots", "I", false)
  | 20 => ("ContractDeskModel", "around", "[I", true)
  | 21 => ("ContractDeskModel", "step", "[I", true)
  | 22 => ("ContractDeskModel", "pile", "I", false)
  | 23 => ("ContractDeskModel", "job", "[I", true)
  | 24 => ("ContractDeskModel", "left", "[I", true)
  | 25 => ("ContractDeskModel", "right", "[I", true)
  | 26 => ("ContractDeskModel", "spot", "[I", true)
  | 27 => ("ContractDeskModel", "steps", "I", false)
  | 28 => ("ContractDeskModel", "stepRow", "[I", true)
  | 29 => ("ContractDeskModel", "here", "[Z", true)
  | 30 => ("ContractDeskModel", "there", "[Z", true)
  | 31 => ("ContractDeskModel", "items", "[C", true)
  | 32 => ("ContractDeskModel", "often", "[C", true)
  | 33 => ("ContractDeskModel", "one", "[I", true)
  | _ => ("ContractDeskModel", "other", "[I", true)
def xt_T11 : u_T := fun k => match k with
  | 0 => ("java/lang/AbstractStringBuilder", "value", "[B", false)
  | 1 => ("java/lang/AbstractStringBuilder", "coder", "B", false)
  | 2 => ("java/lang/AbstractStringBuilder", "maybeLatin1", "Z", false)
  | _ => ("java/lang/AbstractStringBuilder", "count", "I", false)
def xt_T12 : u_T := fun k => match k with
  | 0 => ("java/lang/String", "value", "[B", true)
  | 1 => ("java/lang/String", "coder", "B", true)
  | 2 => ("java/lang/String", "hash", "I", false)
  | _ => ("java/lang/String", "hashIsZero", "Z", false)
def xt_T13 : u_T := fun k => match k with
  | 0 => ("java/util/ArrayList", "elementData", "[Ljava/lang/Object;", false)
  | 1 => ("java/util/ArrayList", "size", "I", false)
  | _ => ("java/util/AbstractList", "modCount", "I", false)
def xt_T14 : u_T := fun k => match k with
  | _ => ("", "", "", false)
abbrev xt_cl : List vw_C := [("ContractDesk", xt_T0, 5), ("ContractDesk$Comparison", xt_T1, 4), ("ContractDesk$Cursor", xt_T2, 2), ("ContractDesk$Interaction", xt_T3, 6), ("ContractDesk$Matcher", xt_T4, 3), ("ContractDesk$Mismatch", xt_T5, 2), ("ContractDesk$Path", xt_T6, 2), ("ContractDesk$Rule", xt_T7, 4), ("ContractDesk$States", xt_T8, 3), ("ContractDesk$Value", xt_T9, 5), ("ContractDeskModel", xt_T10, 35), ("java/lang/StringBuilder", xt_T11, 4), ("java/lang/String", xt_T12, 4), ("java/util/ArrayList", xt_T13, 3)]
def xt_ty : Nat → List FieldType := fun k => match k with
  | 0 => [.object "java/lang/StringBuilder", .array (.object "ContractDesk$Interaction"), .int, .object "ContractDesk$States", .object "ContractDesk$Comparison"]
  | 1 => [.object "ContractDesk$Path", .array (.object "ContractDesk$Mismatch"), .int, .object "ContractDesk$Interaction"]
  | 2 => [.object "java/lang/String", .int]
  | 3 => [.boolean, .array (.object "ContractDesk$Rule"), .int, .array (.int), .int, .object "ContractDesk$Value"]
  | 4 => [.char, .int, .object "java/lang/String"]
  | 5 => [.object "java/lang/StringBuilder", .int]
  | 6 => [.array (.int), .int]
  | 7 => [.object "ContractDesk$Path", .object "java/util/ArrayList", .boolean, .boolean]
  | 8 => [.array (.int), .array (.int), .int]
  | 9 => [.object "ContractDesk$Kind", .object "java/lang/String", .object "java/util/ArrayList", .char, .int]
  | 10 => [.int, .array (.char), .int, .int, .array (.boolean), .array (.int), .array (.int), .array (.int), .array (.int), .array (.int), .array (.int), .int, .array (.int), .int, .array (.int), .array (.int), .array (.char), .array (.char), .array (.int), .int, .array (.int), .array (.int), .int, .array (.int), .array (.int), .array (.int), .array (.int), .int, .array (.int), .array (.boolean), .array (.boolean), .array (.char), .array (.char), .array (.int), .array (.int)]
  | 11 => [.array (.byte), .byte, .boolean, .int]
  | 12 => [.array (.byte), .byte, .int, .boolean]
  | 13 => [.array (.object "java/lang/Object"), .int, .int]
  | 14 => []
  | _ => []
/-- the names of the statics -/
def xt_sd : Nat → Option (String × String × String) := fun i => match i with
  | 0 => some ("java/lang/String", "COMPACT_STRINGS", "Z")
  | 1 => some ("jdk/internal/util/Preconditions", "SIOOBE_FORMATTER", "Ljava/util/function/BiFunction;")
  | 2 => some ("java/lang/StringUTF16", "$assertionsDisabled", "Z")
  | 3 => some ("java/lang/StringUTF16", "HI_BYTE_SHIFT", "I")
  | 4 => some ("java/lang/StringUTF16", "LO_BYTE_SHIFT", "I")
  | 5 => some ("ContractDesk$Kind", "NULL", "LContractDesk$Kind;")
  | 6 => some ("ContractDesk$Kind", "BOOLEAN", "LContractDesk$Kind;")
  | 7 => some ("ContractDesk$Kind", "NUMBER", "LContractDesk$Kind;")
  | 8 => some ("ContractDesk$Kind", "STRING", "LContractDesk$Kind;")
  | 9 => some ("ContractDesk$Kind", "ARRAY", "LContractDesk$Kind;")
  | 10 => some ("ContractDesk$Kind", "OBJECT", "LContractDesk$Kind;")
  | 11 => some ("java/util/ArrayList", "DEFAULTCAPACITY_EMPTY_ELEMENTDATA", "[Ljava/lang/Object;")
  | 12 => some ("java/lang/Integer", "DigitOnes", "[B")
  | 13 => some ("java/lang/Integer", "DigitTens", "[B")
  | _ => none
/-- what the statics hold: numbers as the Statement gives them; the formatter w (a reference or null, nobody looks into it); cells 0 to 8 -/
def xt_S (w : Value) : Nat → Option Value := fun i => match i with
  | 0 => some (.int 1)
  | 1 => some w
  | 2 => some (.int xt_ad)
  | 3 => some (.int xt_hi)
  | 4 => some (.int xt_lo)
  | 5 => some (.ref 0)
  | 6 => some (.ref 1)
  | 7 => some (.ref 2)
  | 8 => some (.ref 3)
  | 9 => some (.ref 4)
  | 10 => some (.ref 5)
  | 11 => some (.ref 6)
  | 12 => some (.ref 7)
  | 13 => some (.ref 8)
  | _ => none
def xt_C : Nat → Option Value := fun i => match i with
  | 0 => some (.ref 9)
  | 1 => some (.ref 10)
  | 2 => some (.ref 11)
  | 3 => some (.ref 12)
  | 4 => some (.ref 13)
  | 5 => some (.int (Int32.ofInt 1073741823))
  | 6 => some (.int (Int32.ofInt 2147483639))
  | 7 => some (.int (Int32.ofInt 2147483647))
  | 8 => some (.long (Int64.ofInt 4294967295))
  | 9 => some (.ref 21)
  | _ => none
/-- where the string constants stand -/
def xt_sl : String → Nat → Option Nat := fun c i => match c, i with
  | "ContractDesk$Cursor", 39 => some 0
  | "ContractDesk$Matcher", 27 => some 0
  | "ContractDesk$Value", 58 => some 1
  | "ContractDesk$Value", 69 => some 2
  | "ContractDesk$Value", 74 => some 3
  | "ContractDesk$Value", 86 => some 0
  | "ContractDesk$Value", 128 => some 4
  | "java/lang/StringLatin1", 151 => some 0
  | "java/lang/StringUTF16", 295 => some 0
  | _, _ => none
def xt_E : Nat → FieldType := fun i => match i with
  | 0 => .object "ContractDesk$Interaction"
  | 1 => .object "ContractDesk$Mismatch"
  | 2 => .object "ContractDesk$Rule"
  | 3 => .object "java/lang/Object"
  | _ => .int
/-- which class may lie in a row of a type -/
def xt_I : FieldType → Nat → Bool := fun t k => match t, k with
  | .object "ContractDesk$Interaction", 3 => true
  | .object "ContractDesk$Mismatch", 5 => true
  | .object "ContractDesk$Rule", 7 => true
  | .object "java/lang/Object", 9 => true
  | .object "java/lang/Object", 4 => true
  | _, _ => false
/-- which class passes which cast -/
def xt_X : Nat → Nat → Bool := fun k b => match k, b with
  | 9, 0 => true
  | 4, 1 => true
  | 12, 2 => true
  | 100, 3 => true
  | _, _ => false
