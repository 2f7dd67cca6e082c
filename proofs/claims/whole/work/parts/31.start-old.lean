/-! The old cells -/
def xz_tms : List Term := [.static "ContractDesk$Kind" "NULL" "LContractDesk$Kind;", .static "ContractDesk$Kind" "BOOLEAN" "LContractDesk$Kind;", .static "ContractDesk$Kind" "NUMBER" "LContractDesk$Kind;", .static "ContractDesk$Kind" "STRING" "LContractDesk$Kind;", .static "ContractDesk$Kind" "ARRAY" "LContractDesk$Kind;", .static "ContractDesk$Kind" "OBJECT" "LContractDesk$Kind;",
  .static "java/util/ArrayList" "DEFAULTCAPACITY_EMPTY_ELEMENTDATA" "[Ljava/lang/Object;", .static "java/lang/Integer" "DigitOnes" "[B", .static "java/lang/Integer" "DigitTens" "[B",
  .string "ContractDesk$Value" 86, .string "ContractDesk$Value" 58, .string "ContractDesk$Value" 69, .string "ContractDesk$Value" 74, .string "ContractDesk$Value" 128,
  .field (.string "ContractDesk$Value" 86) "java/lang/String" "value" "[B", .field (.string "ContractDesk$Value" 58) "java/lang/String" "value" "[B", .field (.string "ContractDesk$Value" 69) "java/lang/String" "value" "[B", .field (.string "ContractDesk$Value" 74) "java/lang/String" "value" "[B", .field (.string "ContractDesk$Value" 128) "java/lang/String" "value" "[B",
  .static "jdk/internal/util/Preconditions" "SIOOBE_FORMATTER" "Ljava/util/function/BiFunction;", .arg 0, .mirror "[Ljava/lang/Object;"]
def xz_tm (a : Nat) : Term := xz_tms.getD a (.arg 0)
def xz_val (b : Nat) (s : State) (t : Term) : Nat := match t.eval #[Value.ref b] s none [] s with
  | some (.ref x) => x
  | _ => 0
def xz_adr (b : Nat) (s : State) (a : Nat) : Nat := if a < xb_z then xz_val b s (xz_tm a) else s.heap.size + (a - xb_z)
def xz_D (q : Nat → ClassId × (Nat → Nat)) (b : Nat) (s : State) : xs_D := ((fun k => (q k).1, fun k => (q k).2), xz_ar s, xz_adr b s, s.heap.size, fun a => a < 19 ∨ a = 20 ∨ xb_z ≤ a, fun i => s.heap[i]?)
section XZO
variable {b : Nat} {s : State}
theorem xz_at {a x : Nat} {t : Term} (ha : a < xb_z) (ht : xz_tm a = t) (h : t.eval #[Value.ref b] s none [] s = some (.ref x)) : xz_adr b s a = x := by
  unfold xz_adr
  rw [if_pos ha, ht]
  unfold xz_val
  rw [h]
theorem xz_ex {t : Term} {C : String} (h : (Cond.exactly t C).before #[Value.ref b] s = true) : ∃ (x : Nat) (c : ClassId) (cell : Cell), t.eval #[Value.ref b] s none [] s = some (.ref x) ∧ s.vm.findClass C = some c ∧ s.heap[x]? = some cell ∧ cell.cls = c ∧ cell.vm.isStatics = false := by
  obtain ⟨a, c, cA, kA, q1, q2, q3, q4, q5, q6, -⟩ := Cond.exactly_spec (args := #[Value.ref b]) (first := s) (o := none) (s := s) (idx := []) (t := t) (cls := C) h
  exact ⟨a, c, cA, q1, q2, q3, q6, q5⟩
def xz_nm (a : Nat) : String := if a < 6 then "ContractDesk$Kind" else if a = 6 then "[Ljava/lang/Object;" else "java/lang/String"
theorem xz_exs : ∀ a : Nat, a < 14 → ¬ (a = 7 ∨ a = 8) → Cond.exactly (xz_tm a) (xz_nm a) ∈ xz_F := by decide +kernel
def xz_neB (a c : Nat) : Bool := decide (a = 7 ∨ a = 8) || (decide (c = 7 ∨ c = 8) || (!decide (xz_nm a = xz_nm c) || (decide (a = c) || (decide (Cond.not (.eq (xz_tm a) (xz_tm c)) ∈ xz_F) || decide (Cond.not (.eq (xz_tm c) (xz_tm a)) ∈ xz_F)))))
theorem xz_neA : ∀ a : Nat, a < 14 → ∀ c : Nat, c < 14 → xz_neB a c = true := by decide +kernel
theorem xz_nes (a : Nat) (ha : a < 14) (c : Nat) (hc : c < 14) (ha' : ¬ (a = 7 ∨ a = 8)) (hc' : ¬ (c = 7 ∨ c = 8)) (hn : xz_nm a = xz_nm c) (hac : ¬ a = c) : Cond.not (.eq (xz_tm a) (xz_tm c)) ∈ xz_F ∨ Cond.not (.eq (xz_tm c) (xz_tm a)) ∈ xz_F := by
  have h := xz_neA a ha c hc
  unfold xz_neB at h
  rw [decide_eq_false ha', decide_eq_false hc', decide_eq_true hn, decide_eq_false hac] at h
  simpa using h
theorem xz_apart (hN : (Jvm.Cond.and given_1 narrow_1).before #[Value.ref b] s = true) {a c : Nat} (ha : a < 14) (hc : c < 14) (ha' : ¬ (a = 7 ∨ a = 8)) (hc' : ¬ (c = 7 ∨ c = 8)) (e : xz_adr b s a = xz_adr b s c) : a = c := by
  have hs := flat_of_before _ hN
  obtain ⟨x, k1, cell, h1, h2, h3, h4, -⟩ := xz_ex (hs _ (xz_exs a ha ha'))
  obtain ⟨y, k2, cell2, g1, g2, g3, g4, -⟩ := xz_ex (hs _ (xz_exs c hc hc'))
  have hz : a < xb_z := by unfold xb_z; omega
  have hz' : c < xb_z := by unfold xb_z; omega
  rw [xz_at hz rfl h1, xz_at hz' rfl g1] at e
  subst e
  cases h3.symm.trans g3
  have ek : k1 = k2 := h4.symm.trans g4
  subst ek
  obtain ⟨k, hk, hn1⟩ := Vm.findClass_spec h2
  obtain ⟨k', hk', hn2⟩ := Vm.findClass_spec g2
  cases hk.symm.trans hk'
  have hnm : xz_nm a = xz_nm c := hn1.symm.trans hn2
  by_cases hac : a = c
  · exact hac
  · rcases xz_nes a ha c hc ha' hc' hnm hac with h | h
    · exact absurd rfl (va_neR (hs _ h) h1 g1)
    · exact absurd rfl (va_neR (hs _ h) g1 h1)
theorem xz_row {t : Term} {ty : FieldType} {l : List Int32} (hl : l.length < 2 ^ 31) (harr : (Cond.arrayOf t ty).before #[Value.ref b] s = true) (hlen : (Cond.eq (.length t) (.int (Int32.ofNat l.length))).before #[Value.ref b] s = true) (hel : ∀ j : Nat, j < l.length → (Cond.eq (.elem t (.int (Int32.ofNat j))) (.int (l.getD j 0))).before #[Value.ref b] s = true) :
    ∃ x : Nat, t.eval #[Value.ref b] s none [] s = some (.ref x) ∧ va_T ty x l.length (fun j => .int (l.getD j 0)) (fun _ => False) s s.heap := va_Tof hl harr (va_eqt hlen) (fun j hj => va_eqt (hel j hj)) (fun _ _ h => h)
def xz_by (a : Nat) : List Int32 := if a = 7 then xt_dig false else if a = 8 then xt_dig true else xt_str (a - 14)
theorem xz_rowF : ∀ a : Nat, a < 19 → (a = 7 ∨ a = 8 ∨ 14 ≤ a) → Cond.arrayOf (xz_tm a) .byte ∈ xz_F ∧ Cond.eq (.length (xz_tm a)) (.int (Int32.ofNat (xz_by a).length)) ∈ xz_F ∧ (xz_by a).length < 2 ^ 31 := by decide +kernel
theorem xz_elF7 : ∀ j : Nat, j < 100 → xz_F[45 + j]? = some (Cond.eq (.elem (xz_tm 7) (.int (Int32.ofNat j))) (.int ((xz_by 7).getD j 0))) := by decide +kernel
theorem xz_elF8 : ∀ j : Nat, j < 100 → xz_F[148 + j]? = some (Cond.eq (.elem (xz_tm 8) (.int (Int32.ofNat j))) (.int ((xz_by 8).getD j 0))) := by decide +kernel
theorem xz_elFs : ∀ a : Nat, a < 19 → 14 ≤ a → ∀ j : Nat, j < (xz_by a).length → Cond.eq (.elem (xz_tm a) (.int (Int32.ofNat j))) (.int ((xz_by a).getD j 0)) ∈ xz_F := by decide +kernel
theorem xz_len7 : (xz_by 7).length = 100 := by decide +kernel
theorem xz_len8 : (xz_by 8).length = 100 := by decide +kernel
theorem xz_bytes (hN : (Jvm.Cond.and given_1 narrow_1).before #[Value.ref b] s = true) {a : Nat} (ha : a < 19) (ha' : a = 7 ∨ a = 8 ∨ 14 ≤ a) : (xz_tm a).eval #[Value.ref b] s none [] s = some (.ref (xz_adr b s a)) ∧ va_T .byte (xz_adr b s a) (xz_by a).length (fun j => .int ((xz_by a).getD j 0)) (fun _ => False) s s.heap := by
  have hs := flat_of_before _ hN
  obtain ⟨w1, w2, w3⟩ := xz_rowF a ha ha'
  obtain ⟨x, h1, h2⟩ := xz_row (l := xz_by a) w3 (hs _ w1) (hs _ w2) (fun j hj => by
    rcases ha' with rfl | rfl | h
    · rw [xz_len7] at hj
      exact hs _ (List.mem_of_getElem? (xz_elF7 j hj))
    · rw [xz_len8] at hj
      exact hs _ (List.mem_of_getElem? (xz_elF8 j hj))
    · exact hs _ (xz_elFs a ha h j hj))
  rw [xz_at (a := a) (by unfold xb_z; omega) rfl h1]
  exact ⟨h1, h2⟩
end XZO
