/-! The state at the law's start: the words -/
theorem xz_in1 (i : Nat) {w : Cond} (h : tables_1_1[i]? = some w) : w ∈ lw_tbl := List.mem_append_right _ (show w ∈ tables_1 from (List.mem_append_left _ (List.mem_of_getElem? h)))
theorem xz_in2 (i : Nat) {w : Cond} (h : tables_1_2[i]? = some w) : w ∈ lw_tbl := List.mem_append_right _ (show w ∈ tables_1 from (List.mem_append_right _ (List.mem_append_left _ (List.mem_of_getElem? h))))
theorem xz_in3 (i : Nat) {w : Cond} (h : tables_1_3[i]? = some w) : w ∈ lw_tbl := List.mem_append_right _ (show w ∈ tables_1 from (List.mem_append_right _ (List.mem_append_right _ (List.mem_append_left _ (List.mem_of_getElem? h)))))
theorem xz_in4 (i : Nat) {w : Cond} (h : tables_1_4[i]? = some w) : w ∈ lw_tbl := List.mem_append_right _ (show w ∈ tables_1 from (List.mem_append_right _ (List.mem_append_right _ (List.mem_append_right _ (List.mem_append_left _ (List.mem_of_getElem? h))))))
theorem xz_in5 (i : Nat) {w : Cond} (h : tables_1_5[i]? = some w) : w ∈ lw_tbl := List.mem_append_right _ (show w ∈ tables_1 from (List.mem_append_right _ (List.mem_append_right _ (List.mem_append_right _ (List.mem_append_right _ (List.mem_append_left _ (List.mem_of_getElem? h)))))))
theorem xz_in6 (i : Nat) {w : Cond} (h : tables_1_6[i]? = some w) : w ∈ lw_tbl := List.mem_append_right _ (show w ∈ tables_1 from (List.mem_append_right _ (List.mem_append_right _ (List.mem_append_right _ (List.mem_append_right _ (List.mem_append_right _ (List.mem_append_left _ (List.mem_of_getElem? h))))))))
theorem xz_in7 (i : Nat) {w : Cond} (h : tables_1_7[i]? = some w) : w ∈ lw_tbl := List.mem_append_right _ (show w ∈ tables_1 from (List.mem_append_right _ (List.mem_append_right _ (List.mem_append_right _ (List.mem_append_right _ (List.mem_append_right _ (List.mem_append_right _ (List.mem_of_getElem? h))))))))
theorem xz_sel {y z : MethodName} {s : State} {args : Array Value} {C : String} (hy : y.cls ≠ "java/lang/invoke/MethodHandle" ∧ y.cls ≠ "java/lang/invoke/VarHandle") (hz : (Cond.selects C z z).before args s = true) (hcls : z.cls = y.cls) (hpriv : (Cond.privateMethod y).before args s = true) (hinst : (Cond.instanceMethod y).before args s = true) : (Cond.selects C y y).before args s = true := by
  obtain ⟨c, r, m, hc, -, hm, -, k, hk, hni⟩ := Cond.selects_spec hz
  obtain ⟨mk, methM, hnamed, hmethM, -, -⟩ := Cond.instanceMethod_spec hinst
  have hfound : s.methodFound? y.cls y.name y.desc = some mk := State.methodFound?_of_named hnamed hy
  have e : mk.cls = m.cls := by
    have h1 := findClass_of_methodNamed hnamed
    have h2 := findClass_of_methodNamed hm
    rw [hcls] at h2
    exact Option.some.inj (h1.symm.trans h2)
  have hsel : selectMethod {} s.vm c mk = .method mk := selectMethod_private hmethM (Cond.privateMethod_at hpriv mk methM hnamed hmethM)
  simp only [Cond.before, Cond.holds, Cond.value, hc, hfound, hnamed, hsel, e, hk]
  simp; exact hni
theorem xz_hts {s : State} {args : Array Value} (hts : ∀ w ∈ lw_tbl, w.before args s = true) : ∀ w ∈ xt_W, w.before args s = true := by
  intro w hw
  rcases List.mem_append.mp (List.mem_filter.mp hw).1 with h | h
  · exact hts w h
  · have hz := hts _ (xz_in1 217 rfl)
    simp only [xt_selP, List.mem_cons, List.not_mem_nil, or_false] at h
    rcases h with rfl | rfl | rfl
    · exact xz_sel ⟨by decide +kernel, by decide +kernel⟩ hz rfl (hts _ (xz_in1 180 rfl)) (hts _ (xz_in1 181 rfl))
    · exact xz_sel ⟨by decide +kernel, by decide +kernel⟩ hz rfl (hts _ (xz_in1 223 rfl)) (hts _ (xz_in1 224 rfl))
    · exact xz_sel ⟨by decide +kernel, by decide +kernel⟩ hz rfl (hts _ (xz_in1 184 rfl)) (hts _ (xz_in1 185 rfl))
theorem xz_cls {s : State} {args : Array Value} (h : ∀ w ∈ xt_W, w.before args s = true) : ∃ q : Nat → ClassId × (Nat → Nat), ∀ (k : Nat) (r : vw_C), xt_cl[k]? = some r → u_Kn s r.1 r.2.1 r.2.2 (q k).1 (q k).2 := by
  have h0 : ∀ k : Nat, ∃ q : ClassId × (Nat → Nat), ∀ r : vw_C, xt_cl[k]? = some r → u_Kn s r.1 r.2.1 r.2.2 q.1 q.2 := by
    intro k
    match k with
    | 0 =>
      obtain ⟨c, i, hh⟩ := u_known h xc_0 (h _ (xt_in1 35 rfl rfl))
      exact ⟨(c, i), fun r hr => by cases hr; exact hh⟩
    | 1 =>
      obtain ⟨c, i, hh⟩ := u_known h xc_1 (h _ (xt_in1 95 rfl rfl))
      exact ⟨(c, i), fun r hr => by cases hr; exact hh⟩
    | 2 =>
      obtain ⟨c, i, hh⟩ := u_known h xc_2 (h _ (xt_in2 65 rfl rfl))
      exact ⟨(c, i), fun r hr => by cases hr; exact hh⟩
    | 3 =>
      obtain ⟨c, i, hh⟩ := u_known h xc_3 (h _ (xt_in2 45 rfl rfl))
      exact ⟨(c, i), fun r hr => by cases hr; exact hh⟩
    | 4 =>
      obtain ⟨c, i, hh⟩ := u_known h xc_4 (h _ (xt_in4 224 rfl rfl))
      exact ⟨(c, i), fun r hr => by cases hr; exact hh⟩
    | 5 =>
      obtain ⟨c, i, hh⟩ := u_known h xc_5 (h _ (xt_in1 115 rfl rfl))
      exact ⟨(c, i), fun r hr => by cases hr; exact hh⟩
    | 6 =>
      obtain ⟨c, i, hh⟩ := u_known h xc_6 (h _ (xt_in1 101 rfl rfl))
      exact ⟨(c, i), fun r hr => by cases hr; exact hh⟩
    | 7 =>
      obtain ⟨c, i, hh⟩ := u_known h xc_7 (h _ (xt_in4 195 rfl rfl))
      exact ⟨(c, i), fun r hr => by cases hr; exact hh⟩
    | 8 =>
      obtain ⟨c, i, hh⟩ := u_known h xc_8 (h _ (xt_in1 78 rfl rfl))
      exact ⟨(c, i), fun r hr => by cases hr; exact hh⟩
    | 9 =>
      obtain ⟨c, i, hh⟩ := u_known h xc_9 (h _ (xt_in3 177 rfl rfl))
      exact ⟨(c, i), fun r hr => by cases hr; exact hh⟩
    | 10 =>
      obtain ⟨c, i, hh⟩ := u_known h xc_10 (h _ (xt_in5 213 rfl rfl))
      exact ⟨(c, i), fun r hr => by cases hr; exact hh⟩
    | 11 =>
      obtain ⟨c, i, hh⟩ := u_known h xc_11 (h _ (xt_in1 43 rfl rfl))
      exact ⟨(c, i), fun r hr => by cases hr; exact hh⟩
    | 12 =>
      obtain ⟨c, i, hh⟩ := u_known h xc_12 (h _ (xt_in2 71 rfl rfl))
      exact ⟨(c, i), fun r hr => by cases hr; exact hh⟩
    | 13 =>
      obtain ⟨c, i, hh⟩ := u_known h xc_13 (h _ (xt_in3 186 rfl rfl))
      exact ⟨(c, i), fun r hr => by cases hr; exact hh⟩
    | n + 14 => exact ⟨(0, fun _ => 0), fun r hr => absurd hr (by simp)⟩
  obtain ⟨q, hq⟩ := Classical.axiomOfChoice h0
  exact ⟨q, hq⟩
/-- the classes of the rows -/
def xz_ar (s : State) (t : FieldType) : ClassId := (s.vm.findClass ("[" ++ t.toString)).getD 0
theorem xz_ar_of {s : State} {t : FieldType} {c : ClassId} (h : s.vm.findClass ("[" ++ t.toString) = some c) : xz_ar s t = c := by
  unfold xz_ar
  rw [h]
  rfl
theorem xz_arP {s : State} {args : Array Value} {t : FieldType} (h : (Cond.arrayClass t).before args s = true) : s.vm.findClass ("[" ++ t.toString) = some (xz_ar s t) := by
  obtain ⟨c, k, comp, h1, -⟩ := Cond.arrayClass_spec h
  rw [xz_ar_of h1]
  exact h1
theorem xz_arO {s : State} {args : Array Value} {n : String} (h : (Cond.arrayOver (.object n)).before args s = true) : s.vm.findClass ("[" ++ (FieldType.object n).toString) = some (xz_ar s (.object n)) := by
  obtain ⟨comp, c, k, -, -, -, -, h5⟩ := Cond.arrayOver_spec h
  rw [xz_ar_of h5]
  exact h5
theorem xz_arr {s : State} {args : Array Value} (hts : ∀ w ∈ lw_tbl, w.before args s = true) : ∀ t ∈ xt_TY, s.vm.findClass ("[" ++ t.toString) = some (xz_ar s t) := by
  intro t ht
  simp only [xt_TY, List.mem_cons, List.not_mem_nil, or_false] at ht
  rcases ht with rfl | rfl | rfl | rfl | rfl | rfl | rfl | rfl | rfl
  · exact xz_arP (hts _ (xz_in1 93 rfl))
  · exact xz_arP (hts _ (xz_in6 84 rfl))
  · exact xz_arP (hts _ (xz_in1 74 rfl))
  · exact xz_arP (hts _ (xz_in6 85 rfl))
  · exact xz_arP (hts _ (xz_in7 68 rfl))
  · exact xz_arO (hts _ (xz_in1 76 rfl))
  · exact xz_arO (hts _ (xz_in1 114 rfl))
  · exact xz_arO (hts _ (xz_in3 137 rfl))
  · exact xz_arO (hts _ (xz_in4 36 rfl))
theorem xz_ao {s : State} {args : Array Value} (hts : ∀ w ∈ lw_tbl, w.before args s = true) : ∀ C : String, FieldType.object C ∈ xt_TY → va_AO C s := by
  intro C hC
  simp only [xt_TY, List.mem_cons, List.not_mem_nil, or_false, reduceCtorEq, false_or, FieldType.object.injEq] at hC
  rcases hC with rfl | rfl | rfl | rfl
  · exact va_AO.of (hts _ (xz_in1 76 rfl))
  · exact va_AO.of (hts _ (xz_in1 114 rfl))
  · exact va_AO.of (hts _ (xz_in3 137 rfl))
  · exact va_AO.of (hts _ (xz_in4 36 rfl))
theorem xz_castSS {s : State} {c : ClassId} (h : ClassAt s "java/lang/String" c) : va_Nw (.castable "java/lang/String" "java/lang/String") s := by
  obtain ⟨h1, -⟩ := h
  simp [va_Nw, Cond.before, Cond.holds, Cond.value, h1, va_asg]
theorem xz_nw {s : State} {args : Array Value} (hts : ∀ w ∈ lw_tbl, w.before args s = true) : ∀ w ∈ xt_NW, xs_nk w = true ∧ va_Nw w s := by
  intro w hw
  simp only [xt_NW, List.mem_cons, List.not_mem_nil, or_false] at hw
  rcases hw with rfl | rfl | rfl | rfl | rfl | rfl | rfl
  · exact ⟨rfl, va_Nw.of rfl (hts _ (xz_in7 79 rfl))⟩
  · exact ⟨rfl, va_Nw.of rfl (hts _ (xz_in7 80 rfl))⟩
  · obtain ⟨c, hc⟩ := classAt_of (hts _ (xz_in2 71 rfl))
    exact ⟨rfl, xz_castSS hc⟩
  · exact ⟨rfl, va_Nw.of rfl (hts _ (xz_in4 154 rfl))⟩
  · exact ⟨rfl, va_Nw.of rfl (hts _ (xz_in5 146 rfl))⟩
  · exact ⟨rfl, va_Nw.of rfl (hts _ (xz_in1 206 rfl))⟩
  · exact ⟨rfl, va_Nw.of rfl (hts _ (xz_in7 83 rfl))⟩
/-- the premises of the start -/
def xz_F : List Cond := flatC (Jvm.Cond.and given_1 narrow_1)
theorem xz_n {b : Nat} {s : State} (hN : (Jvm.Cond.and given_1 narrow_1).before #[Value.ref b] s = true) (i : Nat) {w : Cond} (h : xz_F[i]? = some w) : w.before #[Value.ref b] s = true := flat_of_before _ hN _ (List.mem_of_getElem? h)
/-! what an exception's making asks, at every later state -/
section XZT
variable {s U : State} {args a' : Array Value}
theorem xz_heap {C n d : String} (hW : s.WarmedH U.vm) (hh : ∀ q, q < s.heap.size → U.heap[q]? = s.heap[q]?) (h : (Cond.laysStatic C n d).before args s = true) : (Cond.laysStatic C n d).before a' U = true := by
  obtain ⟨c, k, i, f, a, cell, hc, hi, hst, ha, hcell, hs, hcls, hlt, hty⟩ := Cond.laysStatic_spec h
  obtain ⟨k', hi', hek⟩ := State.fieldFound?_setVm hW.alike hi
  exact Cond.laysStatic_of (s := U) (by rw [hW.alike.findClass]; exact hc) hi' hst (by rw [hek]; exact ha) (by rw [hh a (Array.getElem?_eq_some_iff.mp hcell).1]; exact hcell) hs hcls hlt (by rw [hek]; exact hty)
theorem xz_isRef {C n d : String} (hW : s.WarmedH U.vm) (hh : ∀ q, q < s.heap.size → U.heap[q]? = s.heap[q]?) (h : (Cond.isRef (.static C n d)).before args s = true) : (Cond.isRef (.static C n d)).before a' U = true := by
  obtain ⟨v, hv, hr⟩ := Cond.isRef_spec h
  cases hi : s.fieldFound? C n d with
  | none => simp [Term.eval, State.fieldNamed?, hi] at hv
  | some w =>
    obtain ⟨c, k, i, f⟩ := w
    obtain ⟨hst, a, cell, ha, hcell, -, hslot⟩ := Term.static_spec hi hv
    have hs : cell.vm.isStatics = true := by
      simp only [Term.eval, State.fieldNamed?, hi, Option.bind_eq_bind, Option.bind_some, hst, beq_self_eq_true, if_true, Option.pure_def, ha, hcell] at hv
      by_cases h' : cell.vm.isStatics = true
      · exact h'
      · simp [h'] at hv
    obtain ⟨k', hi', hek⟩ := State.fieldFound?_setVm hW.alike hi
    have he : (Term.static C n d).eval a' U none [] U = some v := Term.static_eval (s := U) hi' hst (by rw [hek]; exact ha) (by rw [hh a (Array.getElem?_eq_some_iff.mp hcell).1]; exact hcell) hs hslot
    cases v <;> first | (cases hr; done) | simp [Cond.before, Cond.holds, Cond.value, he]
end XZT
