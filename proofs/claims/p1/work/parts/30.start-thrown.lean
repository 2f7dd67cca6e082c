/-! The two exceptions at the law's start -/
def xz_k (w : Cond) : Bool := match w with
  | .castable _ _ => true
  | .laysStatic _ _ _ => true
  | .declares _ => true
  | .isRef (.static _ _ _) => true
  | _ => false
def xz_aok (w : Cond) : Bool := decide (w ∈ xt_W) || (xz_k w && (decide (w ∈ lw_tbl) || decide (w ∈ xz_F)))
theorem xz_at1 : (Bundle.ownAtoms0 "ContractDesk" 54 "java/lang/IllegalStateException" xp_ch).all xz_aok = true := by decide +kernel
theorem xz_at2 : (Bundle.ownAtoms0 "ContractDesk" 74 "java/lang/IllegalArgumentException" xp_ch).all xz_aok = true := by decide +kernel
section XZU
variable {b : Nat} {s : State} {D : xs_D}
theorem xz_thr (hts : ∀ w ∈ lw_tbl, w.before #[Value.ref b] s = true) (hN : (Jvm.Cond.and given_1 narrow_1).before #[Value.ref b] s = true) (hb : D.2.2.2.1 = s.heap.size) (hh : D.2.2.2.2.2 = fun q => s.heap[q]?) {own cls : String} {ic : Nat} (h : (Bundle.ownAtoms0 own ic cls xp_ch).all xz_aok = true) : xs_thr D own ic cls xp_ch s := by
  intro U a' hW hU a ha
  rw [hb, hh] at hU
  have h1 := List.all_eq_true.mp h a ha
  simp only [xz_aok, Bool.or_eq_true, Bool.and_eq_true, decide_eq_true_eq] at h1
  rcases h1 with h1 | ⟨hk, h1⟩
  · exact word_at hW (xt_good _ h1) (xz_hts hts _ h1)
  · have h2 : a.before #[Value.ref b] s = true := by
      rcases h1 with h1 | h1
      · exact hts _ h1
      · exact flat_of_before _ hN _ h1
    unfold xz_k at hk
    split at hk
    · exact va_Nw.use rfl (va_Nw.warmC hW (va_Nw.of rfl h2))
    · exact xz_heap hW hU h2
    · exact va_Nw.use rfl (va_Nw.warmD hW (va_Nw.of rfl h2))
    · exact xz_isRef hW hU h2
    · cases hk
theorem xz_T (hts : ∀ w ∈ lw_tbl, w.before #[Value.ref b] s = true) (hN : (Jvm.Cond.and given_1 narrow_1).before #[Value.ref b] s = true) (hb : D.2.2.2.1 = s.heap.size) (hh : D.2.2.2.2.2 = fun q => s.heap[q]?) : xp_T D s := by
  obtain ⟨c1, d1, f1, g1, a1⟩ := Cond.castable_spec (hts _ (xz_in3 72 rfl))
  cases f1.symm.trans g1
  obtain ⟨c2, d2, f2, g2, a2⟩ := Cond.castable_spec (hts _ (xz_in4 137 rfl))
  cases f2.symm.trans g2
  obtain ⟨k1, h1, -⟩ := Vm.findClass_spec f1
  obtain ⟨k2, h2, -⟩ := Vm.findClass_spec f2
  have hn : (Cond.not (.castable "java/lang/IllegalStateException" "java/lang/IllegalArgumentException")).before #[Value.ref b] s = true := xz_n hN 271 (by decide +kernel)
  have a3 : s.vm.assignable c1 c2 = false := by
    simp only [Cond.before, Cond.holds, Cond.value, f1, f2] at hn
    simpa using hn
  exact ⟨⟨c1, c2, k1, k2, f1, f2, h1, h2, a1, a2, a3⟩, xz_thr hts hN hb hh xz_at1, xz_thr hts hN hb hh xz_at2⟩
end XZU
