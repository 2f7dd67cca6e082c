/-! Rows: clone, getClass, casts, rows of Object, comparison of references -/
section XRK
variable {G : xb_G} {d y pc : Nat} {L : xb_L} {st : List Value} {A : xb_H} {Q : xb_R → xb_H → Prop}
theorem xr_clone {idx a n : Nat} {f : Nat → Int} (hq : xb_gP G y pc = some (.invokevirtual idx, 3, 0, 1)) (hg : xb_get A a = some (.inl (.byte, n, .inl fun j => Int32.ofInt (f j)))) (hz : xb_z ≤ a) (hd : 1 ≤ d) (hc : (st.map fun v => v.category).sum ≤ 8) (hf : ∀ j : Nat, j < n → 0 ≤ f j ∧ f j ≤ 127) (kk : xr_ok G d y (pc + 3) L (.ref A.1 :: st) (xb_new A n (.inl (.byte, n, .inl fun j => Int32.ofInt (f j)))) Q) : xr_ok G d y pc L (.ref a :: st) A Q := by
  refine xr_obj hq rfl rfl ?_ kk
  show xb_clnx d pc L A (.ref a :: st) = _
  unfold xb_clnx
  simp only [hg]
  rw [if_pos ⟨hz, hd, hc, List.all_eq_true.mpr fun i hi => xr_fitB (hf i (List.mem_range.mp hi))⟩]
theorem xr_getCl {idx a n : Nat} {g : (Nat → Int32) ⊕ (Nat → Int64) ⊕ (Nat → Option Nat)} (hq : xb_gP G y pc = some (.invokevirtual idx, 3, 0, 2)) (hg : xb_get A a = some (.inl (.object "java/lang/Object", n, g))) (hz : xb_z ≤ a) (hd : 1 ≤ d) (hc : (st.map fun v => v.category).sum ≤ 8) (kk : xr_ok G d y (pc + 3) L (.ref 21 :: st) A Q) : xr_ok G d y pc L (.ref a :: st) A Q := by
  refine xr_obj hq rfl rfl ?_ kk
  show xb_gclx d pc L A (.ref a :: st) = _
  unfold xb_gclx
  simp only [hg]
  rw [if_pos ⟨hz, hd, hc⟩]
theorem xr_cpyO {idx a b n0 n1 : Nat} {sp dp n : Int} {f g : Nat → Option Nat} (hq : xb_gP G y pc = some (.invokestatic idx, 3, 0, 6)) (ha : xb_get A a = some (.inl (.object "java/lang/Object", n0, .inr (.inr f)))) (hb : xb_get A b = some (.inl (.object "java/lang/Object", n1, .inr (.inr g)))) (hza : xb_z ≤ a) (hz : xb_z ≤ b) (hs : 0 ≤ sp) (hdp : 0 ≤ dp) (hn : 0 ≤ n) (h0 : sp + n ≤ n0) (h1 : dp + n ≤ n1) (hN : n0 ≤ 65536 ∧ n1 ≤ 65536) (hd : 1 ≤ d) (hc : (st.map fun v => v.category).sum ≤ 8) (hf : ∀ j : Nat, j < n.toNat → xb_elo A (f (sp.toNat + j)) = true)
    (kk : xr_ok G d y (pc + 3) L st (xb_set A b (.inl (.object "java/lang/Object", n1, .inr (.inr (va_cpy f g sp.toNat dp.toNat n.toNat))))) Q) : xr_ok G d y pc L (.int (Int32.ofInt n) :: .int (Int32.ofInt dp) :: .ref b :: .int (Int32.ofInt sp) :: .ref a :: st) A Q := by
  obtain ⟨s1, s2⟩ := xr_toNatC hs (by omega)
  obtain ⟨d1, d2⟩ := xr_toNatC hdp (by omega)
  obtain ⟨n1', n2'⟩ := xr_toNatC hn (by omega)
  refine xr_obj hq rfl rfl ?_ kk
  show xb_cpyo d pc L A (.int (Int32.ofInt n) :: .int (Int32.ofInt dp) :: .ref b :: .int (Int32.ofInt sp) :: .ref a :: st) = _
  unfold xb_cpyo
  simp only [ha, hb]
  rw [s2, d2, n2', if_pos ⟨hza, hz, s1, d1, n1', by omega, by omega, hd, hc, List.all_eq_true.mpr fun i hi => hf i (List.mem_range.mp hi)⟩]
theorem xr_castO {idx r k a : Nat} {fs : List Value} (hq : xb_gP G y pc = some (.checkcast idx, 3, r, 0)) (hg : xb_get A a = some (.inr (k, fs))) (hk : xb_gX G k r = true) (kk : xr_ok G d y (pc + 3) L (.ref a :: st) A Q) : xr_ok G d y pc L (.ref a :: st) A Q := by
  refine xr_pure hq rfl ?_ kk
  show xb_castx (fun k => xb_gX G k r) pc L A (.ref a :: st) = _
  unfold xb_castx
  simp only [hg]
  rw [if_pos hk]
theorem xr_castB {idx r a n : Nat} {g : (Nat → Int32) ⊕ (Nat → Int64) ⊕ (Nat → Option Nat)} (hq : xb_gP G y pc = some (.checkcast idx, 3, r, 0)) (hg : xb_get A a = some (.inl (.byte, n, g))) (hz : xb_z ≤ a) (hk : xb_gX G 100 r = true) (kk : xr_ok G d y (pc + 3) L (.ref a :: st) A Q) : xr_ok G d y pc L (.ref a :: st) A Q := by
  refine xr_pure hq rfl ?_ kk
  show xb_castx (fun k => xb_gX G k r) pc L A (.ref a :: st) = _
  unfold xb_castx
  simp only [hg]
  rw [if_pos ⟨hz, hk⟩]
theorem xr_instO {idx r k a : Nat} {fs : List Value} (hq : xb_gP G y pc = some (.instanceof idx, 3, r, 0)) (hg : xb_get A a = some (.inr (k, fs))) (hk : xb_gX G k r = true) (kk : xr_ok G d y (pc + 3) L (.int (Int32.ofInt 1) :: st) A Q) : xr_ok G d y pc L (.ref a :: st) A Q := by
  refine xr_pure hq rfl ?_ kk
  show xb_instx (fun k => xb_gX G k r) pc L A (.ref a :: st) = _
  unfold xb_instx
  simp only [hg]
  rw [if_pos hk]
  rfl
theorem xr_acmp {e : Bool} {t a b : Nat} {q : xb_I} (hq : xb_gP G y pc = some q) (hs : xb_sort q.1 = 0) (hp : xb_pure G q pc L (.ref b :: .ref a :: st) A = xb_ja e pc t L A (.ref b :: .ref a :: st)) (ha : xb_dist a = true) (hb : xb_dist b = true) (k1 : a = b → xr_ok G d y (if e = true then t else pc + 3) L st A Q) (k2 : ¬ a = b → xr_ok G d y (if e = true then pc + 3 else t) L st A Q) : xr_ok G d y pc L (.ref b :: .ref a :: st) A Q := by
  have h1 : xb_ja e pc t L A (.ref b :: .ref a :: st) = some (if decide (some a = some b) = e then t else pc + 3, L, st, A) := by
    show (if (xb_ok A (some a) = true ∧ xb_ok A (some b) = true) ∨ some a = some b then some (if decide (some a = some b) = e then t else pc + 3, L, st, A) else none) = _
    rw [if_pos (Or.inl ⟨ha, hb⟩)]
  by_cases h : a = b
  · have k := k1 h
    refine xr_pure hq hs (hp.trans h1) ?_
    rw [decide_eq_true (congrArg some h)]
    cases e
    · rw [if_neg (by decide)]; exact k
    · rw [if_pos rfl]; exact k
  · have k := k2 h
    refine xr_pure hq hs (hp.trans h1) ?_
    rw [decide_eq_false (fun z => h (Option.some.inj z))]
    cases e
    · rw [if_pos rfl]; exact k
    · rw [if_neg (by decide)]; exact k
end XRK
