/-! Rows for instructions that meet an unknown heap or unknown numbers -/
section XRX
variable {G : xb_G} {d y pc : Nat} {L : xb_L} {st : List Value} {A : xb_H} {Q : xb_R → xb_H → Prop}
theorem xr_getf {idx k i a : Nat} {fs : List Value} {v : Value} (hq : xb_gP G y pc = some (.getfield idx, 3, k, i)) (hg : xb_get A a = some (.inr (k, fs))) (hv : fs[i]? = some v) (kk : xr_ok G d y (pc + 3) L (v :: st) A Q) : xr_ok G d y pc L (.ref a :: st) A Q := by
  refine xr_pure hq rfl ?_ kk
  show xb_getx pc k i L A (.ref a :: st) = _
  unfold xb_getx
  simp only [hg, ↓reduceIte, hv]
theorem xr_putf {idx k i a : Nat} {fs : List Value} {v : Value} {t : FieldType} (hq : xb_gP G y pc = some (.putfield idx, 3, k, i)) (hg : xb_get A a = some (.inr (k, fs))) (hz : xb_z ≤ a) (hi : i < fs.length) (ht : (xb_gT G k)[i]? = some t) (hf : xb_fitx t v = true) (kk : xr_ok G d y (pc + 3) L st (xb_set A a (.inr (k, fs.set i v))) Q) : xr_ok G d y pc L (v :: .ref a :: st) A Q := by
  refine xr_pure hq rfl ?_ kk
  show xb_putx (xb_gT G) pc k i L A (v :: .ref a :: st) = _
  unfold xb_putx
  simp only [hg]
  rw [if_pos ⟨trivial, hz, hi, by rw [ht]; exact hf⟩]
theorem xr_in {i : Int} {n : Nat} (h0 : 0 ≤ i) (h1 : i < n) (hn : n ≤ 2147483647) : xb_in (Int32.ofInt i) n = true ∧ (Int32.ofInt i).toNatClampNeg = i.toNat := by
  have e : (Int32.ofInt i).toInt = i := by
    rw [Int32.toInt_ofInt]
    have hs : ((Int32.size : Nat) : Int) = 4294967296 := rfl
    rw [Int.bmod_eq_of_le (by omega) (by omega)]
  have e2 : (Int32.ofInt i).toNatClampNeg = i.toNat := by
    show (Int32.ofInt i).toInt.toNat = i.toNat
    rw [e]
  refine ⟨?_, e2⟩
  unfold xb_in
  have h2 : ¬ (Int32.ofInt i < 0) := by
    rw [Int32.lt_iff_toInt_lt, e, Int32.toInt_zero]
    omega
  rw [e2]
  simp only [h2, decide_false, Bool.false_or, Bool.not_eq_true', decide_eq_false_iff_not]
  omega
theorem xr_caload {a n : Nat} {i : Int} {f : Nat → Int32} (hq : xb_gP G y pc = some (.caload, 1, 0, 0)) (hg : xb_get A a = some (.inl (.char, n, .inl f))) (h0 : 0 ≤ i) (h1 : i < n) (hn : n ≤ 2147483647) (kk : xr_ok G d y (pc + 1) L (.int (f i.toNat) :: st) A Q) : xr_ok G d y pc L (.int (Int32.ofInt i) :: .ref a :: st) A Q := by
  obtain ⟨e1, e2⟩ := xr_in h0 h1 hn
  refine xr_pure hq rfl ?_ kk
  show xb_ial xb_isC pc L A (.int (Int32.ofInt i) :: .ref a :: st) = _
  unfold xb_ial
  simp only [hg]
  rw [if_pos ⟨rfl, e1⟩, e2]
theorem xr_iaload {a n : Nat} {i : Int} {f : Nat → Int32} (hq : xb_gP G y pc = some (.iaload, 1, 0, 0)) (hg : xb_get A a = some (.inl (.int, n, .inl f))) (h0 : 0 ≤ i) (h1 : i < n) (hn : n ≤ 2147483647) (kk : xr_ok G d y (pc + 1) L (.int (f i.toNat) :: st) A Q) : xr_ok G d y pc L (.int (Int32.ofInt i) :: .ref a :: st) A Q := by
  obtain ⟨e1, e2⟩ := xr_in h0 h1 hn
  refine xr_pure hq rfl ?_ kk
  show xb_ial xb_isI pc L A (.int (Int32.ofInt i) :: .ref a :: st) = _
  unfold xb_ial
  simp only [hg]
  rw [if_pos ⟨rfl, e1⟩, e2]
theorem xr_iadd {a b : Int} (hq : xb_gP G y pc = some (.iadd, 1, 0, 0)) (kk : xr_ok G d y (pc + 1) L (.int (Int32.ofInt (a + b)) :: st) A Q) : xr_ok G d y pc L (.int (Int32.ofInt b) :: .int (Int32.ofInt a) :: st) A Q := by
  rw [Int32.ofInt_add] at kk
  exact xr_pure hq rfl rfl kk
theorem xr_isub {a b : Int} (hq : xb_gP G y pc = some (.isub, 1, 0, 0)) (kk : xr_ok G d y (pc + 1) L (.int (Int32.ofInt (a - b)) :: st) A Q) : xr_ok G d y pc L (.int (Int32.ofInt b) :: .int (Int32.ofInt a) :: st) A Q := by
  rw [Int32.ofInt_sub] at kk
  exact xr_pure hq rfl rfl kk
theorem xr_imul {a b : Int} (hq : xb_gP G y pc = some (.imul, 1, 0, 0)) (kk : xr_ok G d y (pc + 1) L (.int (Int32.ofInt (a * b)) :: st) A Q) : xr_ok G d y pc L (.int (Int32.ofInt b) :: .int (Int32.ofInt a) :: st) A Q := by
  rw [Int32.ofInt_mul] at kk
  exact xr_pure hq rfl rfl kk
theorem xr_toInt {a : Int} (h : -2147483648 ≤ a ∧ a ≤ 2147483647) : (Int32.ofInt a).toInt = a := by
  rw [Int32.toInt_ofInt]
  have hs : ((Int32.size : Nat) : Int) = 4294967296 := rfl
  exact Int.bmod_eq_of_le (by omega) (by omega)
theorem xr_eqI {a b : Int} (ha : -2147483648 ≤ a ∧ a ≤ 2147483647) (hb : -2147483648 ≤ b ∧ b ≤ 2147483647) : Int32.ofInt a = Int32.ofInt b ↔ a = b := by
  rw [← Int32.toInt_inj, xr_toInt ha, xr_toInt hb]
theorem xr_ltI {a b : Int} (ha : -2147483648 ≤ a ∧ a ≤ 2147483647) (hb : -2147483648 ≤ b ∧ b ≤ 2147483647) : Int32.ofInt a < Int32.ofInt b ↔ a < b := by
  rw [Int32.lt_iff_toInt_lt, xr_toInt ha, xr_toInt hb]
theorem xr_leI {a b : Int} (ha : -2147483648 ≤ a ∧ a ≤ 2147483647) (hb : -2147483648 ≤ b ∧ b ≤ 2147483647) : Int32.ofInt a ≤ Int32.ofInt b ↔ a ≤ b := by
  rw [Int32.le_iff_toInt_le, xr_toInt ha, xr_toInt hb]
theorem xr_j2 {p : Int32 → Int32 → Bool} {x z : Int32} {q : xb_I} (hq : xb_gP G y pc = some q) (hs : xb_sort q.1 = 0) {t : Nat} (hp : xb_pure G q pc L (.int z :: .int x :: st) A = xb_j2 p pc t L A (.int z :: .int x :: st)) {P : Prop} (he : p x z = true ↔ P) (kt : P → xr_ok G d y t L st A Q) (kf : ¬ P → xr_ok G d y (pc + 3) L st A Q) : xr_ok G d y pc L (.int z :: .int x :: st) A Q := by
  by_cases h : P
  · refine xr_pure hq hs (hp.trans ?_) (kt h)
    show some (if p x z = true then t else pc + 3, L, st, A) = _
    rw [if_pos (he.mpr h)]
  · refine xr_pure hq hs (hp.trans ?_) (kf h)
    show some (if p x z = true then t else pc + 3, L, st, A) = _
    rw [if_neg (fun z => h (he.mp z))]
theorem xr_j1 {p : Int32 → Bool} {x : Int32} {q : xb_I} (hq : xb_gP G y pc = some q) (hs : xb_sort q.1 = 0) {t : Nat} (hp : xb_pure G q pc L (.int x :: st) A = xb_j1 p pc t L A (.int x :: st)) {P : Prop} (he : p x = true ↔ P) (kt : P → xr_ok G d y t L st A Q) (kf : ¬ P → xr_ok G d y (pc + 3) L st A Q) : xr_ok G d y pc L (.int x :: st) A Q := by
  by_cases h : P
  · refine xr_pure hq hs (hp.trans ?_) (kt h)
    show some (if p x = true then t else pc + 3, L, st, A) = _
    rw [if_pos (he.mpr h)]
  · refine xr_pure hq hs (hp.trans ?_) (kf h)
    show some (if p x = true then t else pc + 3, L, st, A) = _
    rw [if_neg (fun z => h (he.mp z))]
variable {a b : Int} {off : Int} {t : Nat}
theorem xr_icmp_eq (hq : xb_gP G y pc = some (.if_icmp .eq off, 3, t, 0)) (ha : -2147483648 ≤ a ∧ a ≤ 2147483647) (hb : -2147483648 ≤ b ∧ b ≤ 2147483647) (kt : a = b → xr_ok G d y t L st A Q) (kf : ¬ a = b → xr_ok G d y (pc + 3) L st A Q) : xr_ok G d y pc L (.int (Int32.ofInt b) :: .int (Int32.ofInt a) :: st) A Q :=
  xr_j2 (p := fun x y => decide (x = y)) hq rfl rfl (by rw [decide_eq_true_iff]; exact xr_eqI ha hb) kt kf
theorem xr_icmp_ne (hq : xb_gP G y pc = some (.if_icmp .ne off, 3, t, 0)) (ha : -2147483648 ≤ a ∧ a ≤ 2147483647) (hb : -2147483648 ≤ b ∧ b ≤ 2147483647) (kt : ¬ a = b → xr_ok G d y t L st A Q) (kf : a = b → xr_ok G d y (pc + 3) L st A Q) : xr_ok G d y pc L (.int (Int32.ofInt b) :: .int (Int32.ofInt a) :: st) A Q :=
  xr_j2 (p := fun x y => !decide (x = y)) (P := ¬ a = b) hq rfl rfl (by rw [Bool.not_eq_true', decide_eq_false_iff_not, xr_eqI ha hb]) kt (fun h => kf (Classical.byContradiction h))
theorem xr_icmp_lt (hq : xb_gP G y pc = some (.if_icmp .lt off, 3, t, 0)) (ha : -2147483648 ≤ a ∧ a ≤ 2147483647) (hb : -2147483648 ≤ b ∧ b ≤ 2147483647) (kt : a < b → xr_ok G d y t L st A Q) (kf : ¬ a < b → xr_ok G d y (pc + 3) L st A Q) : xr_ok G d y pc L (.int (Int32.ofInt b) :: .int (Int32.ofInt a) :: st) A Q :=
  xr_j2 (p := fun x y => decide (x < y)) hq rfl rfl (by rw [decide_eq_true_iff]; exact xr_ltI ha hb) kt kf
theorem xr_icmp_ge (hq : xb_gP G y pc = some (.if_icmp .ge off, 3, t, 0)) (ha : -2147483648 ≤ a ∧ a ≤ 2147483647) (hb : -2147483648 ≤ b ∧ b ≤ 2147483647) (kt : b ≤ a → xr_ok G d y t L st A Q) (kf : ¬ b ≤ a → xr_ok G d y (pc + 3) L st A Q) : xr_ok G d y pc L (.int (Int32.ofInt b) :: .int (Int32.ofInt a) :: st) A Q :=
  xr_j2 (p := fun x y => decide (y ≤ x)) hq rfl rfl (by rw [decide_eq_true_iff]; exact xr_leI hb ha) kt kf
theorem xr_icmp_gt (hq : xb_gP G y pc = some (.if_icmp .gt off, 3, t, 0)) (ha : -2147483648 ≤ a ∧ a ≤ 2147483647) (hb : -2147483648 ≤ b ∧ b ≤ 2147483647) (kt : b < a → xr_ok G d y t L st A Q) (kf : ¬ b < a → xr_ok G d y (pc + 3) L st A Q) : xr_ok G d y pc L (.int (Int32.ofInt b) :: .int (Int32.ofInt a) :: st) A Q :=
  xr_j2 (p := fun x y => decide (y < x)) hq rfl rfl (by rw [decide_eq_true_iff]; exact xr_ltI hb ha) kt kf
theorem xr_icmp_le (hq : xb_gP G y pc = some (.if_icmp .le off, 3, t, 0)) (ha : -2147483648 ≤ a ∧ a ≤ 2147483647) (hb : -2147483648 ≤ b ∧ b ≤ 2147483647) (kt : a ≤ b → xr_ok G d y t L st A Q) (kf : ¬ a ≤ b → xr_ok G d y (pc + 3) L st A Q) : xr_ok G d y pc L (.int (Int32.ofInt b) :: .int (Int32.ofInt a) :: st) A Q :=
  xr_j2 (p := fun x y => decide (x ≤ y)) hq rfl rfl (by rw [decide_eq_true_iff]; exact xr_leI ha hb) kt kf
theorem xr_if_eq (hq : xb_gP G y pc = some (.ifCond .eq off, 3, t, 0)) (ha : -2147483648 ≤ a ∧ a ≤ 2147483647) (kt : a = 0 → xr_ok G d y t L st A Q) (kf : ¬ a = 0 → xr_ok G d y (pc + 3) L st A Q) : xr_ok G d y pc L (.int (Int32.ofInt a) :: st) A Q :=
  xr_j1 (p := fun x => decide (x = 0)) hq rfl rfl (by rw [decide_eq_true_iff]; exact xr_eqI (b := 0) ha (by omega)) kt kf
theorem xr_if_ne (hq : xb_gP G y pc = some (.ifCond .ne off, 3, t, 0)) (ha : -2147483648 ≤ a ∧ a ≤ 2147483647) (kt : ¬ a = 0 → xr_ok G d y t L st A Q) (kf : a = 0 → xr_ok G d y (pc + 3) L st A Q) : xr_ok G d y pc L (.int (Int32.ofInt a) :: st) A Q :=
  xr_j1 (p := fun x => !decide (x = 0)) (P := ¬ a = 0) hq rfl rfl (by rw [Bool.not_eq_true', decide_eq_false_iff_not]; exact not_congr (xr_eqI (b := 0) ha (by omega))) kt (fun h => kf (Classical.byContradiction h))
theorem xr_if_lt (hq : xb_gP G y pc = some (.ifCond .lt off, 3, t, 0)) (ha : -2147483648 ≤ a ∧ a ≤ 2147483647) (kt : a < 0 → xr_ok G d y t L st A Q) (kf : ¬ a < 0 → xr_ok G d y (pc + 3) L st A Q) : xr_ok G d y pc L (.int (Int32.ofInt a) :: st) A Q :=
  xr_j1 (p := fun x => decide (x < 0)) hq rfl rfl (by rw [decide_eq_true_iff]; exact xr_ltI (b := 0) ha (by omega)) kt kf
theorem xr_if_ge (hq : xb_gP G y pc = some (.ifCond .ge off, 3, t, 0)) (ha : -2147483648 ≤ a ∧ a ≤ 2147483647) (kt : 0 ≤ a → xr_ok G d y t L st A Q) (kf : ¬ 0 ≤ a → xr_ok G d y (pc + 3) L st A Q) : xr_ok G d y pc L (.int (Int32.ofInt a) :: st) A Q :=
  xr_j1 (p := fun x => decide (0 ≤ x)) hq rfl rfl (by rw [decide_eq_true_iff]; exact xr_leI (a := 0) (by omega) ha) kt kf
theorem xr_if_gt (hq : xb_gP G y pc = some (.ifCond .gt off, 3, t, 0)) (ha : -2147483648 ≤ a ∧ a ≤ 2147483647) (kt : 0 < a → xr_ok G d y t L st A Q) (kf : ¬ 0 < a → xr_ok G d y (pc + 3) L st A Q) : xr_ok G d y pc L (.int (Int32.ofInt a) :: st) A Q :=
  xr_j1 (p := fun x => decide (0 < x)) hq rfl rfl (by rw [decide_eq_true_iff]; exact xr_ltI (a := 0) (by omega) ha) kt kf
theorem xr_if_le (hq : xb_gP G y pc = some (.ifCond .le off, 3, t, 0)) (ha : -2147483648 ≤ a ∧ a ≤ 2147483647) (kt : a ≤ 0 → xr_ok G d y t L st A Q) (kf : ¬ a ≤ 0 → xr_ok G d y (pc + 3) L st A Q) : xr_ok G d y pc L (.int (Int32.ofInt a) :: st) A Q :=
  xr_j1 (p := fun x => decide (x ≤ 0)) hq rfl rfl (by rw [decide_eq_true_iff]; exact xr_leI (b := 0) ha (by omega)) kt kf
theorem xr_retB {x : Int32} (hq : xb_gP G y pc = some (.ireturn, 1, 0, 0)) {ty : FieldType} (ht : xb_gR G y = some ty) (hp : xb_isP ty = true) (hn : narrow ty (.int x) = .int x) (hQ : Q (.inl (some (.int x))) A) : xr_ok G d y pc L [.int x] A Q := by
  refine xr_retI hq rfl ?_ hQ
  unfold xb_retI
  simp only [ht]
  rw [if_pos ⟨hn, hp⟩]
end XRX
/-- Model.isLetter: a first try -/
theorem mm_isLetter {w : Value} {d : Nat} {A : xb_H} {c : Int} (hc : 0 ≤ c ∧ c ≤ 65535) : xr_ok (xt_G w) d 210 0 [(0, .int (Int32.ofInt c))] [] A (fun o A' => o = .inl (some (.int (if 97 ≤ c ∧ c ≤ 122 then 1 else 0))) ∧ A' = A) := by
  refine xr_steps (pc' := 3) 2 rfl ?_
  refine xr_icmp_lt rfl (by omega) (by omega) (fun h1 => ?_) (fun h1 => ?_)
  · refine xr_steps (pc' := 17) 1 rfl ?_
    refine xr_retB rfl rfl rfl rfl ⟨?_, rfl⟩
    rw [if_neg (by omega)]
    rfl
  · refine xr_steps (pc' := 9) 2 rfl ?_
    refine xr_icmp_gt rfl (by omega) (by omega) (fun h2 => ?_) (fun h2 => ?_)
    · refine xr_steps (pc' := 17) 1 rfl ?_
      refine xr_retB rfl rfl rfl rfl ⟨?_, rfl⟩
      rw [if_neg (by omega)]
      rfl
    · refine xr_steps (pc' := 17) 2 rfl ?_
      refine xr_retB rfl rfl rfl rfl ⟨?_, rfl⟩
      rw [if_pos (by omega)]
      rfl
