/-! Rows on a heap of which some cells are known -/
theorem xr_fitR {t : FieldType} (a : Nat) (ht : xb_isR (some t) = true) : xb_fitx t (.ref a) = true := by
  unfold xb_fitx
  cases t <;> first | (cases ht; done) | (rw [decide_eq_true (show narrow _ (.ref a) = .ref a from rfl)]; rfl)
theorem xr_fitN {t : FieldType} (ht : xb_isR (some t) = true) : xb_fitx t .null = true := by
  unfold xb_fitx
  cases t <;> first | (cases ht; done) | (rw [decide_eq_true (show narrow _ .null = .null from rfl)]; rfl)
theorem xr_fitZ {v : Int} (h : 0 ≤ v ∧ v ≤ 1) : xb_fitx .boolean (.int (Int32.ofInt v)) = true := by
  have e : v = 0 ∨ v = 1 := by omega
  rcases e with rfl | rfl <;> decide
theorem xr_fitC {v : Int} (h : 0 ≤ v ∧ v ≤ 65535) : xb_fitx .char (.int (Int32.ofInt v)) = true := by
  unfold xb_fitx
  rw [decide_eq_true (xr_retC h), Bool.true_and]
  show (decide (Int32.ofInt 0 ≤ Int32.ofInt v) && decide (Int32.ofInt v ≤ Int32.ofInt 65535)) = true
  rw [decide_eq_true ((xr_leI (by omega) (by omega)).mpr h.1), decide_eq_true ((xr_leI (by omega) (by omega)).mpr h.2)]
  rfl
theorem xb_get_set_same {A : xb_H} {a : Nat} {o o' : xb_O} (h : xb_get A a = some o') : xb_get (xb_set A a o) a = some o := by
  rw [xb_get_set (xb_get_lt h), if_pos rfl]
theorem xb_get_set_ne {A : xb_H} {a b : Nat} {o o' : xb_O} {r : Option xb_O} (h : xb_get A a = some o') (hb : xb_get A b = r) (hne : ¬ b = a) : xb_get (xb_set A a o) b = r := by
  rw [xb_get_set (xb_get_lt h), if_neg hne]
  exact hb
theorem xb_get_new_same {A : xb_H} {n : Nat} {o : xb_O} : xb_get (xb_new A n o) A.1 = some o := by
  rw [xb_get_new, if_pos rfl]
theorem xb_get_new_old {A : xb_H} {n b : Nat} {o o' : xb_O} (hb : xb_get A b = some o') : xb_get (xb_new A n o) b = some o' := by
  rw [xb_get_new, if_neg (by have := xb_get_lt hb; omega)]
  exact hb
theorem xr_min {G : xb_G} {d y pc idx : Nat} {L : xb_L} {st : List Value} {A : xb_H} {Q : xb_R → xb_H → Prop} {a b : Int} (hq : xb_gP G y pc = some (.invokestatic idx, 3, 0, 3)) (ha : -2147483648 ≤ a ∧ a ≤ 2147483647) (hb : -2147483648 ≤ b ∧ b ≤ 2147483647) (hd : 1 ≤ d) (hcat : (st.map fun v => v.category).sum ≤ 8) (kk : xr_ok G d y (pc + 3) L (.int (Int32.ofInt (min a b)) :: st) A Q) : xr_ok G d y pc L (.int (Int32.ofInt b) :: .int (Int32.ofInt a) :: st) A Q := by
  refine xr_obj hq rfl rfl ?_ kk
  show xb_mmx false d pc L A (.int (Int32.ofInt b) :: .int (Int32.ofInt a) :: st) = _
  simp only [xb_mmx]
  rw [if_pos ⟨hd, hcat⟩, if_neg (by decide)]
  by_cases h : b < a
  · rw [if_pos ((xr_ltI hb ha).mpr h), Int.min_eq_right (by omega)]
  · rw [if_neg (fun z => h ((xr_ltI hb ha).mp z)), Int.min_eq_left (by omega)]
section XRZ
variable {G : xb_G} {d y pc : Nat} {L : xb_L} {st : List Value} {A : xb_H} {Q : xb_R → xb_H → Prop}
theorem xr_baload {a n : Nat} {i : Int} {f : Nat → Int32} {ty : FieldType} (hq : xb_gP G y pc = some (.baload, 1, 0, 0)) (hg : xb_get A a = some (.inl (ty, n, .inl f))) (hty : xb_isB ty = true) (h0 : 0 ≤ i) (h1 : i < n) (hn : n ≤ 2147483647) (kk : xr_ok G d y (pc + 1) L (.int (f i.toNat) :: st) A Q) : xr_ok G d y pc L (.int (Int32.ofInt i) :: .ref a :: st) A Q := by
  obtain ⟨e1, e2⟩ := xr_in h0 h1 hn
  refine xr_pure hq rfl ?_ kk
  show xb_ial xb_isB pc L A (.int (Int32.ofInt i) :: .ref a :: st) = _
  unfold xb_ial
  simp only [hg]
  rw [if_pos ⟨hty, e1⟩, e2]
theorem xr_aaload {a n : Nat} {i : Int} {f : Nat → Option Nat} {ty : String} {v : Value} (hq : xb_gP G y pc = some (.aaload, 1, 0, 0)) (hg : xb_get A a = some (.inl (.object ty, n, .inr (.inr f)))) (h0 : 0 ≤ i) (h1 : i < n) (hn : n ≤ 2147483647) (hv : xb_ref (f i.toNat) = v) (kk : xr_ok G d y (pc + 1) L (v :: st) A Q) : xr_ok G d y pc L (.int (Int32.ofInt i) :: .ref a :: st) A Q := by
  subst hv
  obtain ⟨e1, e2⟩ := xr_in h0 h1 hn
  refine xr_pure hq rfl ?_ kk
  show xb_aal pc L A (.int (Int32.ofInt i) :: .ref a :: st) = _
  unfold xb_aal
  simp only [hg]
  rw [if_pos e1, e2]
theorem xr_iastore {a n : Nat} {i : Int} {f : Nat → Int32} {x : Int32} (hq : xb_gP G y pc = some (.iastore, 1, 0, 0)) (hg : xb_get A a = some (.inl (.int, n, .inl f))) (hz : xb_z ≤ a) (h0 : 0 ≤ i) (h1 : i < n) (hn : n ≤ 2147483647) (kk : xr_ok G d y (pc + 1) L st (xb_set A a (.inl (.int, n, .inl (upd f i.toNat x)))) Q) : xr_ok G d y pc L (.int x :: .int (Int32.ofInt i) :: .ref a :: st) A Q := by
  obtain ⟨e1, e2⟩ := xr_in h0 h1 hn
  refine xr_pure hq rfl ?_ kk
  show xb_ias xb_isI pc L A (.int x :: .int (Int32.ofInt i) :: .ref a :: st) = _
  unfold xb_ias
  simp only [hg]
  rw [if_pos ⟨rfl, hz, e1⟩, e2]
  rfl
theorem xr_bastore {a n : Nat} {i : Int} {f : Nat → Int32} {x : Int32} (hq : xb_gP G y pc = some (.bastore, 1, 0, 0)) (hg : xb_get A a = some (.inl (.byte, n, .inl f))) (hz : xb_z ≤ a) (h0 : 0 ≤ i) (h1 : i < n) (hn : n ≤ 2147483647) (kk : xr_ok G d y (pc + 1) L st (xb_set A a (.inl (.byte, n, .inl (upd f i.toNat (vp_nar .byte x))))) Q) : xr_ok G d y pc L (.int x :: .int (Int32.ofInt i) :: .ref a :: st) A Q := by
  obtain ⟨e1, e2⟩ := xr_in h0 h1 hn
  refine xr_pure hq rfl ?_ kk
  show xb_ias xb_isB pc L A (.int x :: .int (Int32.ofInt i) :: .ref a :: st) = _
  unfold xb_ias
  simp only [hg]
  rw [if_pos ⟨rfl, hz, e1⟩, e2]
theorem xr_aastore {a n v k : Nat} {i : Int} {f : Nat → Option Nat} {ty : FieldType} {fs : List Value} (hq : xb_gP G y pc = some (.aastore, 1, 0, 0)) (hg : xb_get A a = some (.inl (ty, n, .inr (.inr f)))) (hv : xb_get A v = some (.inr (k, fs))) (hk : xb_gI G ty k = true) (hz : xb_z ≤ a) (h0 : 0 ≤ i) (h1 : i < n) (hn : n ≤ 2147483647) (kk : xr_ok G d y (pc + 1) L st (xb_set A a (.inl (ty, n, .inr (.inr (va_up f i.toNat (some v)))))) Q) : xr_ok G d y pc L (.ref v :: .int (Int32.ofInt i) :: .ref a :: st) A Q := by
  obtain ⟨e1, e2⟩ := xr_in h0 h1 hn
  refine xr_pure hq rfl ?_ kk
  show xb_aas (xb_gI G) pc L A (.ref v :: .int (Int32.ofInt i) :: .ref a :: st) = _
  unfold xb_aas
  simp only [hg, hv]
  rw [if_pos ⟨hk, hz, e1⟩, e2]
theorem xr_newO {idx k : Nat} (hq : xb_gP G y pc = some (.new idx, 3, k, 0)) (kk : xr_ok G d y (pc + 3) L (.ref A.1 :: st) (xb_new A (xb_gT G k).length (.inr (k, (xb_gT G k).map defaultValue))) Q) : xr_ok G d y pc L st A Q :=
  xr_new hq rfl rfl rfl kk
theorem xr_newA {t : ArrayType} {n : Int} {c : xb_A} (hq : xb_gP G y pc = some (.newarray t, 2, 0, 0)) (hn : 0 ≤ n ∧ n ≤ 65536) (hc : xb_zero (newarray.typeOf t) n.toNat = some c) (kk : xr_ok G d y (pc + 2) L (.ref A.1 :: st) (xb_new A n.toNat (.inl (newarray.typeOf t, c))) Q) : xr_ok G d y pc L (.int (Int32.ofInt n) :: st) A Q := by
  obtain ⟨e1, e2⟩ := xr_in (i := n) (n := 65537) (by omega) (by omega) (by omega)
  have hneg : ¬ Int32.ofInt n < 0 := by
    rw [Int32.lt_iff_toInt_lt, xr_toInt (by omega), Int32.toInt_zero]
    omega
  refine xr_pure hq rfl ?_ kk
  show xb_newax (newarray.typeOf t) pc 2 L A (.int (Int32.ofInt n) :: st) = _
  unfold xb_newax
  dsimp only
  rw [e2, if_pos ⟨hneg, by omega⟩, hc]
theorem xr_newAA {idx r : Nat} {n : Int} {c : xb_A} (hq : xb_gP G y pc = some (.anewarray idx, 3, r, 0)) (hn : 0 ≤ n ∧ n ≤ 65536) (hc : xb_zero (xb_gE G r) n.toNat = some c) (kk : xr_ok G d y (pc + 3) L (.ref A.1 :: st) (xb_new A n.toNat (.inl (xb_gE G r, c))) Q) : xr_ok G d y pc L (.int (Int32.ofInt n) :: st) A Q := by
  obtain ⟨e1, e2⟩ := xr_in (i := n) (n := 65537) (by omega) (by omega) (by omega)
  have hneg : ¬ Int32.ofInt n < 0 := by
    rw [Int32.lt_iff_toInt_lt, xr_toInt (by omega), Int32.toInt_zero]
    omega
  refine xr_pure hq rfl ?_ kk
  show xb_newax (xb_gE G r) pc 3 L A (.int (Int32.ofInt n) :: st) = _
  unfold xb_newax
  dsimp only
  rw [e2, if_pos ⟨hneg, by omega⟩, hc]
theorem xr_retR {a : Nat} (hq : xb_gP G y pc = some (.areturn, 1, 0, 0)) (ht : xb_isR (xb_gR G y) = true) (hQ : Q (.inl (some (.ref a))) A) : xr_ok G d y pc L [.ref a] A Q := by
  refine xr_retA hq rfl ?_ hQ
  unfold xb_retA
  dsimp only
  rw [if_pos ht]
theorem xr_retNull (hq : xb_gP G y pc = some (.areturn, 1, 0, 0)) (ht : xb_isR (xb_gR G y) = true) (hQ : Q (.inl (some .null)) A) : xr_ok G d y pc L [.null] A Q := by
  refine xr_retA hq rfl ?_ hQ
  unfold xb_retA
  dsimp only
  rw [if_pos ht]
/-- Object's constructor -/
theorem xr_objI {a idx n : Nat} (hq : xb_gP G y pc = some (.invokespecial idx, 3, 0, n)) (hd : 1 ≤ d) (hs : (st.map fun v => v.category).sum ≤ 8) (kk : xr_ok G d y (pc + 3) L st A Q) : xr_ok G d y pc L (.ref a :: st) A Q := by
  refine xr_obj (pc' := pc + 3) (L' := L) (st' := st) (A' := A) hq rfl rfl ?_ kk
  show xb_objx d pc L A (.ref a :: st) = _
  unfold xb_objx
  dsimp only
  rw [if_pos ⟨hd, hs⟩]
end XRZ
theorem xr_heap {G : xb_G} {d y pc : Nat} {L : xb_L} {st : List Value} {A A' : xb_H} {Q : xb_R → xb_H → Prop} (e : A = A') (k : xr_ok G d y pc L st A' Q) : xr_ok G d y pc L st A Q := by
  rw [e]
  exact k
theorem xr_mv {A A' : xb_H} {a : Nat} {r : Option xb_O} (e : A = A') (h : xb_get A a = r) : xb_get A' a = r := by
  rw [← e]
  exact h
theorem xr_updN (g : Nat → Int) (k : Nat) (v : Int) : upd (fun j => Int32.ofInt (g j)) k (Int32.ofInt v) = fun j => Int32.ofInt (va_up g k v j) := by
  funext j
  unfold upd va_up
  by_cases h : j = k
  · rw [if_pos h, if_pos h]
  · rw [if_neg h, if_neg h]
theorem xr_iastoreN {G : xb_G} {d y pc : Nat} {L : xb_L} {st : List Value} {A : xb_H} {Q : xb_R → xb_H → Prop} {a n : Nat} {i v : Int} {g : Nat → Int} (hq : xb_gP G y pc = some (.iastore, 1, 0, 0)) (hg : xb_get A a = some (.inl (.int, n, .inl fun j => Int32.ofInt (g j)))) (hz : xb_z ≤ a) (h0 : 0 ≤ i) (h1 : i < n) (hn : n ≤ 2147483647) (kk : xr_ok G d y (pc + 1) L st (xb_set A a (.inl (.int, n, .inl fun j => Int32.ofInt (va_up g i.toNat v j)))) Q) : xr_ok G d y pc L (.int (Int32.ofInt v) :: .int (Int32.ofInt i) :: .ref a :: st) A Q := by
  refine xr_iastore hq hg hz h0 h1 hn ?_
  rw [xr_updN]
  exact kk
