/-! toString, setLength, takeText -/
theorem yb_fr {A A' : xb_H} {a v n c : Nat} {m : Int32} {f : Nat → Int} {M : List Nat} {p q : Nat} (h : yb A a v n m c f) (hf : yfr A A' M p q) (h1 : ¬ a ∈ M) (h2 : ¬ v ∈ M) : yb A' a v n m c f :=
  ⟨yfr_get hf h.1 h1, yfr_get hf h.2.1 h2, h.2.2⟩
theorem mb_24 {w : Value} {d : Nat} {A : xb_H} {a : Nat} {fs : List Value} (h : xb_get A a = some (.inr (11, fs))) (h1 : fs[1]? = some (.int 0)) : xr_ok (xt_G w) d 24 0 [(0, .ref a)] [] A (fun o A' => ∃ v, o = .inl v ∧ v = some (.int (Int32.ofInt 1)) ∧ A' = A) := mm_24 h h1
theorem mk_50 {w : Value} {d : Nat} {A : xb_H} {a v : Nat} {fs : List Value} (h : xb_get A a = some (.inr (11, fs))) (h0 : fs[0]? = some (.ref v)) : xr_ok (xt_G w) d 50 0 [(0, .ref a)] [] A (fun o A' => ∃ v0, o = .inl v0 ∧ v0 = some (.ref v) ∧ A' = A) := by
  refine xr_steps (pc' := 1) (L' := [(0, .ref a)]) (st' := [.ref a]) 1 rfl ?_
  refine xr_getf (v := .ref v) rfl h h0 ?_
  exact xr_retR rfl rfl ⟨_, rfl, rfl, rfl⟩
theorem mk_49 {w : Value} {d : Nat} {A : xb_H} {a bb v n c : Nat} {m : Int32} {f : Nat → Int} (ha : xb_get A a = some (.inr (12, [.null, .int (Int32.ofInt 0), .int (Int32.ofInt 0), .int (Int32.ofInt 0)]))) (hz : 64 ≤ a) (hb : yb A bb v n m c f) (hab : ¬ a = bb) : xr_ok (xt_G w) (d + 1 + 1 + 1) 49 0 [(0, .ref a), (1, .ref bb), (2, .null)] [] A (fun o A' => ∃ v0, o = .inl v0 ∧ ∃ g : Nat → Int, v0 = none ∧ xb_get A' a = some (.inr (12, [.ref A.1, .int (Int32.ofInt 0), .int (Int32.ofInt 0), .int (Int32.ofInt 0)])) ∧ xb_get A' A.1 = some (.inl (.byte, c, .inl fun j => Int32.ofInt (g j))) ∧ (∀ j : Nat, j < c → g j = f j) ∧ yfr A A' [a] 1 c ∧ A'.1 = A.1 + 1) := by
  obtain ⟨hb1, hv, ⟨hc, hn⟩, ⟨hbz, hvz⟩, hf⟩ := hb
  have hlt := xb_get_lt hv
  have hlt2 := xb_get_lt ha
  have hlt3 := xb_get_lt hb1
  have hva : ¬ v = a := by
    intro e
    rw [e, ha] at hv
    cases hv
  have f31 := yfr_refl A [a] 0 0
  refine xr_steps (pc' := 1) (L' := [(0, .ref a), (1, .ref bb), (2, .null)]) (st' := [.ref a]) 1 rfl ?_
  refine xr_objI rfl (by omega) (by decide) ?_
  refine xr_steps (pc' := 5) (L' := [(0, .ref a), (1, .ref bb), (2, .null)]) (st' := [.ref bb]) 1 rfl ?_
  refine xr_call (q := (.invokevirtual 552, 3, 50, 1)) (av := [.ref bb]) (rest := []) rfl rfl (by decide) rfl (xr_rcv rfl hb1) (Nat.le_of_ble_eq_true rfl) (mk_50 hb1 rfl) ?_
  rintro _ _ ⟨rfl, eA⟩
  rw [eA]
  clear eA
  refine xr_steps (pc' := 10) (L' := [(3, .ref v), (0, .ref a), (1, .ref bb), (2, .null)]) (st' := [.ref bb]) 2 rfl ?_
  refine xr_call (q := (.invokevirtual 549, 3, 13, 1)) (av := [.ref bb]) (rest := []) rfl rfl (by decide) rfl (xr_rcv rfl hb1) (Nat.le_of_ble_eq_true rfl) (mm_13 hb1 rfl) ?_
  rintro _ _ ⟨rfl, eA⟩
  rw [eA]
  clear eA
  refine xr_steps (pc' := 16) (L' := [(4, .int (Int32.ofInt (c : Int))), (3, .ref v), (0, .ref a), (1, .ref bb), (2, .null)]) (st' := [.ref bb]) 2 rfl ?_
  refine xr_call (q := (.invokevirtual 1047, 3, 24, 1)) (av := [.ref bb]) (rest := []) rfl rfl (by decide) rfl (xr_rcv rfl hb1) (Nat.le_of_ble_eq_true rfl) (mb_24 hb1 rfl) ?_
  rintro _ _ ⟨rfl, eA⟩
  rw [eA]
  clear eA
  refine xr_if_eq rfl (by omega) (fun z32 => ?_) (fun z32 => ?_)
  · exfalso; omega
  · refine xr_steps (pc' := 24) (L' := [(4, .int (Int32.ofInt (c : Int))), (3, .ref v), (0, .ref a), (1, .ref bb), (2, .null)]) (st' := [.int (Int32.ofInt 0), .ref a]) 2 rfl ?_
    obtain ⟨A33, eA33⟩ : ∃ A0, xb_set A a (.inr (12, [.null, .int (Int32.ofInt 0), .int (Int32.ofInt 0), .int (Int32.ofInt 0)])) = A0 := ⟨_, rfl⟩
    refine xr_putf (t := .byte) rfl ha (show 64 ≤ a by omega) (Nat.le_of_ble_eq_true rfl) rfl rfl (xr_heap eA33 ?_)
    have g34 := xr_mv eA33 (xb_get_set_same ha)
    have g35 := xr_mv eA33 (xb_get_set_ne ha hb1 (by omega))
    have g36 := xr_mv eA33 (xb_get_set_ne ha hv (by omega))
    have nA33 : A33.1 = A.1 := by rw [← eA33]; rfl
    have f37 := yfr_mv eA33 (yfr_step_set f31 ha (Or.inl (by simp)))
    refine xr_steps (pc' := 32) (L' := [(4, .int (Int32.ofInt (c : Int))), (3, .ref v), (0, .ref a), (1, .ref bb), (2, .null)]) (st' := [.int (Int32.ofInt (c : Int)), .int (Int32.ofInt 0), .ref v, .ref a]) 4 rfl ?_
    refine xr_call (q := (.invokestatic 54, 3, 51, 3)) (av := [.ref v, .int (Int32.ofInt 0), .int (Int32.ofInt (c : Int))]) (rest := [.ref a]) rfl rfl (by decide) rfl rfl (Nat.le_of_ble_eq_true rfl) (mk_51 (by omega) g36 hf (by omega) (by omega) (fun _ => hvz)) ?_
    rintro _ A8 ⟨g, rfl, k1, k2, k3, k4⟩
    have ja := yfr_get k3 g34 List.not_mem_nil
    have jbb := yfr_get k3 g35 List.not_mem_nil
    have jv := yfr_get k3 g36 List.not_mem_nil
    have jfr := yfr_trans f37 k3 (fun z hz => absurd hz List.not_mem_nil)
    obtain ⟨A38, eA38⟩ : ∃ A0, xb_set A8 a (.inr (12, [.ref A33.1, .int (Int32.ofInt 0), .int (Int32.ofInt 0), .int (Int32.ofInt 0)])) = A0 := ⟨_, rfl⟩
    refine xr_putf (t := .array (.byte)) rfl ja (show 64 ≤ a by omega) (Nat.le_of_ble_eq_true rfl) rfl (xr_fitR _ rfl) (xr_heap eA38 ?_)
    have g39 := xr_mv eA38 (xb_get_set_same ja)
    have g40 := xr_mv eA38 (xb_get_set_ne ja jbb (by omega))
    have g41 := xr_mv eA38 (xb_get_set_ne ja jv (by omega))
    have g42 := xr_mv eA38 (xb_get_set_ne ja k1 (by omega))
    have nA38 : A38.1 = A8.1 := by rw [← eA38]; rfl
    have f43 := yfr_mv eA38 (yfr_step_set jfr ja (Or.inl (by simp)))
    refine xr_steps (pc' := 97) (L' := [(4, .int (Int32.ofInt (c : Int))), (3, .ref v), (0, .ref a), (1, .ref bb), (2, .null)]) (st' := []) 1 rfl ?_
    have ea : A33.1 = A.1 := by omega
    have el : ((c : Int) - 0).toNat = c := by omega
    rw [el] at k2 g42
    rw [ea] at g42 g39
    exact xr_retN rfl rfl ⟨_, rfl, g, rfl, g39, g42, fun j hj => by rw [k2 j hj]; show f (0 + j) = f j; rw [Nat.zero_add], yfr_mono f43 (fun z hz => Or.inl hz) (by omega) (by omega), by omega⟩
theorem mk_48 {w : Value} {d : Nat} {A : xb_H} {a bb v n c : Nat} {m : Int32} {f : Nat → Int} (ha : xb_get A a = some (.inr (12, [.null, .int (Int32.ofInt 0), .int (Int32.ofInt 0), .int (Int32.ofInt 0)]))) (hz : 64 ≤ a) (hb : yb A bb v n m c f) (hab : ¬ a = bb) : xr_ok (xt_G w) (d + 1 + 1 + 1 + 1) 48 0 [(0, .ref a), (1, .ref bb)] [] A (fun o A' => ∃ v0, o = .inl v0 ∧ ∃ g : Nat → Int, v0 = none ∧ xb_get A' a = some (.inr (12, [.ref A.1, .int (Int32.ofInt 0), .int (Int32.ofInt 0), .int (Int32.ofInt 0)])) ∧ xb_get A' A.1 = some (.inl (.byte, c, .inl fun j => Int32.ofInt (g j))) ∧ (∀ j : Nat, j < c → g j = f j) ∧ yfr A A' [a] 1 c ∧ A'.1 = A.1 + 1) := by
  refine xr_steps (pc' := 3) (L' := [(0, .ref a), (1, .ref bb)]) (st' := [.null, .ref bb, .ref a]) 3 rfl ?_
  refine xr_call (q := (.invokespecial 489, 3, 49, 3)) (av := [.ref a, .ref bb, .null]) (rest := []) rfl rfl (by decide) rfl (xr_rcv rfl ha) (Nat.le_of_ble_eq_true rfl) (mk_49 ha hz hb hab) ?_
  rintro _ A9 ⟨g, rfl, k9⟩
  exact xr_retN rfl rfl ⟨_, rfl, g, rfl, k9⟩
theorem mk_47 {w : Value} {d : Nat} {A : xb_H} {bb v n c : Nat} {m : Int32} {f : Nat → Int} (hb : yb A bb v n m c f) : xr_ok (xt_G w) (d + 1 + 1 + 1 + 1 + 1) 47 0 [(0, .ref bb)] [] A (fun o A' => ∃ v0, o = .inl v0 ∧ ∃ g : Nat → Int, v0 = some (.ref A.1) ∧ xb_get A' A.1 = some (.inr (12, [.ref (A.1 + 1), .int (Int32.ofInt 0), .int (Int32.ofInt 0), .int (Int32.ofInt 0)])) ∧ xb_get A' (A.1 + 1) = some (.inl (.byte, c, .inl fun j => Int32.ofInt (g j))) ∧ (∀ j : Nat, j < c → g j = f j) ∧ yfr A A' [] 2 (4 + c) ∧ A'.1 = A.1 + 2) := by
  have hlt := xb_get_lt hb.1
  have hbz := hb.2.2.2.1
  have f31 := yfr_refl A [] 0 0
  obtain ⟨A32, eA32⟩ : ∃ A0, xb_new A 4 (.inr (12, [.null, .int (Int32.ofInt 0), .int (Int32.ofInt 0), .int (Int32.ofInt 0)])) = A0 := ⟨_, rfl⟩
  refine xr_newO rfl (xr_heap eA32 ?_)
  have g33 := xr_mv eA32 xb_get_new_same
  have nA32 : A32.1 = A.1 + 1 := by rw [← eA32]; rfl
  have f34 := yfr_mv eA32 (yfr_step_new f31)
  refine xr_steps (pc' := 5) (L' := [(0, .ref bb)]) (st' := [.ref bb, .ref A.1, .ref A.1]) 2 rfl ?_
  refine xr_call (q := (.invokespecial 137, 3, 48, 2)) (av := [.ref A.1, .ref bb]) (rest := [.ref A.1]) rfl rfl (by decide) rfl (xr_rcv rfl g33) (Nat.le_of_ble_eq_true rfl) (mk_48 g33 (by omega) (yb_fr hb f34 List.not_mem_nil List.not_mem_nil) (by omega)) ?_
  rintro _ A8 ⟨g, rfl, k1, k2, k3, k4, k5⟩
  have ea : A32.1 = A.1 + 1 := by omega
  rw [ea] at k1 k2
  have jfr := yfr_trans f34 k4 (fun z hz => by simp only [List.mem_cons, List.not_mem_nil, or_false] at hz ⊢; omega)
  exact xr_retR rfl rfl ⟨_, rfl, g, rfl, k1, k2, k3, yfr_mono jfr (fun z hz => Or.inl hz) (by omega) (by omega), by omega⟩
theorem mk_60 {w : Value} {d : Nat} {A : xb_H} {bb v n c : Nat} {m : Int32} {f : Nat → Int} (hb : yb A bb v n m c f) : xr_ok (xt_G w) (d + 1) 60 0 [(0, .ref bb), (1, .int (Int32.ofInt 0))] [] A (fun o A' => ∃ v0, o = .inl v0 ∧ v0 = none ∧ (∃ m', yb A' bb v n m' 0 f) ∧ yfr A A' [bb] 0 0 ∧ A'.1 = A.1) := by
  have hb1 := hb.1
  have hv := hb.2.1
  have hbz := hb.2.2.2.1
  have hcn := hb.2.2.1
  have hvb : ¬ v = bb := by
    intro e
    rw [e, hb1] at hv
    cases hv
  have f31 := yfr_refl A [bb] 0 0
  refine xr_steps (pc' := 1) (L' := [(0, .ref bb), (1, .int (Int32.ofInt 0))]) (st' := [.int (Int32.ofInt 0)]) 1 rfl ?_
  refine xr_if_ge rfl (by omega) (fun z32 => ?_) (fun z32 => ?_)
  · refine xr_steps (pc' := 15) (L' := [(0, .ref bb), (1, .int (Int32.ofInt 0))]) (st' := [.int (Int32.ofInt 0), .ref bb]) 2 rfl ?_
    refine xr_call (q := (.invokevirtual 100, 3, 17, 2)) (av := [.ref bb, .int (Int32.ofInt 0)]) (rest := []) rfl rfl (by decide) rfl (xr_rcv rfl hb1) (Nat.le_of_ble_eq_true rfl) (mm_17 hb.1 rfl rfl hb.2.1 (by have := hb.2.2.1; omega) (by omega)) ?_
    rintro _ _ ⟨rfl, eA⟩
    rw [eA]
    clear eA
    refine xr_steps (pc' := 19) (L' := [(0, .ref bb), (1, .int (Int32.ofInt 0))]) (st' := [.ref bb]) 1 rfl ?_
    refine xr_getf (v := .int (Int32.ofInt (c : Int))) rfl hb1 rfl ?_
    refine xr_steps (pc' := 23) (L' := [(0, .ref bb), (1, .int (Int32.ofInt 0))]) (st' := [.int (Int32.ofInt 0), .int (Int32.ofInt (c : Int))]) 1 rfl ?_
    refine xr_icmp_ge rfl (by omega) (by omega) (fun z33 => ?_) (fun z33 => ?_)
    · refine xr_steps (pc' := 64) (L' := [(0, .ref bb), (1, .int (Int32.ofInt 0))]) (st' := [.ref bb]) 1 rfl ?_
      refine xr_getf (v := .int (Int32.ofInt (c : Int))) rfl hb1 rfl ?_
      refine xr_steps (pc' := 68) (L' := [(0, .ref bb), (1, .int (Int32.ofInt 0))]) (st' := [.int (Int32.ofInt 0), .int (Int32.ofInt (c : Int))]) 1 rfl ?_
      refine xr_icmp_le rfl (by omega) (by omega) (fun z34 => ?_) (fun z34 => ?_)
      · refine xr_steps (pc' := 78) (L' := [(0, .ref bb), (1, .int (Int32.ofInt 0))]) (st' := [.int (Int32.ofInt 0), .ref bb]) 2 rfl ?_
        obtain ⟨A35, eA35⟩ : ∃ A0, xb_set A bb (.inr (11, [.ref v, .int (Int32.ofInt 0), .int m, .int (Int32.ofInt 0)])) = A0 := ⟨_, rfl⟩
        refine xr_putf (t := .int) rfl hb1 (show 64 ≤ bb by omega) (Nat.le_of_ble_eq_true rfl) rfl (xr_fitI _) (xr_heap eA35 ?_)
        have g36 := xr_mv eA35 (xb_get_set_same hb1)
        have g37 := xr_mv eA35 (xb_get_set_ne hb1 hv (by omega))
        have nA35 : A35.1 = A.1 := by rw [← eA35]; rfl
        have f38 := yfr_mv eA35 (yfr_step_set f31 hb1 (Or.inl (by simp)))
        refine xr_retN rfl rfl ⟨_, rfl, rfl, ⟨_, g36, g37, ⟨by omega, hb.2.2.1.2⟩, hb.2.2.2⟩, f38, by omega⟩
      · refine xr_steps (pc' := 73) (L' := [(0, .ref bb), (1, .int (Int32.ofInt 0))]) (st' := [.int (Int32.ofInt 1), .ref bb]) 2 rfl ?_
        obtain ⟨A39, eA39⟩ : ∃ A0, xb_set A bb (.inr (11, [.ref v, .int (Int32.ofInt 0), .int (Int32.ofInt 1), .int (Int32.ofInt (c : Int))])) = A0 := ⟨_, rfl⟩
        refine xr_putf (t := .boolean) rfl hb1 (show 64 ≤ bb by omega) (Nat.le_of_ble_eq_true rfl) rfl (xr_fitZ (by omega)) (xr_heap eA39 ?_)
        have g40 := xr_mv eA39 (xb_get_set_same hb1)
        have g41 := xr_mv eA39 (xb_get_set_ne hb1 hv (by omega))
        have nA39 : A39.1 = A.1 := by rw [← eA39]; rfl
        have f42 := yfr_mv eA39 (yfr_step_set f31 hb1 (Or.inl (by simp)))
        refine xr_steps (pc' := 78) (L' := [(0, .ref bb), (1, .int (Int32.ofInt 0))]) (st' := [.int (Int32.ofInt 0), .ref bb]) 2 rfl ?_
        obtain ⟨A43, eA43⟩ : ∃ A0, xb_set A39 bb (.inr (11, [.ref v, .int (Int32.ofInt 0), .int (Int32.ofInt 1), .int (Int32.ofInt 0)])) = A0 := ⟨_, rfl⟩
        refine xr_putf (t := .int) rfl g40 (show 64 ≤ bb by omega) (Nat.le_of_ble_eq_true rfl) rfl (xr_fitI _) (xr_heap eA43 ?_)
        have g44 := xr_mv eA43 (xb_get_set_same g40)
        have g45 := xr_mv eA43 (xb_get_set_ne g40 g41 (by omega))
        have nA43 : A43.1 = A39.1 := by rw [← eA43]; rfl
        have f46 := yfr_mv eA43 (yfr_step_set f42 g40 (Or.inl (by simp)))
        refine xr_retN rfl rfl ⟨_, rfl, rfl, ⟨_, g44, g45, ⟨by omega, hb.2.2.1.2⟩, hb.2.2.2⟩, f46, by omega⟩
    · exfalso; omega
  · exfalso; omega
theorem mk_59 {w : Value} {d : Nat} {A : xb_H} {bb v n c : Nat} {m : Int32} {f : Nat → Int} (hb : yb A bb v n m c f) : xr_ok (xt_G w) (d + 1 + 1) 59 0 [(0, .ref bb), (1, .int (Int32.ofInt 0))] [] A (fun o A' => ∃ v0, o = .inl v0 ∧ v0 = none ∧ (∃ m', yb A' bb v n m' 0 f) ∧ yfr A A' [bb] 0 0 ∧ A'.1 = A.1) := by
  refine xr_steps (pc' := 2) (L' := [(0, .ref bb), (1, .int (Int32.ofInt 0))]) (st' := [.int (Int32.ofInt 0), .ref bb]) 2 rfl ?_
  refine xr_call (q := (.invokespecial 333, 3, 60, 2)) (av := [.ref bb, .int (Int32.ofInt 0)]) (rest := []) rfl rfl (by decide) rfl (xr_rcv rfl hb.1) (Nat.le_of_ble_eq_true rfl) (mk_60 hb) ?_
  rintro _ A9 ⟨rfl, k9⟩
  exact xr_retN rfl rfl ⟨_, rfl, rfl, k9⟩
theorem mk_58 {w : Value} {d : Nat} {A : xb_H} {a sa : Nat} (ha : xb_get A a = some (.inr (2, [.null, .int (Int32.ofInt 0)]))) (hz : 64 ≤ a) : xr_ok (xt_G w) (d + 1) 58 0 [(0, .ref a), (1, .ref sa)] [] A (fun o A' => ∃ v0, o = .inl v0 ∧ v0 = none ∧ xb_get A' a = some (.inr (2, [.ref sa, .int (Int32.ofInt 0)])) ∧ yfr A A' [a] 0 0 ∧ A'.1 = A.1) := by
  have f31 := yfr_refl A [a] 0 0
  refine xr_steps (pc' := 1) (L' := [(0, .ref a), (1, .ref sa)]) (st' := [.ref a]) 1 rfl ?_
  refine xr_objI rfl (by omega) (by decide) ?_
  refine xr_steps (pc' := 6) (L' := [(0, .ref a), (1, .ref sa)]) (st' := [.ref sa, .ref a]) 2 rfl ?_
  obtain ⟨A32, eA32⟩ : ∃ A0, xb_set A a (.inr (2, [.ref sa, .int (Int32.ofInt 0)])) = A0 := ⟨_, rfl⟩
  refine xr_putf (t := .object "java/lang/String") rfl ha (show 64 ≤ a by omega) (Nat.le_of_ble_eq_true rfl) rfl (xr_fitR _ rfl) (xr_heap eA32 ?_)
  have g33 := xr_mv eA32 (xb_get_set_same ha)
  have nA32 : A32.1 = A.1 := by rw [← eA32]; rfl
  have f34 := yfr_mv eA32 (yfr_step_set f31 ha (Or.inl (by simp)))
  exact xr_retN rfl rfl ⟨_, rfl, rfl, g33, f34, by omega⟩
theorem mk_46 {w : Value} {d : Nat} {A : xb_H} {v n c : Nat} {m : Int32} {f : Nat → Int} {dn : Int} (h64 : xb_get A 64 = some (.inr (0, [.ref 65, .ref 67, .int (Int32.ofInt dn), .ref 68, .ref 71]))) (hb : yb A 65 v n m c f) (hc : c ≤ 100) (hv65 : ¬ v = 65) : xr_ok (xt_G w) (d + 1 + 1 + 1 + 1 + 1 + 1) 46 0 [(0, .ref 64)] [] A (fun o A' => ∃ v0, o = .inl v0 ∧ ∃ (g : Nat → Int) (m' : Int32), v0 = some (.ref A.1) ∧ ycu A' A.1 (A.1 + 1) (A.1 + 1 + 1) c g 0 ∧ (∀ j : Nat, j < c → g j = f j) ∧ yb A' 65 v n m' 0 f ∧ yfr A A' [65] 3 (6 + c) ∧ A'.1 = A.1 + 3) := by
  have hb1 := hb.1
  have hv := hb.2.1
  have hlt := xb_get_lt hb.1
  have hltv := xb_get_lt hb.2.1
  have hv64 : ¬ v = 64 := by
    intro e
    have := hb.2.1
    rw [e, h64] at this
    cases this
  have hn := hb.2.2.1
  have f31 := yfr_refl A [65] 0 0
  obtain ⟨A32, eA32⟩ : ∃ A0, xb_new A 2 (.inr (2, [.null, .int (Int32.ofInt 0)])) = A0 := ⟨_, rfl⟩
  refine xr_newO rfl (xr_heap eA32 ?_)
  have g33 := xr_mv eA32 (xb_get_new_old h64)
  have g34 := xr_mv eA32 (xb_get_new_old hb1)
  have g35 := xr_mv eA32 (xb_get_new_old hv)
  have g36 := xr_mv eA32 xb_get_new_same
  have nA32 : A32.1 = A.1 + 1 := by rw [← eA32]; rfl
  have f37 := yfr_mv eA32 (yfr_step_new f31)
  refine xr_steps (pc' := 5) (L' := [(0, .ref 64)]) (st' := [.ref 64, .ref A.1, .ref A.1]) 2 rfl ?_
  refine xr_getf (v := .ref 65) rfl g33 rfl ?_
  refine xr_call (q := (.invokevirtual 155, 3, 47, 1)) (av := [.ref 65]) (rest := [.ref A.1, .ref A.1]) rfl rfl (by decide) rfl (xr_rcv rfl g34) (Nat.le_of_ble_eq_true rfl) (mk_47 ⟨g34, g35, hb.2.2⟩) ?_
  rintro _ A8 ⟨g, rfl, k1, k2, k3, k4, k5⟩
  have ea : A32.1 = A.1 + 1 := by omega
  rw [ea] at k1 k2
  have j64 := yfr_get k4 g33 List.not_mem_nil
  have j65 := yfr_get k4 g34 List.not_mem_nil
  have jv := yfr_get k4 g35 List.not_mem_nil
  have jA_1 := yfr_get k4 g36 List.not_mem_nil
  have jfr := yfr_trans f37 k4 (fun z hz => absurd hz List.not_mem_nil)
  rw [ea]
  refine xr_call (q := (.invokespecial 159, 3, 58, 2)) (av := [.ref A.1, .ref (A.1 + 1)]) (rest := [.ref A.1]) rfl rfl (by decide) rfl (xr_rcv rfl jA_1) (Nat.le_of_ble_eq_true rfl) (mk_58 jA_1 (by omega)) ?_
  rintro _ A7 ⟨rfl, l1, l2, l3⟩
  have n64 := yfr_get l2 j64 (by simp only [List.mem_cons, List.not_mem_nil, or_false]; omega)
  have n65 := yfr_get l2 j65 (by simp only [List.mem_cons, List.not_mem_nil, or_false]; omega)
  have nv := yfr_get l2 jv (by simp only [List.mem_cons, List.not_mem_nil, or_false]; omega)
  have n_A_1___1_ := yfr_get l2 k1 (by simp only [List.mem_cons, List.not_mem_nil, or_false]; omega)
  have n_A_1___1___1_ := yfr_get l2 k2 (by simp only [List.mem_cons, List.not_mem_nil, or_false]; omega)
  have nfr := yfr_trans jfr l2 (fun z hz => by simp only [List.mem_cons, List.not_mem_nil, or_false] at hz ⊢; omega)
  refine xr_steps (pc' := 16) (L' := [(1, .ref A.1), (0, .ref 64)]) (st' := [.ref 64]) 2 rfl ?_
  refine xr_getf (v := .ref 65) rfl n64 rfl ?_
  refine xr_steps (pc' := 20) (L' := [(1, .ref A.1), (0, .ref 64)]) (st' := [.int (Int32.ofInt 0), .ref 65]) 1 rfl ?_
  refine xr_call (q := (.invokevirtual 162, 3, 59, 2)) (av := [.ref 65, .int (Int32.ofInt 0)]) (rest := []) rfl rfl (by decide) rfl (xr_rcv rfl n65) (Nat.le_of_ble_eq_true rfl) (mk_59 ⟨n65, nv, hb.2.2⟩) ?_
  rintro _ A6 ⟨rfl, ⟨m6, p1⟩, p2, p3⟩
  have r64 := yfr_get p2 n64 (by simp only [List.mem_cons, List.not_mem_nil, or_false]; omega)
  have r_A_1___1_ := yfr_get p2 n_A_1___1_ (by simp only [List.mem_cons, List.not_mem_nil, or_false]; omega)
  have r_A_1___1___1_ := yfr_get p2 n_A_1___1___1_ (by simp only [List.mem_cons, List.not_mem_nil, or_false]; omega)
  have rA_1 := yfr_get p2 l1 (by simp only [List.mem_cons, List.not_mem_nil, or_false]; omega)
  have rfr := yfr_trans nfr p2 (fun z hz => by simp only [List.mem_cons, List.not_mem_nil, or_false] at hz ⊢; omega)
  refine xr_steps (pc' := 24) (L' := [(1, .ref A.1), (0, .ref 64)]) (st' := [.ref A.1]) 1 rfl ?_
  refine xr_retR rfl rfl ⟨_, rfl, g, m6, rfl, ⟨rA_1, ⟨⟨_, r_A_1___1_, rfl, rfl⟩, r_A_1___1___1_, by omega, fun j hj => ?_⟩, by omega, by omega, by omega⟩, k3, p1, yfr_mono rfr (fun z hz => Or.inl hz) (by omega) (by omega), by omega⟩
  rw [k3 j hj]
  exact hb.2.2.2.2 j (by omega)
