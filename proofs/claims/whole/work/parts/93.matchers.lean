/-! Matchers are read -/
/-- a matcher in the heap: its sign, its bound, its letters -/
def ymt (A : xb_H) (P : Nat → Prop) (ma : Nat) (m : Int × Int × List Int) : Prop := ∃ (sm vm : Nat) (g : Nat → Int), xb_get A ma = some (.inr (4, [.int (Int32.ofInt m.1), .int (Int32.ofInt m.2.1), .ref sm])) ∧ ys A sm vm m.2.2.length g ∧ (∀ j : Nat, j < m.2.2.length → g j = m.2.2.getD j 0) ∧ (P ma ∧ P sm ∧ P vm) ∧ (0 ≤ m.1 ∧ m.1 ≤ 127) ∧ 0 ≤ m.2.1 ∧ m.2.1 ≤ 9
theorem ymt_keep {A A' : xb_H} {P : Nat → Prop} {ma : Nat} {m : Int × Int × List Int} (h : ymt A P ma m) (hk : ∀ x o, P x → xb_get A x = some o → xb_get A' x = some o) : ymt A' P ma m := by
  obtain ⟨sm, vm, g, h1, ⟨⟨fs, s1, s2, s3⟩, s4, s5⟩, h3, ⟨p1, p2, p3⟩, h5⟩ := h
  exact ⟨sm, vm, g, hk _ _ p1 h1, ⟨⟨fs, hk _ _ p2 s1, s2, s3⟩, hk _ _ p3 s4, s5⟩, h3, ⟨p1, p2, p3⟩, h5⟩
theorem ymt_mono {A : xb_H} {P P' : Nat → Prop} {ma : Nat} {m : Int × Int × List Int} (h : ymt A P ma m) (hk : ∀ x, P x → P' x) : ymt A P' ma m := by
  obtain ⟨sm, vm, g, h1, h2, h3, ⟨p1, p2, p3⟩, h5⟩ := h
  exact ⟨sm, vm, g, h1, h2, h3, ⟨hk _ p1, hk _ p2, hk _ p3⟩, h5⟩
/-- items from p on, k at most: where they end -/
def xit (e : Nat → Int) : Nat → Nat → Nat
  | 0, p => p
  | k + 1, p => if e p = 46 ∨ (97 ≤ e p ∧ e p ≤ 122) then xit e k (if e (p + 1) = 42 ∨ e (p + 1) = 43 then p + 2 else p + 1) else p
def xmb (sg : Int) (e : Nat → Int) (p : Nat) : Option ((Int × Int × List Int) × Nat) := if 48 ≤ e p ∧ e p ≤ 57 then some ((sg, e p - 48, []), p + 1) else none
def xmp (sg : Int) (e : Nat → Int) (p : Nat) : Option ((Int × Int × List Int) × Nat) := if 0 < yn e 97 122 6 p then some ((sg, 0, xch e p (yn e 97 122 6 p)), p + yn e 97 122 6 p) else none
def xmi (sg : Int) (e : Nat → Int) (p : Nat) : Option ((Int × Int × List Int) × Nat) := if p < xit e 8 p ∧ e (xit e 8 p) = 47 then some ((sg, 0, xch e p (xit e 8 p - p)), xit e 8 p + 1) else none
/-- the matcher at p -/
def xms (e : Nat → Int) (p : Nat) : Option ((Int × Int × List Int) × Nat) := if e p = 116 ∨ e p = 61 ∨ e p = 48 ∨ e p = 105 then some ((e p, 0, []), p + 1) else if e p = 62 ∨ e p = 60 then xmb (e p) e (p + 1) else if e p = 126 then xmp (e p) e (p + 1) else if e p = 47 then xmi (e p) e (p + 1) else none
/-- what a reader of a matcher does -/
def yrm (A A' : xb_H) (cu sa v n : Nat) (f : Nat → Int) (p : Nat) (r : Option ((Int × Int × List Int) × Nat)) (v0 : Option Value) : Prop := ∃ p', p ≤ p' ∧ ymv A A' cu sa v n f p' 3 40 ∧ ((∃ (ma : Nat) (m : Int × Int × List Int), v0 = some (.ref ma) ∧ ymt A' (yP A.1 A'.1 sa v) ma m ∧ (A.1 ≤ ma ∧ ma < A'.1) ∧ r = some (m, p')) ∨ (v0 = some .null ∧ r = none))
theorem mm_157 {w : Value} {d : Nat} {A : xb_H} {ma sm : Nat} {sg bd : Int} (h1 : xb_get A ma = some (.inr (4, [.int (Int32.ofInt 0), .int (Int32.ofInt 0), .null]))) (hz : 64 ≤ ma) (hs : 0 ≤ sg ∧ sg ≤ 127) : xr_ok (xt_G w) (d + 1) 157 0 [(0, .ref ma), (1, .int (Int32.ofInt sg)), (2, .int (Int32.ofInt bd)), (3, .ref sm)] [] A (fun o A' => ∃ v0, o = .inl v0 ∧ v0 = none ∧ xb_get A' ma = some (.inr (4, [.int (Int32.ofInt sg), .int (Int32.ofInt bd), .ref sm])) ∧ yfr A A' [ma] 0 0 ∧ A'.1 = A.1) := by
  have f31 := yfr_refl A [ma] 0 0
  refine xr_steps (pc' := 1) (L' := [(0, .ref ma), (1, .int (Int32.ofInt sg)), (2, .int (Int32.ofInt bd)), (3, .ref sm)]) (st' := [.ref ma]) 1 rfl ?_
  refine xr_objI rfl (by omega) (by decide) ?_
  refine xr_steps (pc' := 6) (L' := [(0, .ref ma), (1, .int (Int32.ofInt sg)), (2, .int (Int32.ofInt bd)), (3, .ref sm)]) (st' := [.int (Int32.ofInt sg), .ref ma]) 2 rfl ?_
  obtain ⟨A32, eA32⟩ : ∃ A0, xb_set A ma (.inr (4, [.int (Int32.ofInt sg), .int (Int32.ofInt 0), .null])) = A0 := ⟨_, rfl⟩
  refine xr_putf (t := .char) rfl h1 (show 64 ≤ ma by omega) (Nat.le_of_ble_eq_true rfl) rfl (xr_fitC (by omega)) (xr_heap eA32 ?_)
  have g33 := xr_mv eA32 (xb_get_set_same h1)
  have nA32 : A32.1 = A.1 := by rw [← eA32]; rfl
  have f34 := yfr_mv eA32 (yfr_step_set f31 h1 (Or.inl (by simp)))
  refine xr_steps (pc' := 11) (L' := [(0, .ref ma), (1, .int (Int32.ofInt sg)), (2, .int (Int32.ofInt bd)), (3, .ref sm)]) (st' := [.int (Int32.ofInt bd), .ref ma]) 2 rfl ?_
  obtain ⟨A35, eA35⟩ : ∃ A0, xb_set A32 ma (.inr (4, [.int (Int32.ofInt sg), .int (Int32.ofInt bd), .null])) = A0 := ⟨_, rfl⟩
  refine xr_putf (t := .int) rfl g33 (show 64 ≤ ma by omega) (Nat.le_of_ble_eq_true rfl) rfl (xr_fitI _) (xr_heap eA35 ?_)
  have g36 := xr_mv eA35 (xb_get_set_same g33)
  have nA35 : A35.1 = A32.1 := by rw [← eA35]; rfl
  have f37 := yfr_mv eA35 (yfr_step_set f34 g33 (Or.inl (by simp)))
  refine xr_steps (pc' := 16) (L' := [(0, .ref ma), (1, .int (Int32.ofInt sg)), (2, .int (Int32.ofInt bd)), (3, .ref sm)]) (st' := [.ref sm, .ref ma]) 2 rfl ?_
  obtain ⟨A38, eA38⟩ : ∃ A0, xb_set A35 ma (.inr (4, [.int (Int32.ofInt sg), .int (Int32.ofInt bd), .ref sm])) = A0 := ⟨_, rfl⟩
  refine xr_putf (t := .object "java/lang/String") rfl g36 (show 64 ≤ ma by omega) (Nat.le_of_ble_eq_true rfl) rfl (xr_fitR _ rfl) (xr_heap eA38 ?_)
  have g39 := xr_mv eA38 (xb_get_set_same g36)
  have nA38 : A38.1 = A35.1 := by rw [← eA38]; rfl
  have f40 := yfr_mv eA38 (yfr_step_set f37 g36 (Or.inl (by simp)))
  exact xr_retN rfl rfl ⟨_, rfl, rfl, g39, f40, by omega⟩
theorem mm_new {B A5 A7 : xb_H} {c : xb_O} (e5 : xb_new B 3 c = A5) (fr7 : yfr A5 A7 [B.1] 0 0) (n7 : A7.1 = A5.1) : yfr B A7 [] 1 3 ∧ A7.1 = B.1 + 1 := by
  have n5 : A5.1 = B.1 + 1 := by rw [← e5]; rfl
  exact ⟨yfr_mono (yfr_trans (yfr_mv e5 (yfr_step_new (yfr_refl B [] 0 0))) fr7 (fun z hz => Or.inr (by rw [List.mem_singleton] at hz; omega))) (fun z hz => Or.inl hz) (by omega) (by omega), by omega⟩
/-- the end of a reader: a matcher with the letters of the text from i to j -/
theorem yrm_some {A B A7 : xb_H} {cu sa v n p p' i k sm vm : Nat} {f g : Nat → Int} {sg bd : Int} {r : Option ((Int × Int × List Int) × Nat)} (hp : p ≤ p') (m : ymv A B cu sa v n f p' 2 37) (fr : yfr B A7 [] 1 3) (n7 : A7.1 = B.1 + 1) (h7 : xb_get A7 B.1 = some (.inr (4, [.int (Int32.ofInt sg), .int (Int32.ofInt bd), .ref sm]))) (hs : ys A7 sm vm k g) (hg : ∀ j : Nat, j < k → g j = f (i + j)) (hik : i + k ≤ n) (hP : (sm = sa ∧ vm = v) ∨ (sm < 64 ∧ vm < 64) ∨ ((A.1 ≤ sm ∧ sm < A7.1) ∧ A.1 ≤ vm ∧ vm < A7.1)) (hsg : 0 ≤ sg ∧ sg ≤ 127) (hbd : 0 ≤ bd ∧ bd ≤ 9) (hr : r = some ((sg, bd, xch (ye n f) i k), p')) : yrm A A7 cu sa v n f p r (some (.ref B.1)) := by
  have hAB := m.2.1.1
  have hl : (xch (ye n f) i k).length = k := xch_len _ _ _
  refine ⟨p', hp, ymv_mono (ymv_fr m fr) (by omega) (by omega), Or.inl ⟨B.1, (sg, bd, xch (ye n f) i k), rfl, ⟨sm, vm, g, h7, ?_, fun j hj => ?_, ⟨yP_lo hAB (by omega), ?_, ?_⟩, hsg, hbd⟩, ⟨hAB, by omega⟩, hr⟩⟩
  · show ys A7 sm vm (xch (ye n f) i k).length g
    rw [hl]
    exact hs
  · have hj' : j < k := by rw [← hl]; exact hj
    show g j = (xch (ye n f) i k).getD j 0
    rw [xch_get _ _ _ _ hj', hg j hj']
    unfold ye
    rw [if_pos (by omega)]
  · rcases hP with ⟨h, -⟩ | ⟨h, -⟩ | ⟨h, -⟩
    · exact Or.inr (Or.inl h)
    · exact yP_c h
    · exact yP_lo h.1 h.2
  · rcases hP with ⟨-, h⟩ | ⟨-, h⟩ | ⟨-, h⟩
    · exact Or.inr (Or.inr (Or.inl h))
    · exact yP_c h
    · exact yP_lo h.1 h.2
theorem mm_158 {w : Value} {d : Nat} {A : xb_H} {cu sa v n p : Nat} {f : Nat → Int} {sg : Int} (hw : w = .null ∨ w = .ref 19) (hc : ycu A cu sa v n f p) (hk : yk1 A) (hsg : 0 ≤ sg ∧ sg ≤ 127) : xr_ok (xt_G w) (d + 1 + 1 + 1 + 1 + 1 + 1) 158 0 [(0, .int (Int32.ofInt sg)), (1, .ref cu)] [] A (fun o A' => ∃ v0, o = .inl v0 ∧ yrm A A' cu sa v n f p (xmb sg (ye n f) p) v0) := by
  have hp := hc.2.2
  have hcl := ycu_lt hc
  have hr := ye_rng hc p
  refine xr_steps (pc' := 1) (L' := [(0, .int (Int32.ofInt sg)), (1, .ref cu)]) (st' := [.ref cu]) 1 rfl ?_
  refine xr_call (q := (.invokevirtual 42, 3, 68, 1)) (av := [.ref cu]) (rest := []) rfl rfl (by decide) rfl (xr_rcv rfl hc.1) (Nat.le_of_ble_eq_true rfl) (mk_68 hw hc) ?_
  rintro _ _ ⟨rfl, eA⟩
  rw [eA]
  clear eA
  refine xr_steps (pc' := 6) (L' := [(0, .int (Int32.ofInt sg)), (1, .ref cu)]) (st' := [.int (Int32.ofInt 48), .int (Int32.ofInt (ye n f p))]) 1 rfl ?_
  refine xr_isub rfl ?_
  refine xr_steps (pc' := 10) (L' := [(2, .int (Int32.ofInt (ye n f p - 48))), (0, .int (Int32.ofInt sg)), (1, .ref cu)]) (st' := [.int (Int32.ofInt ((1 : Nat) : Int)), .ref cu]) 3 rfl ?_
  refine xr_call (q := (.invokevirtual 45, 3, 81, 2)) (av := [.ref cu, .int (Int32.ofInt ((1 : Nat) : Int))]) (rest := []) rfl rfl (by decide) rfl (xr_rcv rfl hc.1) (Nat.le_of_ble_eq_true rfl) (mk_81 hw hc (by omega)) ?_
  rintro _ A1 ⟨rfl, m1⟩
  rw [show yn (ye n f) 48 57 1 p = if 48 ≤ ye n f p ∧ ye n f p ≤ 57 then 1 else 0 from rfl] at m1 ⊢
  unfold xmb
  by_cases hd : 48 ≤ ye n f p ∧ ye n f p ≤ 57
  · rw [if_pos hd] at m1 ⊢
    rw [if_pos hd]
    have hA1 := m1.2.1.1
    refine xr_steps (pc' := 14) (L' := [(2, .int (Int32.ofInt (ye n f p - 48))), (0, .int (Int32.ofInt sg)), (1, .ref cu)]) (st' := [.int (Int32.ofInt 1), .int (Int32.ofInt ((1 : Nat) : Int))]) 1 rfl ?_
    refine xr_icmp_ne rfl (by omega) (by omega) (fun h => absurd rfl h) (fun _ => ?_)
    obtain ⟨A5, e5⟩ : ∃ A0, xb_new A1 3 (.inr (4, [.int (Int32.ofInt 0), .int (Int32.ofInt 0), .null])) = A0 := ⟨_, rfl⟩
    refine xr_newO rfl (xr_heap e5 ?_)
    have g5 := xr_mv e5 xb_get_new_same
    refine xr_steps (pc' := 25) (L' := [(2, .int (Int32.ofInt (ye n f p - 48))), (0, .int (Int32.ofInt sg)), (1, .ref cu)]) (st' := [.ref 9, .int (Int32.ofInt (ye n f p - 48)), .int (Int32.ofInt sg), .ref A1.1, .ref A1.1]) 4 rfl ?_
    refine xr_call (q := (.invokespecial 29, 3, 157, 4)) (av := [.ref A1.1, .int (Int32.ofInt sg), .int (Int32.ofInt (ye n f p - 48)), .ref 9]) (rest := [.ref A1.1]) rfl rfl (by decide) rfl (xr_rcv rfl g5) (Nat.le_of_ble_eq_true rfl) (mm_157 g5 (by omega) hsg) ?_
    rintro _ A7 ⟨rfl, h7, fr7, n7⟩
    obtain ⟨fr8, n8⟩ := mm_new e5 fr7 n7
    refine xr_steps (pc' := 32) (L' := [(2, .int (Int32.ofInt (ye n f p - 48))), (0, .int (Int32.ofInt sg)), (1, .ref cu)]) (st' := [.ref A1.1]) 1 rfl ?_
    refine xr_retR rfl rfl ⟨_, rfl, yrm_some (i := p) (k := 0) (by omega) (ymv_mono m1 (by omega) (by omega)) fr8 n8 h7 (ys_fr0 (yk1_mv hk m1).1.1 fr8) (fun j hj => absurd hj (Nat.not_lt_zero _)) (by omega) (Or.inr (Or.inl ⟨by omega, by omega⟩)) hsg (by omega) rfl⟩
  · rw [if_neg hd] at m1 ⊢
    rw [if_neg hd]
    refine xr_steps (pc' := 14) (L' := [(2, .int (Int32.ofInt (ye n f p - 48))), (0, .int (Int32.ofInt sg)), (1, .ref cu)]) (st' := [.int (Int32.ofInt 1), .int (Int32.ofInt ((0 : Nat) : Int))]) 1 rfl ?_
    refine xr_icmp_ne rfl (by omega) (by omega) (fun _ => ?_) (fun h => absurd h (by omega))
    refine xr_steps (pc' := 32) (L' := [(2, .int (Int32.ofInt (ye n f p - 48))), (0, .int (Int32.ofInt sg)), (1, .ref cu)]) (st' := [.null]) 1 rfl ?_
    exact xr_retNull rfl rfl ⟨_, rfl, p, Nat.le_refl _, ymv_mono m1 (by omega) (by omega), Or.inr ⟨rfl, rfl⟩⟩
theorem mm_159 {w : Value} {d : Nat} {A : xb_H} {cu sa v n p : Nat} {f : Nat → Int} {sg : Int} (hw : w = .null ∨ w = .ref 19) (hc : ycu A cu sa v n f p) (hk : yk1 A) (hsg : 0 ≤ sg ∧ sg ≤ 127) : xr_ok (xt_G w) (d + 1 + 1 + 1 + 1 + 1 + 1) 159 0 [(0, .int (Int32.ofInt sg)), (1, .ref cu)] [] A (fun o A' => ∃ v0, o = .inl v0 ∧ yrm A A' cu sa v n f p (xmp sg (ye n f) p) v0) := by
  have hp := hc.2.2
  have hcl := ycu_lt hc
  refine xr_steps (pc' := 1) (L' := [(0, .int (Int32.ofInt sg)), (1, .ref cu)]) (st' := [.ref cu]) 1 rfl ?_
  refine xr_call (q := (.invokevirtual 49, 3, 132, 1)) (av := [.ref cu]) (rest := []) rfl rfl (by decide) rfl (xr_rcv rfl hc.1) (Nat.le_of_ble_eq_true rfl) (mk_132 hw hc) ?_
  rintro _ _ ⟨rfl, eA⟩
  rw [eA]
  clear eA
  refine xr_steps (pc' := 8) (L' := [(2, .int (Int32.ofInt (p : Int))), (0, .int (Int32.ofInt sg)), (1, .ref cu)]) (st' := [.int (Int32.ofInt ((6 : Nat) : Int)), .ref cu]) 3 rfl ?_
  refine xr_call (q := (.invokevirtual 53, 3, 77, 2)) (av := [.ref cu, .int (Int32.ofInt ((6 : Nat) : Int))]) (rest := []) rfl rfl (by decide) rfl (xr_rcv rfl hc.1) (Nat.le_of_ble_eq_true rfl) (mk_77 hw hc (by omega)) ?_
  rintro _ A1 ⟨rfl, m1⟩
  have hk6 := yn_le (ye n f) 97 122 6 p
  unfold xmp
  generalize yn (ye n f) 97 122 6 p = k at m1 hk6 ⊢
  have hA1 := m1.2.1.1
  have hle := m1.1.2.2
  refine xr_if_le rfl (by omega) (fun h0 => ?_) (fun h0 => ?_)
  · rw [if_neg (by omega)]
    refine xr_steps (pc' := 32) (L' := [(2, .int (Int32.ofInt (p : Int))), (0, .int (Int32.ofInt sg)), (1, .ref cu)]) (st' := [.null]) 1 rfl ?_
    exact xr_retNull rfl rfl ⟨_, rfl, p + k, by omega, ymv_mono m1 (by omega) (by omega), Or.inr ⟨rfl, rfl⟩⟩
  · rw [if_pos (by omega)]
    obtain ⟨A5, e5⟩ : ∃ A0, xb_new A1 3 (.inr (4, [.int (Int32.ofInt 0), .int (Int32.ofInt 0), .null])) = A0 := ⟨_, rfl⟩
    refine xr_newO rfl (xr_heap e5 ?_)
    have g5 := xr_mv e5 xb_get_new_same
    have n5 : A5.1 = A1.1 + 1 := by rw [← e5]; rfl
    have fr5 : yfr A1 A5 [] 1 3 := yfr_mono (yfr_mv e5 (yfr_step_new (yfr_refl A1 [] 0 0))) (fun z hz => Or.inl hz) (by omega) (by omega)
    have m5 := ymv_fr m1 fr5
    have hk5 := yk1_mv hk m5
    refine xr_steps (pc' := 22) (L' := [(2, .int (Int32.ofInt (p : Int))), (0, .int (Int32.ofInt sg)), (1, .ref cu)]) (st' := [.int (Int32.ofInt (p : Int)), .ref cu, .int (Int32.ofInt 0), .int (Int32.ofInt sg), .ref A1.1, .ref A1.1]) 5 rfl ?_
    refine xr_call (q := (.invokevirtual 56, 3, 133, 2)) (av := [.ref cu, .int (Int32.ofInt (p : Int))]) (rest := [.int (Int32.ofInt 0), .int (Int32.ofInt sg), .ref A1.1, .ref A1.1]) rfl rfl (by decide) rfl (xr_rcv rfl m5.1.1) (Nat.le_of_ble_eq_true rfl) (mk_133 hw m5.1 hk5.1.1 (by omega)) ?_
    rintro _ A3 ⟨s3, v3, f3, rfl, y3, e3, fr3, c3⟩
    have elen : p + k - p = k := by omega
    rw [elen] at y3 e3 fr3
    have hA3 := fr3.1.1
    have g3 := yfr_get fr3 g5 List.not_mem_nil
    refine xr_call (q := (.invokespecial 29, 3, 157, 4)) (av := [.ref A1.1, .int (Int32.ofInt sg), .int (Int32.ofInt 0), .ref s3]) (rest := [.ref A1.1]) rfl rfl (by decide) rfl (xr_rcv rfl g3) (Nat.le_of_ble_eq_true rfl) (mm_157 g3 (by omega) hsg) ?_
    rintro _ A7 ⟨rfl, h7, fr7, n7⟩
    have hs3 := xb_get_lt y3.1.choose_spec.1
    have hv3 := xb_get_lt y3.2.1
    have hne : ¬ s3 = A1.1 ∧ ¬ v3 = A1.1 := by
      refine ⟨fun e => ?_, fun e => ?_⟩
      · obtain ⟨⟨fs3, y31, -⟩, -⟩ := id y3
        rw [e, g3] at y31
        cases y31
      · have := y3.2.1
        rw [e, g3] at this
        cases this
    have y7 := ys_fr y3 fr7 (by rw [List.mem_singleton]; exact hne.1) (by rw [List.mem_singleton]; exact hne.2)
    have m7 : ymv A A7 cu sa v n f (p + k) 3 40 := ⟨ycu_fr (ycu_fr m5.1 fr3 List.not_mem_nil List.not_mem_nil List.not_mem_nil) fr7 (by rw [List.mem_singleton]; omega) (by rw [List.mem_singleton]; omega) (by rw [List.mem_singleton]; omega), yfr_mono (yfr_trans (yfr_trans m5.2 fr3 (fun z hz => absurd hz List.not_mem_nil)) fr7 (fun z hz => Or.inr (by rw [List.mem_singleton] at hz; omega))) (fun z hz => Or.inl hz) (by omega) (by omega)⟩
    refine xr_steps (pc' := 32) (L' := [(2, .int (Int32.ofInt (p : Int))), (0, .int (Int32.ofInt sg)), (1, .ref cu)]) (st' := [.ref A1.1]) 1 rfl ?_
    have hl : (xch (ye n f) p k).length = k := xch_len _ _ _
    refine xr_retR rfl rfl ⟨_, rfl, p + k, by omega, m7, Or.inl ⟨A1.1, (sg, 0, xch (ye n f) p k), rfl, ⟨s3, v3, f3, h7, ?_, fun j hj => ?_, ⟨yP_lo hA1 (by omega), ?_, ?_⟩, hsg, Int.le_refl 0, by show (0 : Int) ≤ 9; omega⟩, ⟨hA1, by omega⟩, rfl⟩⟩
    · show ys A7 s3 v3 (xch (ye n f) p k).length f3
      rw [hl]
      exact y7
    · have hj' : j < k := by rw [← hl]; exact hj
      show f3 j = (xch (ye n f) p k).getD j 0
      rw [xch_get _ _ _ _ hj', e3 j hj']
      unfold ye
      rw [if_pos (by omega)]
    · rcases c3 with ⟨e, -⟩ | ⟨e, -⟩ | ⟨e, -⟩
      · exact Or.inr (Or.inl e)
      · exact yP_c (by omega)
      · exact yP_lo (by omega) (by omega)
    · rcases c3 with ⟨-, e⟩ | ⟨-, e⟩ | ⟨-, e⟩
      · exact Or.inr (Or.inr (Or.inl e))
      · exact yP_c (by omega)
      · exact yP_lo (by omega) (by omega)
theorem mm_160l {w : Value} {d : Nat} {cu sa v n p0 : Nat} {f : Nat → Int} {sg : Int} {Q : xb_R → xb_H → Prop} (hw : w = .null ∨ w = .ref 19) : ∀ (k i p : Nat) (A : xb_H), i + k = 8 → ycu A cu sa v n f p → (∀ (i' p' : Nat) (A' : xb_H), p' = xit (ye n f) k p → i ≤ i' → i' ≤ 8 → p ≤ p' → (i < i' ↔ p < p') → ymv A A' cu sa v n f p' 0 0 → xr_ok (xt_G w) (d + 1 + 1 + 1 + 1 + 1 + 1) 160 53 [(3, .int (Int32.ofInt (i' : Int))), (2, .int (Int32.ofInt (p0 : Int))), (0, .int (Int32.ofInt sg)), (1, .ref cu)] [] A' Q) → xr_ok (xt_G w) (d + 1 + 1 + 1 + 1 + 1 + 1) 160 7 [(3, .int (Int32.ofInt (i : Int))), (2, .int (Int32.ofInt (p0 : Int))), (0, .int (Int32.ofInt sg)), (1, .ref cu)] [] A Q := by
  intro k
  induction k with
  | zero =>
    intro i p A hi hc hK
    have m0 := ymv_refl hc 0 0
    refine xr_steps (pc' := 10) (L' := [(3, .int (Int32.ofInt (i : Int))), (2, .int (Int32.ofInt (p0 : Int))), (0, .int (Int32.ofInt sg)), (1, .ref cu)]) (st' := [.int (Int32.ofInt 8), .int (Int32.ofInt (i : Int))]) 2 rfl ?_
    refine xr_icmp_ge rfl (by omega) (by omega) (fun z31 => ?_) (fun z31 => ?_)
    · exact hK i p A rfl (Nat.le_refl _) (by omega) (Nat.le_refl _) (by omega) m0
    · exfalso; omega
  | succ k ih =>
    intro i p A hi hc hK
    have m0 := ymv_refl hc 0 0
    have hr0 := ye_rng hc p
    rw [xit] at hK
    refine xr_steps (pc' := 10) (L' := [(3, .int (Int32.ofInt (i : Int))), (2, .int (Int32.ofInt (p0 : Int))), (0, .int (Int32.ofInt sg)), (1, .ref cu)]) (st' := [.int (Int32.ofInt 8), .int (Int32.ofInt (i : Int))]) 2 rfl ?_
    refine xr_icmp_ge rfl (by omega) (by omega) (fun z31 => ?_) (fun z31 => ?_)
    · exfalso; omega
    · refine xr_steps (pc' := 16) (L' := [(3, .int (Int32.ofInt (i : Int))), (2, .int (Int32.ofInt (p0 : Int))), (0, .int (Int32.ofInt sg)), (1, .ref cu)]) (st' := [.int (Int32.ofInt 46), .ref cu]) 2 rfl ?_
      obtain ⟨b32, hb32⟩ := mo_bool (ye n f p = 46)
      refine xr_call (q := (.invokevirtual 60, 3, 67, 2)) (av := [.ref cu, .int (Int32.ofInt 46)]) (rest := []) rfl rfl (by decide) rfl (xr_rcv rfl hc.1) (Nat.le_of_ble_eq_true rfl) (mk_acc hw hc (by omega) hb32) ?_
      rintro _ B32 ⟨rfl, hcase⟩
      rcases hcase with ⟨rfl, y32, m32⟩ | ⟨rfl, y32, eA⟩
      · have M33 := ymv_trans m0 m32
        refine xr_if_ne rfl (by omega) (fun z34 => ?_) (fun z34 => ?_)
        · refine xr_iinc (L' := [(3, .int (Int32.ofInt ((i : Int) + 1))), (2, .int (Int32.ofInt (p0 : Int))), (0, .int (Int32.ofInt sg)), (1, .ref cu)]) rfl rfl rfl ?_
          refine xr_steps (pc' := 37) (L' := [(3, .int (Int32.ofInt ((i : Int) + 1))), (2, .int (Int32.ofInt (p0 : Int))), (0, .int (Int32.ofInt sg)), (1, .ref cu)]) (st' := [.int (Int32.ofInt 42), .ref cu]) 2 rfl ?_
          obtain ⟨b35, hb35⟩ := mo_bool (ye n f (p + 1) = 42)
          refine xr_call (q := (.invokevirtual 60, 3, 67, 2)) (av := [.ref cu, .int (Int32.ofInt 42)]) (rest := []) rfl rfl (by decide) rfl (xr_rcv rfl M33.1.1) (Nat.le_of_ble_eq_true rfl) (mk_acc hw M33.1 (by omega) hb35) ?_
          rintro _ B35 ⟨rfl, hcase⟩
          rcases hcase with ⟨rfl, y35, m35⟩ | ⟨rfl, y35, eA⟩
          · have M36 := ymv_trans M33 m35
            refine xr_if_ne rfl (by omega) (fun z37 => ?_) (fun z37 => ?_)
            · refine xr_loc (L := [(3, .int (Int32.ofInt ((i : Int) + 1))), (2, .int (Int32.ofInt (p0 : Int))), (0, .int (Int32.ofInt sg)), (1, .ref cu)]) (show [3, 2, 0, 1].Nodup by decide) ⟨rfl, rfl, rfl, rfl, trivial⟩ ?_
              rw [if_pos (by omega), if_pos (by omega)] at hK
              rw [show (i : Int) + 1 = ((i + 1 : Nat) : Int) by omega]
              refine ih (i + 1) (p + 1 + 1) B35 (by omega) M36.1 (fun i' p' A' e1 e2 e3 e4 e5 e6 => hK i' p' A' e1 (by omega) e3 (by omega) (by omega) (ymv_trans M36 e6))
            · exfalso; omega
          · rw [eA]
            clear eA
            refine xr_if_ne rfl (by omega) (fun z38 => ?_) (fun z38 => ?_)
            · exfalso; omega
            · refine xr_steps (pc' := 46) (L' := [(3, .int (Int32.ofInt ((i : Int) + 1))), (2, .int (Int32.ofInt (p0 : Int))), (0, .int (Int32.ofInt sg)), (1, .ref cu)]) (st' := [.int (Int32.ofInt 43), .ref cu]) 2 rfl ?_
              obtain ⟨b39, hb39⟩ := mo_bool (ye n f (p + 1) = 43)
              refine xr_call (q := (.invokevirtual 60, 3, 67, 2)) (av := [.ref cu, .int (Int32.ofInt 43)]) (rest := []) rfl rfl (by decide) rfl (xr_rcv rfl M33.1.1) (Nat.le_of_ble_eq_true rfl) (mk_acc hw M33.1 (by omega) hb39) ?_
              rintro _ B39 ⟨rfl, hcase⟩
              rcases hcase with ⟨rfl, y39, m39⟩ | ⟨rfl, y39, eA⟩
              · have M40 := ymv_trans M33 m39
                refine xr_steps (pc' := 7) (L' := [(3, .int (Int32.ofInt ((i : Int) + 1))), (2, .int (Int32.ofInt (p0 : Int))), (0, .int (Int32.ofInt sg)), (1, .ref cu)]) (st' := []) 2 rfl ?_
                refine xr_loc (L := [(3, .int (Int32.ofInt ((i : Int) + 1))), (2, .int (Int32.ofInt (p0 : Int))), (0, .int (Int32.ofInt sg)), (1, .ref cu)]) (show [3, 2, 0, 1].Nodup by decide) ⟨rfl, rfl, rfl, rfl, trivial⟩ ?_
                rw [if_pos (by omega), if_pos (by omega)] at hK
                rw [show (i : Int) + 1 = ((i + 1 : Nat) : Int) by omega]
                refine ih (i + 1) (p + 1 + 1) B39 (by omega) M40.1 (fun i' p' A' e1 e2 e3 e4 e5 e6 => hK i' p' A' e1 (by omega) e3 (by omega) (by omega) (ymv_trans M40 e6))
              · rw [eA]
                clear eA
                refine xr_steps (pc' := 7) (L' := [(3, .int (Int32.ofInt ((i : Int) + 1))), (2, .int (Int32.ofInt (p0 : Int))), (0, .int (Int32.ofInt sg)), (1, .ref cu)]) (st' := []) 2 rfl ?_
                refine xr_loc (L := [(3, .int (Int32.ofInt ((i : Int) + 1))), (2, .int (Int32.ofInt (p0 : Int))), (0, .int (Int32.ofInt sg)), (1, .ref cu)]) (show [3, 2, 0, 1].Nodup by decide) ⟨rfl, rfl, rfl, rfl, trivial⟩ ?_
                rw [if_pos (by omega), if_neg (by omega)] at hK
                rw [show (i : Int) + 1 = ((i + 1 : Nat) : Int) by omega]
                refine ih (i + 1) (p + 1) B32 (by omega) M33.1 (fun i' p' A' e1 e2 e3 e4 e5 e6 => hK i' p' A' e1 (by omega) e3 (by omega) (by omega) (ymv_trans M33 e6))
        · exfalso; omega
      · rw [eA]
        clear eA
        refine xr_if_ne rfl (by omega) (fun z41 => ?_) (fun z41 => ?_)
        · exfalso; omega
        · refine xr_steps (pc' := 24) (L' := [(3, .int (Int32.ofInt (i : Int))), (2, .int (Int32.ofInt (p0 : Int))), (0, .int (Int32.ofInt sg)), (1, .ref cu)]) (st' := [.int (Int32.ofInt 1), .ref cu]) 2 rfl ?_
          have hr42 := ye_rng hc p
          refine xr_call (q := (.invokevirtual 53, 3, 77, 2)) (av := [.ref cu, .int (Int32.ofInt 1)]) (rest := []) rfl rfl (by decide) rfl (xr_rcv rfl hc.1) (Nat.le_of_ble_eq_true rfl) (mk_77 (most := 1) hw hc (by omega)) ?_
          rintro _ B42 ⟨rfl, m42⟩
          rw [show yn (ye n f) 97 122 1 p = if 97 ≤ (ye n f p) ∧ (ye n f p) ≤ 122 then 1 else 0 from rfl] at m42 ⊢
          by_cases y42 : 97 ≤ (ye n f p) ∧ (ye n f p) ≤ 122
          · rw [if_pos y42] at m42 ⊢
            rw [show ((1 : Nat) : Int) = 1 from rfl]
            have M43 := ymv_trans m0 m42
            refine xr_steps (pc' := 28) (L' := [(3, .int (Int32.ofInt (i : Int))), (2, .int (Int32.ofInt (p0 : Int))), (0, .int (Int32.ofInt sg)), (1, .ref cu)]) (st' := [.int (Int32.ofInt 1), .int (Int32.ofInt 1)]) 1 rfl ?_
            refine xr_icmp_ne rfl (by omega) (by omega) (fun z44 => ?_) (fun z44 => ?_)
            · exfalso; omega
            · refine xr_iinc (L' := [(3, .int (Int32.ofInt ((i : Int) + 1))), (2, .int (Int32.ofInt (p0 : Int))), (0, .int (Int32.ofInt sg)), (1, .ref cu)]) rfl rfl rfl ?_
              refine xr_steps (pc' := 37) (L' := [(3, .int (Int32.ofInt ((i : Int) + 1))), (2, .int (Int32.ofInt (p0 : Int))), (0, .int (Int32.ofInt sg)), (1, .ref cu)]) (st' := [.int (Int32.ofInt 42), .ref cu]) 2 rfl ?_
              obtain ⟨b45, hb45⟩ := mo_bool (ye n f (p + 1) = 42)
              refine xr_call (q := (.invokevirtual 60, 3, 67, 2)) (av := [.ref cu, .int (Int32.ofInt 42)]) (rest := []) rfl rfl (by decide) rfl (xr_rcv rfl M43.1.1) (Nat.le_of_ble_eq_true rfl) (mk_acc hw M43.1 (by omega) hb45) ?_
              rintro _ B45 ⟨rfl, hcase⟩
              rcases hcase with ⟨rfl, y45, m45⟩ | ⟨rfl, y45, eA⟩
              · have M46 := ymv_trans M43 m45
                refine xr_if_ne rfl (by omega) (fun z47 => ?_) (fun z47 => ?_)
                · refine xr_loc (L := [(3, .int (Int32.ofInt ((i : Int) + 1))), (2, .int (Int32.ofInt (p0 : Int))), (0, .int (Int32.ofInt sg)), (1, .ref cu)]) (show [3, 2, 0, 1].Nodup by decide) ⟨rfl, rfl, rfl, rfl, trivial⟩ ?_
                  rw [if_pos (by omega), if_pos (by omega)] at hK
                  rw [show (i : Int) + 1 = ((i + 1 : Nat) : Int) by omega]
                  refine ih (i + 1) (p + 1 + 1) B45 (by omega) M46.1 (fun i' p' A' e1 e2 e3 e4 e5 e6 => hK i' p' A' e1 (by omega) e3 (by omega) (by omega) (ymv_trans M46 e6))
                · exfalso; omega
              · rw [eA]
                clear eA
                refine xr_if_ne rfl (by omega) (fun z48 => ?_) (fun z48 => ?_)
                · exfalso; omega
                · refine xr_steps (pc' := 46) (L' := [(3, .int (Int32.ofInt ((i : Int) + 1))), (2, .int (Int32.ofInt (p0 : Int))), (0, .int (Int32.ofInt sg)), (1, .ref cu)]) (st' := [.int (Int32.ofInt 43), .ref cu]) 2 rfl ?_
                  obtain ⟨b49, hb49⟩ := mo_bool (ye n f (p + 1) = 43)
                  refine xr_call (q := (.invokevirtual 60, 3, 67, 2)) (av := [.ref cu, .int (Int32.ofInt 43)]) (rest := []) rfl rfl (by decide) rfl (xr_rcv rfl M43.1.1) (Nat.le_of_ble_eq_true rfl) (mk_acc hw M43.1 (by omega) hb49) ?_
                  rintro _ B49 ⟨rfl, hcase⟩
                  rcases hcase with ⟨rfl, y49, m49⟩ | ⟨rfl, y49, eA⟩
                  · have M50 := ymv_trans M43 m49
                    refine xr_steps (pc' := 7) (L' := [(3, .int (Int32.ofInt ((i : Int) + 1))), (2, .int (Int32.ofInt (p0 : Int))), (0, .int (Int32.ofInt sg)), (1, .ref cu)]) (st' := []) 2 rfl ?_
                    refine xr_loc (L := [(3, .int (Int32.ofInt ((i : Int) + 1))), (2, .int (Int32.ofInt (p0 : Int))), (0, .int (Int32.ofInt sg)), (1, .ref cu)]) (show [3, 2, 0, 1].Nodup by decide) ⟨rfl, rfl, rfl, rfl, trivial⟩ ?_
                    rw [if_pos (by omega), if_pos (by omega)] at hK
                    rw [show (i : Int) + 1 = ((i + 1 : Nat) : Int) by omega]
                    refine ih (i + 1) (p + 1 + 1) B49 (by omega) M50.1 (fun i' p' A' e1 e2 e3 e4 e5 e6 => hK i' p' A' e1 (by omega) e3 (by omega) (by omega) (ymv_trans M50 e6))
                  · rw [eA]
                    clear eA
                    refine xr_steps (pc' := 7) (L' := [(3, .int (Int32.ofInt ((i : Int) + 1))), (2, .int (Int32.ofInt (p0 : Int))), (0, .int (Int32.ofInt sg)), (1, .ref cu)]) (st' := []) 2 rfl ?_
                    refine xr_loc (L := [(3, .int (Int32.ofInt ((i : Int) + 1))), (2, .int (Int32.ofInt (p0 : Int))), (0, .int (Int32.ofInt sg)), (1, .ref cu)]) (show [3, 2, 0, 1].Nodup by decide) ⟨rfl, rfl, rfl, rfl, trivial⟩ ?_
                    rw [if_pos (by omega), if_neg (by omega)] at hK
                    rw [show (i : Int) + 1 = ((i + 1 : Nat) : Int) by omega]
                    refine ih (i + 1) (p + 1) B42 (by omega) M43.1 (fun i' p' A' e1 e2 e3 e4 e5 e6 => hK i' p' A' e1 (by omega) e3 (by omega) (by omega) (ymv_trans M43 e6))
          · rw [if_neg y42] at m42 ⊢
            rw [show ((0 : Nat) : Int) = 0 from rfl]
            rw [Nat.add_zero] at m42
            have M51 := ymv_trans m0 m42
            refine xr_steps (pc' := 28) (L' := [(3, .int (Int32.ofInt (i : Int))), (2, .int (Int32.ofInt (p0 : Int))), (0, .int (Int32.ofInt sg)), (1, .ref cu)]) (st' := [.int (Int32.ofInt 1), .int (Int32.ofInt 0)]) 1 rfl ?_
            refine xr_icmp_ne rfl (by omega) (by omega) (fun z52 => ?_) (fun z52 => ?_)
            · rw [if_neg (by omega)] at hK
              exact hK i p B42 rfl (Nat.le_refl _) (by omega) (Nat.le_refl _) (by omega) M51
            · exfalso; omega
theorem xit_le (e : Nat → Int) : ∀ (k p : Nat), xit e k p ≤ p + 2 * k := by
  intro k
  induction k with
  | zero => intro p; exact Nat.le_refl _
  | succ k ih =>
    intro p
    rw [xit]
    split
    · obtain ⟨q, hq⟩ : ∃ q, q = if e (p + 1) = 42 ∨ e (p + 1) = 43 then p + 2 else p + 1 := ⟨_, rfl⟩
      have hq2 : q ≤ p + 2 := by rw [hq]; split <;> omega
      rw [← hq]
      have := ih q
      omega
    · omega
theorem mm_160 {w : Value} {d : Nat} {A : xb_H} {cu sa v n p : Nat} {f : Nat → Int} {sg : Int} (hw : w = .null ∨ w = .ref 19) (hc : ycu A cu sa v n f p) (hk : yk1 A) (hsg : 0 ≤ sg ∧ sg ≤ 127) : xr_ok (xt_G w) (d + 1 + 1 + 1 + 1 + 1 + 1) 160 0 [(0, .int (Int32.ofInt sg)), (1, .ref cu)] [] A (fun o A' => ∃ v0, o = .inl v0 ∧ yrm A A' cu sa v n f p (xmi sg (ye n f) p) v0) := by
  have hp := hc.2.2
  have hcl := ycu_lt hc
  refine xr_steps (pc' := 1) (L' := [(0, .int (Int32.ofInt sg)), (1, .ref cu)]) (st' := [.ref cu]) 1 rfl ?_
  refine xr_call (q := (.invokevirtual 49, 3, 132, 1)) (av := [.ref cu]) (rest := []) rfl rfl (by decide) rfl (xr_rcv rfl hc.1) (Nat.le_of_ble_eq_true rfl) (mk_132 hw hc) ?_
  rintro _ _ ⟨rfl, eA⟩
  rw [eA]
  clear eA
  refine xr_steps (pc' := 7) (L' := [(3, .int (Int32.ofInt 0)), (2, .int (Int32.ofInt (p : Int))), (0, .int (Int32.ofInt sg)), (1, .ref cu)]) (st' := []) 3 rfl ?_
  refine mm_160l hw 8 0 p A rfl hc (fun i' p' A1 e1 e2 e3 e4 e5 m1 => ?_)
  unfold xmi
  rw [← e1]
  have hk1 := yk1_mv hk m1
  have hA1 := m1.2.1.1
  have hle := m1.1.2.2
  have hlen16 : p' ≤ p + 16 := by rw [e1]; exact xit_le _ 8 p
  refine xr_steps (pc' := 55) (L' := [(3, .int (Int32.ofInt (i' : Int))), (2, .int (Int32.ofInt (p : Int))), (0, .int (Int32.ofInt sg)), (1, .ref cu)]) (st' := [.int (Int32.ofInt (p : Int)), .ref cu]) 2 rfl ?_
  refine xr_call (q := (.invokevirtual 56, 3, 133, 2)) (av := [.ref cu, .int (Int32.ofInt (p : Int))]) (rest := []) rfl rfl (by decide) rfl (xr_rcv rfl m1.1.1) (Nat.le_of_ble_eq_true rfl) (mk_133 hw m1.1 hk1.1.1 (by omega)) ?_
  rintro _ A3 ⟨s3, v3, f3, rfl, y3, e3', fr3, c3⟩
  have m3 := ymv_fr m1 fr3
  have hA3 := fr3.1.1
  refine xr_steps (pc' := 61) (L' := [(4, .ref s3), (3, .int (Int32.ofInt (i' : Int))), (2, .int (Int32.ofInt (p : Int))), (0, .int (Int32.ofInt sg)), (1, .ref cu)]) (st' := [.int (Int32.ofInt (i' : Int))]) 2 rfl ?_
  have hnull : ∀ (B : xb_H) (r : Option ((Int × Int × List Int) × Nat)), r = none → ymv A B cu sa v n f p' 3 40 → xr_ok (xt_G w) (d + 1 + 1 + 1 + 1 + 1 + 1) 160 87 [(4, .ref s3), (3, .int (Int32.ofInt (i' : Int))), (2, .int (Int32.ofInt (p : Int))), (0, .int (Int32.ofInt sg)), (1, .ref cu)] [] B (fun o A' => ∃ v0, o = .inl v0 ∧ yrm A A' cu sa v n f p r v0) := by
    intro B r hr hm
    refine xr_steps (pc' := 88) (L' := [(4, .ref s3), (3, .int (Int32.ofInt (i' : Int))), (2, .int (Int32.ofInt (p : Int))), (0, .int (Int32.ofInt sg)), (1, .ref cu)]) (st' := [.null]) 1 rfl ?_
    exact xr_retNull rfl rfl ⟨_, rfl, p', e4, hm, Or.inr ⟨rfl, hr⟩⟩
  refine xr_if_le rfl (by omega) (fun h0 => ?_) (fun h0 => ?_)
  · exact hnull A3 _ (if_neg (by omega)) (ymv_mono m3 (by omega) (by omega))
  refine xr_steps (pc' := 67) (L' := [(4, .ref s3), (3, .int (Int32.ofInt (i' : Int))), (2, .int (Int32.ofInt (p : Int))), (0, .int (Int32.ofInt sg)), (1, .ref cu)]) (st' := [.int (Int32.ofInt 47), .ref cu]) 2 rfl ?_
  obtain ⟨b, hb⟩ := mo_bool (ye n f p' = 47)
  refine xr_call (q := (.invokevirtual 60, 3, 67, 2)) (av := [.ref cu, .int (Int32.ofInt 47)]) (rest := []) rfl rfl (by decide) rfl (xr_rcv rfl m3.1.1) (Nat.le_of_ble_eq_true rfl) (mk_acc hw m3.1 (by omega) hb) ?_
  rintro _ A4 ⟨rfl, hcase⟩
  rcases hcase with ⟨rfl, y47, m4⟩ | ⟨rfl, y47, eA⟩
  · rw [if_pos (by omega)]
    refine xr_if_eq rfl (by omega) (fun h => absurd h (by omega)) (fun _ => ?_)
    have m34 := ymv_trans m3 m4
    have hA4 := m4.2.1.1
    obtain ⟨A5, e5⟩ : ∃ A0, xb_new A4 3 (.inr (4, [.int (Int32.ofInt 0), .int (Int32.ofInt 0), .null])) = A0 := ⟨_, rfl⟩
    refine xr_newO rfl (xr_heap e5 ?_)
    have g5 := xr_mv e5 xb_get_new_same
    have n5 : A5.1 = A4.1 + 1 := by rw [← e5]; rfl
    refine xr_steps (pc' := 81) (L' := [(4, .ref s3), (3, .int (Int32.ofInt (i' : Int))), (2, .int (Int32.ofInt (p : Int))), (0, .int (Int32.ofInt sg)), (1, .ref cu)]) (st' := [.ref s3, .int (Int32.ofInt 0), .int (Int32.ofInt sg), .ref A4.1, .ref A4.1]) 4 rfl ?_
    refine xr_call (q := (.invokespecial 29, 3, 157, 4)) (av := [.ref A4.1, .int (Int32.ofInt sg), .int (Int32.ofInt 0), .ref s3]) (rest := [.ref A4.1]) rfl rfl (by decide) rfl (xr_rcv rfl g5) (Nat.le_of_ble_eq_true rfl) (mm_157 g5 (by omega) hsg) ?_
    rintro _ A7 ⟨rfl, h7, fr7, n7⟩
    obtain ⟨fr8, n8⟩ := mm_new e5 fr7 n7
    have hne : ¬ s3 = cu ∧ ¬ v3 = cu := by
      obtain ⟨⟨fs3, y31, -⟩, y32, -⟩ := id y3
      refine ⟨fun e => ?_, fun e => ?_⟩
      · rw [e, m3.1.1] at y31
        cases y31
      · rw [e, m3.1.1] at y32
        cases y32
    have y4 := ys_fr y3 m4.2 (by rw [List.mem_singleton]; exact hne.1) (by rw [List.mem_singleton]; exact hne.2)
    have hs3 := xb_get_lt y3.1.choose_spec.1
    have hv3 := xb_get_lt y3.2.1
    refine xr_steps (pc' := 88) (L' := [(4, .ref s3), (3, .int (Int32.ofInt (i' : Int))), (2, .int (Int32.ofInt (p : Int))), (0, .int (Int32.ofInt sg)), (1, .ref cu)]) (st' := [.ref A4.1]) 1 rfl ?_
    refine xr_retR rfl rfl ⟨_, rfl, yrm_some (p := p) (p' := p' + 1) (i := p) (k := p' - p) (by omega) (ymv_mono m34 (by omega) (by omega)) fr8 n8 h7 (ys_fr0 y4 fr8) e3' (by omega) ?_ hsg (by omega) rfl⟩
    rcases c3 with ⟨c3, c4⟩ | ⟨c3, c4⟩ | ⟨c3, c4⟩
    · exact Or.inl ⟨c3, c4⟩
    · exact Or.inr (Or.inl ⟨by omega, by omega⟩)
    · exact Or.inr (Or.inr ⟨⟨by omega, by omega⟩, by omega, by omega⟩)
  · rw [eA, if_neg (by omega)]
    refine xr_if_eq rfl (by omega) (fun _ => ?_) (fun h => absurd rfl h)
    exact hnull A3 _ rfl (ymv_mono m3 (by omega) (by omega))
theorem yrm_shift {A B A' : xb_H} {cu sa v n p p1 : Nat} {f : Nat → Int} {r : Option ((Int × Int × List Int) × Nat)} {v0 : Option Value} (m : ymv A B cu sa v n f p1 0 0) (hp : p ≤ p1) (h : yrm B A' cu sa v n f p1 r v0) : yrm A A' cu sa v n f p r v0 := by
  obtain ⟨p', h1, h2, h3⟩ := h
  have hAB := m.2.1.1
  refine ⟨p', by omega, ymv_mono (ymv_trans m h2) (by omega) (by omega), ?_⟩
  rcases h3 with ⟨ma, mt, e1, e2, e3, e4⟩ | h3
  · refine Or.inl ⟨ma, mt, e1, ymt_mono e2 (fun x hx => ?_), ⟨by omega, e3.2⟩, e4⟩
    rcases hx with hx | hx
    · exact Or.inl ⟨by omega, hx.2⟩
    · exact Or.inr hx
  · exact Or.inr h3
theorem mm_156 {w : Value} {d : Nat} {A : xb_H} {cu sa v n p : Nat} {f : Nat → Int} (hw : w = .null ∨ w = .ref 19) (hc : ycu A cu sa v n f p) (hk : yk1 A) : xr_ok (xt_G w) (d + 1 + 1 + 1 + 1 + 1 + 1 + 1) 156 0 [(0, .ref cu)] [] A (fun o A' => ∃ v0, o = .inl v0 ∧ yrm A A' cu sa v n f p (xms (ye n f) p) v0) := by
  have hr := ye_rng hc p
  have hcl := ycu_lt hc
  have ret : ∀ {pc : Nat} {A1 : xb_H} {L : xb_L} {v0 : Option Value} {r : Option ((Int × Int × List Int) × Nat)}, xb_gP (xt_G w) 156 pc = some (.areturn, 1, 0, 0) → yrm A A1 cu sa v n f p r v0 → xr_ok (xt_G w) (d + 1 + 1 + 1 + 1 + 1 + 1 + 1) 156 pc L (v0.toList ++ []) A1 (fun o A' => ∃ v0, o = .inl v0 ∧ yrm A A' cu sa v n f p r v0) := by
    intro pc A1 L v0 r hq h
    have h' := h
    obtain ⟨p', hp, -, ⟨a, t, rfl, -⟩ | ⟨rfl, -⟩⟩ := h
    · exact xr_retR hq rfl ⟨_, rfl, h'⟩
    · exact xr_retNull hq rfl ⟨_, rfl, h'⟩
  have hnull : ∀ {A1 : xb_H} {L : xb_L}, (∃ p', p ≤ p' ∧ ymv A A1 cu sa v n f p' 3 40) → xms (ye n f) p = none → xr_ok (xt_G w) (d + 1 + 1 + 1 + 1 + 1 + 1 + 1) 156 110 L [] A1 (fun o A' => ∃ v0, o = .inl v0 ∧ yrm A A' cu sa v n f p (xms (ye n f) p) v0) := by
    intro A1 L h hr
    obtain ⟨p', h1, h2⟩ := h
    refine xr_steps (pc' := 111) (L' := L) (st' := [.null]) 1 rfl ?_
    exact xr_retNull rfl rfl ⟨_, rfl, p', h1, h2, Or.inr ⟨rfl, hr⟩⟩
  refine xr_steps (pc' := 1) (L' := [(0, .ref cu)]) (st' := [.ref cu]) 1 rfl ?_
  refine xr_call (q := (.invokevirtual 21, 3, 75, 1)) (av := [.ref cu]) (rest := []) rfl rfl (by decide) rfl (xr_rcv rfl hc.1) (Nat.le_of_ble_eq_true rfl) (mk_75 hw hc) ?_
  rintro _ A1 ⟨rfl, hcase⟩
  refine xr_steps (pc' := 6) (L' := [(1, .int (Int32.ofInt (ye n f p))), (0, .ref cu)]) (st' := [.int (Int32.ofInt (ye n f p))]) 2 rfl ?_
  rcases hcase with ⟨h0, m1⟩ | ⟨h0, eA⟩
  · have hA1 := m1.2.1.1
    have hk1 := yk1_mv hk m1
    by_cases c1 : ye n f p = 116 ∨ ye n f p = 61 ∨ ye n f p = 48 ∨ ye n f p = 105
    · refine xr_lsw (t := 80) rfl (by omega) (by rcases c1 with c | c | c | c <;> (rw [c]; rfl)) ?_
      obtain ⟨A5, e5⟩ : ∃ A0, xb_new A1 3 (.inr (4, [.int (Int32.ofInt 0), .int (Int32.ofInt 0), .null])) = A0 := ⟨_, rfl⟩
      refine xr_newO rfl (xr_heap e5 ?_)
      have g5 := xr_mv e5 xb_get_new_same
      refine xr_steps (pc' := 88) (L' := [(1, .int (Int32.ofInt (ye n f p))), (0, .ref cu)]) (st' := [.ref 9, .int (Int32.ofInt 0), .int (Int32.ofInt (ye n f p)), .ref A1.1, .ref A1.1]) 4 rfl ?_
      refine xr_call (q := (.invokespecial 29, 3, 157, 4)) (av := [.ref A1.1, .int (Int32.ofInt (ye n f p)), .int (Int32.ofInt 0), .ref 9]) (rest := [.ref A1.1]) rfl rfl (by decide) rfl (xr_rcv rfl g5) (Nat.le_of_ble_eq_true rfl) (mm_157 g5 (by have := hc.2.2; omega) hr) ?_
      rintro _ A7 ⟨rfl, h7, fr7, n7⟩
      obtain ⟨fr8, n8⟩ := mm_new e5 fr7 n7
      have hp := m1.1.2.2
      refine xr_retR rfl rfl ⟨_, rfl, yrm_some (i := p) (k := 0) (by omega) (ymv_mono m1 (by omega) (by omega)) fr8 n8 h7 (ys_fr0 hk1.1.1 fr8) (fun j hj => absurd hj (Nat.not_lt_zero _)) (by omega) (Or.inr (Or.inl ⟨by omega, by omega⟩)) hr (by omega) ?_⟩
      unfold xms
      rw [if_pos c1]
      rfl
    by_cases c2 : ye n f p = 62 ∨ ye n f p = 60
    · refine xr_lsw (t := 92) rfl (by omega) (by rcases c2 with c | c <;> (rw [c]; rfl)) ?_
      refine xr_steps (pc' := 94) (L' := [(1, .int (Int32.ofInt (ye n f p))), (0, .ref cu)]) (st' := [.ref cu, .int (Int32.ofInt (ye n f p))]) 2 rfl ?_
      refine xr_call (q := (.invokestatic 32, 3, 158, 2)) (av := [.int (Int32.ofInt (ye n f p)), .ref cu]) (rest := []) rfl rfl (by decide) rfl rfl (Nat.le_of_ble_eq_true rfl) (mm_158 hw m1.1 hk1 hr) ?_
      rintro v0 A2 h
      unfold xms
      rw [if_neg c1, if_pos c2]
      exact ret rfl (yrm_shift m1 (by omega) h)
    by_cases c3 : ye n f p = 126
    · refine xr_lsw (t := 98) rfl (by omega) (by rw [c3]; rfl) ?_
      refine xr_steps (pc' := 100) (L' := [(1, .int (Int32.ofInt (ye n f p))), (0, .ref cu)]) (st' := [.ref cu, .int (Int32.ofInt (ye n f p))]) 2 rfl ?_
      refine xr_call (q := (.invokestatic 36, 3, 159, 2)) (av := [.int (Int32.ofInt (ye n f p)), .ref cu]) (rest := []) rfl rfl (by decide) rfl rfl (Nat.le_of_ble_eq_true rfl) (mm_159 hw m1.1 hk1 hr) ?_
      rintro v0 A2 h
      unfold xms
      rw [if_neg c1, if_neg c2, if_pos c3]
      exact ret rfl (yrm_shift m1 (by omega) h)
    by_cases c4 : ye n f p = 47
    · refine xr_lsw (t := 104) rfl (by omega) (by rw [c4]; rfl) ?_
      refine xr_steps (pc' := 106) (L' := [(1, .int (Int32.ofInt (ye n f p))), (0, .ref cu)]) (st' := [.ref cu, .int (Int32.ofInt (ye n f p))]) 2 rfl ?_
      refine xr_call (q := (.invokestatic 39, 3, 160, 2)) (av := [.int (Int32.ofInt (ye n f p)), .ref cu]) (rest := []) rfl rfl (by decide) rfl rfl (Nat.le_of_ble_eq_true rfl) (mm_160 hw m1.1 hk1 hr) ?_
      rintro v0 A2 h
      unfold xms
      rw [if_neg c1, if_neg c2, if_neg c3, if_pos c4]
      exact ret rfl (yrm_shift m1 (by omega) h)
    refine xr_lsw (t := 110) rfl (by omega) (by
      rw [xr_off, if_neg (by omega), xr_off, if_neg (by omega), xr_off, if_neg (by omega), xr_off, if_neg (by omega), xr_off, if_neg (by omega), xr_off, if_neg (by omega), xr_off, if_neg (by omega), xr_off, if_neg (by omega)]
      rfl) ?_
    refine hnull ⟨p + 1, by omega, ymv_mono m1 (by omega) (by omega)⟩ ?_
    unfold xms
    rw [if_neg c1, if_neg c2, if_neg c3, if_neg c4]
  · rw [eA]
    refine xr_lsw (t := 110) rfl (by omega) (by rw [h0]; rfl) ?_
    refine hnull ⟨p, Nat.le_refl _, ymv_refl hc _ _⟩ ?_
    unfold xms
    rw [if_neg (by omega), if_neg (by omega), if_neg (by omega), if_neg (by omega)]
theorem mm_161 {w : Value} {d : Nat} {A : xb_H} {ma sm : Nat} {sg bd : Int} (h1 : xb_get A ma = some (.inr (4, [.int (Int32.ofInt sg), .int (Int32.ofInt bd), .ref sm]))) (hs : 0 ≤ sg ∧ sg ≤ 127) {b : Int} (hb : (b = 1 ∧ (sg = 116 ∨ sg = 62 ∨ sg = 60)) ∨ (b = 0 ∧ ¬ (sg = 116 ∨ sg = 62 ∨ sg = 60))) : xr_ok (xt_G w) d 161 0 [(0, .ref ma)] [] A (fun o A' => ∃ v0, o = .inl v0 ∧ v0 = some (.int (Int32.ofInt b)) ∧ A' = A) := by
  refine xr_steps (pc' := 1) (L' := [(0, .ref ma)]) (st' := [.ref ma]) 1 rfl ?_
  refine xr_getf (v := .int (Int32.ofInt sg)) rfl h1 rfl ?_
  refine xr_steps (pc' := 6) (L' := [(0, .ref ma)]) (st' := [.int (Int32.ofInt 116), .int (Int32.ofInt sg)]) 1 rfl ?_
  refine xr_icmp_eq rfl (by omega) (by omega) (fun z31 => ?_) (fun z31 => ?_)
  · refine xr_steps (pc' := 32) (L' := [(0, .ref ma)]) (st' := [.int (Int32.ofInt 1)]) 2 rfl ?_
    obtain rfl : b = 1 := by omega
    exact xr_retZ rfl rfl (by omega) ⟨_, rfl, rfl, rfl⟩
  · refine xr_steps (pc' := 10) (L' := [(0, .ref ma)]) (st' := [.ref ma]) 1 rfl ?_
    refine xr_getf (v := .int (Int32.ofInt sg)) rfl h1 rfl ?_
    refine xr_steps (pc' := 15) (L' := [(0, .ref ma)]) (st' := [.int (Int32.ofInt 62), .int (Int32.ofInt sg)]) 1 rfl ?_
    refine xr_icmp_eq rfl (by omega) (by omega) (fun z32 => ?_) (fun z32 => ?_)
    · refine xr_steps (pc' := 32) (L' := [(0, .ref ma)]) (st' := [.int (Int32.ofInt 1)]) 2 rfl ?_
      obtain rfl : b = 1 := by omega
      exact xr_retZ rfl rfl (by omega) ⟨_, rfl, rfl, rfl⟩
    · refine xr_steps (pc' := 19) (L' := [(0, .ref ma)]) (st' := [.ref ma]) 1 rfl ?_
      refine xr_getf (v := .int (Int32.ofInt sg)) rfl h1 rfl ?_
      refine xr_steps (pc' := 24) (L' := [(0, .ref ma)]) (st' := [.int (Int32.ofInt 60), .int (Int32.ofInt sg)]) 1 rfl ?_
      refine xr_icmp_ne rfl (by omega) (by omega) (fun z33 => ?_) (fun z33 => ?_)
      · refine xr_steps (pc' := 32) (L' := [(0, .ref ma)]) (st' := [.int (Int32.ofInt 0)]) 1 rfl ?_
        obtain rfl : b = 0 := by omega
        exact xr_retZ rfl rfl (by omega) ⟨_, rfl, rfl, rfl⟩
      · refine xr_steps (pc' := 32) (L' := [(0, .ref ma)]) (st' := [.int (Int32.ofInt 1)]) 2 rfl ?_
        obtain rfl : b = 1 := by omega
        exact xr_retZ rfl rfl (by omega) ⟨_, rfl, rfl, rfl⟩
