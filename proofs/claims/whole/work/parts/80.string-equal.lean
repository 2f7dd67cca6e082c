/-! Strings are compared; what a value says of itself -/
theorem ms_148l {w : Value} {d : Nat} {A : xb_H} {v u n : Nat} {f g : Nat → Int} {Q : xb_R → xb_H → Prop} (hv : xb_get A v = some (.inl (.byte, n, .inl fun j => Int32.ofInt (f j)))) (hu : xb_get A u = some (.inl (.byte, n, .inl fun j => Int32.ofInt (g j)))) (hn : n ≤ 1000) (hf : ∀ j : Nat, j < n → 0 ≤ f j ∧ f j ≤ 127) (hg : ∀ j : Nat, j < n → 0 ≤ g j ∧ g j ≤ 127) : ∀ (k i : Nat), i + k = n → (∀ b : Int, ((b = 1 ∧ ∀ j : Nat, i ≤ j → j < n → f j = g j) ∨ (b = 0 ∧ ¬ ∀ j : Nat, i ≤ j → j < n → f j = g j)) → Q (.inl (some (.int (Int32.ofInt b)))) A) → xr_ok (xt_G w) d 148 9 [(2, .int (Int32.ofInt (i : Int))), (0, .ref v), (1, .ref u)] [] A Q := by
  intro k
  induction k with
  | zero =>
    intro i hi hQ
    refine xr_steps (pc' := 11) (L' := [(2, .int (Int32.ofInt (i : Int))), (0, .ref v), (1, .ref u)]) (st' := [.ref v, .int (Int32.ofInt (i : Int))]) 2 rfl ?_
    refine xr_alen rfl hv ?_
    refine xr_icmp_ge rfl (by omega) (by omega) (fun z1 => ?_) (fun z1 => ?_)
    · refine xr_steps (pc' := 33) (L' := [(2, .int (Int32.ofInt (i : Int))), (0, .ref v), (1, .ref u)]) (st' := [.int (Int32.ofInt 1)]) 1 rfl ?_
      exact xr_retZ rfl rfl (by omega) (hQ _ (Or.inl ⟨rfl, fun j h1 h2 => absurd h2 (by omega)⟩))
    · exfalso; omega
  | succ k ih =>
    intro i hi hQ
    have hfi := hf i (by omega)
    have hgi := hg i (by omega)
    refine xr_steps (pc' := 11) (L' := [(2, .int (Int32.ofInt (i : Int))), (0, .ref v), (1, .ref u)]) (st' := [.ref v, .int (Int32.ofInt (i : Int))]) 2 rfl ?_
    refine xr_alen rfl hv ?_
    refine xr_icmp_ge rfl (by omega) (by omega) (fun z1 => ?_) (fun z1 => ?_)
    · exfalso; omega
    · refine xr_steps (pc' := 17) (L' := [(2, .int (Int32.ofInt (i : Int))), (0, .ref v), (1, .ref u)]) (st' := [.int (Int32.ofInt (i : Int)), .ref v]) 2 rfl ?_
      refine xr_baload rfl hv rfl (by omega) (by omega) (by omega) ?_
      rw [Int.toNat_natCast]
      refine xr_steps (pc' := 20) (L' := [(2, .int (Int32.ofInt (i : Int))), (0, .ref v), (1, .ref u)]) (st' := [.int (Int32.ofInt (i : Int)), .ref u, .int (Int32.ofInt (f i))]) 2 rfl ?_
      refine xr_baload rfl hu rfl (by omega) (by omega) (by omega) ?_
      rw [Int.toNat_natCast]
      refine xr_icmp_eq rfl (by omega) (by omega) (fun z2 => ?_) (fun z2 => ?_)
      · refine xr_iinc (L' := [(2, .int (Int32.ofInt ((i : Int) + 1))), (0, .ref v), (1, .ref u)]) rfl rfl rfl ?_
        refine xr_steps (pc' := 9) (L' := [(2, .int (Int32.ofInt ((i : Int) + 1))), (0, .ref v), (1, .ref u)]) (st' := []) 1 rfl ?_
        have ei : (i : Int) + 1 = ((i + 1 : Nat) : Int) := by omega
        rw [ei]
        refine ih (i + 1) (by omega) (fun b hb => hQ b ?_)
        rcases hb with ⟨h1, h2⟩ | ⟨h1, h2⟩
        · refine Or.inl ⟨h1, fun j hj hn => ?_⟩
          by_cases e : j = i
          · rw [e]; exact z2
          · exact h2 j (by omega) hn
        · exact Or.inr ⟨h1, fun h => h2 fun j hj hn => h j (by omega) hn⟩
      · refine xr_steps (pc' := 25) (L' := [(2, .int (Int32.ofInt (i : Int))), (0, .ref v), (1, .ref u)]) (st' := [.int (Int32.ofInt 0)]) 1 rfl ?_
        exact xr_retZ rfl rfl (by omega) (hQ _ (Or.inr ⟨rfl, fun h => z2 (h i (Nat.le_refl _) (by omega))⟩))
theorem ms_148 {w : Value} {d : Nat} {A : xb_H} {v u n m : Nat} {f g : Nat → Int} (hv : xb_get A v = some (.inl (.byte, n, .inl fun j => Int32.ofInt (f j)))) (hu : xb_get A u = some (.inl (.byte, m, .inl fun j => Int32.ofInt (g j)))) (hn : n ≤ 1000) (hm : m ≤ 1000) (hf : ∀ j : Nat, j < n → 0 ≤ f j ∧ f j ≤ 127) (hg : ∀ j : Nat, j < m → 0 ≤ g j ∧ g j ≤ 127) : xr_ok (xt_G w) d 148 0 [(0, .ref v), (1, .ref u)] [] A (fun o A' => ∃ v0, o = .inl v0 ∧ ∃ b : Int, (v0 = some (.int (Int32.ofInt b)) ∧ A' = A) ∧ ((b = 1 ∧ (n = m ∧ ∀ j : Nat, j < n → f j = g j)) ∨ (b = 0 ∧ ¬ (n = m ∧ ∀ j : Nat, j < n → f j = g j)))) := by
  refine xr_steps (pc' := 1) (L' := [(0, .ref v), (1, .ref u)]) (st' := [.ref v]) 1 rfl ?_
  refine xr_alen rfl hv ?_
  refine xr_steps (pc' := 3) (L' := [(0, .ref v), (1, .ref u)]) (st' := [.ref u, .int (Int32.ofInt (n : Int))]) 1 rfl ?_
  refine xr_alen rfl hu ?_
  refine xr_icmp_ne rfl (by omega) (by omega) (fun z1 => ?_) (fun z1 => ?_)
  · refine xr_steps (pc' := 35) (L' := [(0, .ref v), (1, .ref u)]) (st' := [.int (Int32.ofInt 0)]) 1 rfl ?_
    exact xr_retZ rfl rfl (by omega) ⟨_, rfl, _, ⟨rfl, rfl⟩, Or.inr ⟨rfl, fun h => by omega⟩⟩
  · refine xr_steps (pc' := 9) (L' := [(2, .int (Int32.ofInt 0)), (0, .ref v), (1, .ref u)]) (st' := []) 2 rfl ?_
    obtain rfl : n = m := by omega
    refine ms_148l hv hu hn hf hg n 0 (by omega) (fun b hb => ⟨_, rfl, b, ⟨rfl, rfl⟩, ?_⟩)
    rcases hb with ⟨h1, h2⟩ | ⟨h1, h2⟩
    · exact Or.inl ⟨h1, rfl, fun j hj => h2 j (Nat.zero_le _) hj⟩
    · exact Or.inr ⟨h1, fun h => h2 fun j _ hj => h.2 j hj⟩
/-! Strings and values compared -/
/-- among the old cells only 9 to 13 are strings -/
def yk2 (A : xb_H) : Prop := 64 ≤ A.1 ∧ ∀ (x : Nat) (fs : List Value), x < 64 → xb_get A x = some (.inr (12, fs)) → 9 ≤ x ∧ x < 14
theorem yk2_fr {A A' : xb_H} {M : List Nat} {p q : Nat} (h : yk2 A) (hf : yfr A A' M p q) (hM : ∀ x ∈ M, 64 ≤ x) : yk2 A' :=
  ⟨by have := hf.1.1; have := h.1; omega, fun x fs hx hg => h.2 x fs hx (by rw [← hf.2.2 x (by have := h.1; omega) (fun hm => by have := hM _ hm; omega)]; exact hg)⟩
theorem yk2_dist {A : xb_H} {a v n : Nat} {f : Nat → Int} (h : yk2 A) (hs : ys A a v n f) : xb_dist a = true := by
  obtain ⟨⟨fs, h1, -⟩, -⟩ := hs
  unfold xb_dist xb_z
  by_cases hz : a < 64
  · have := h.2 a fs hz h1
    simp only [Bool.or_eq_true, Bool.and_eq_true, decide_eq_true_eq]
    omega
  · simp only [Bool.or_eq_true, Bool.and_eq_true, decide_eq_true_eq]
    omega
theorem xr_ofI {a b : Int} (ha : 0 ≤ a ∧ a ≤ 127) (hb : 0 ≤ b ∧ b ≤ 127) (h : Int32.ofInt a = Int32.ofInt b) : a = b := by
  have h1 := congrArg Int32.toInt h
  rw [xr_toInt (by omega), xr_toInt (by omega)] at h1
  exact h1
theorem ys_same {A : xb_H} {a v u n m : Nat} {f g : Nat → Int} (h1 : ys A a v n f) (h2 : ys A a u m g) : n = m ∧ ∀ j : Nat, j < n → f j = g j := by
  obtain ⟨⟨fs, c1, c2, -⟩, c3, -, c4⟩ := h1
  obtain ⟨⟨gs, d1, d2, -⟩, d3, -, d4⟩ := h2
  rw [c1] at d1
  cases d1
  rw [c2] at d2
  cases d2
  rw [c3] at d3
  have e := Sum.inl.inj (Option.some.inj d3)
  have e1 : n = m := congrArg (fun p => p.2.1) e
  have e2 := congrArg (fun p => p.2.2) e
  have e3 := Sum.inl.inj e2
  subst e1
  exact ⟨rfl, fun j hj => xr_ofI (c4 j hj) (d4 j hj) (congrFun e3 j)⟩
theorem ms_147 {w : Value} {d : Nat} {A : xb_H} {sa v n sb u m : Nat} {f g : Nat → Int} (hk : yk2 A) (hs : ys A sa v n f) (hs2 : ys A sb u m g) : xr_ok (xt_G w) (d + 1) 147 0 [(0, .ref sa), (1, .ref sb)] [] A (fun o A' => ∃ v0, o = .inl v0 ∧ ∃ b : Int, (v0 = some (.int (Int32.ofInt b)) ∧ A' = A) ∧ ((b = 1 ∧ (n = m ∧ ∀ j : Nat, j < n → f j = g j)) ∨ (b = 0 ∧ ¬ (n = m ∧ ∀ j : Nat, j < n → f j = g j)))) := by
  obtain ⟨⟨fs, h1, h2, h3⟩, h4, h5, h6⟩ := id hs
  obtain ⟨⟨gs, k1, k2, k3⟩, k4, k5, k6⟩ := id hs2
  refine xr_steps (pc' := 2) (L' := [(0, .ref sa), (1, .ref sb)]) (st' := [.ref sb, .ref sa]) 2 rfl ?_
  refine xr_acmp (e := false) (t := 7) rfl rfl rfl (yk2_dist hk hs) (yk2_dist hk hs2) (fun z31 => ?_) (fun z31 => ?_)
  · refine xr_steps (pc' := 6) (L' := [(0, .ref sa), (1, .ref sb)]) (st' := [.int (Int32.ofInt 1)]) 1 rfl ?_
    exact xr_retZ rfl rfl (by omega) ⟨_, rfl, 1, ⟨rfl, rfl⟩, Or.inl ⟨rfl, ys_same (show ys A sa v n f from hs) (by rw [z31]; exact hs2)⟩⟩
  · refine xr_steps (pc' := 8) (L' := [(0, .ref sa), (1, .ref sb)]) (st' := [.ref sb]) 1 rfl ?_
    refine xr_instO rfl k1 rfl ?_
    refine xr_if_eq rfl (by omega) (fun z32 => ?_) (fun z32 => ?_)
    · exfalso; omega
    · refine xr_steps (pc' := 15) (L' := [(0, .ref sa), (1, .ref sb)]) (st' := [.ref sb]) 1 rfl ?_
      refine xr_castO rfl k1 rfl ?_
      refine xr_steps (pc' := 22) (L' := [(2, .ref sb), (0, .ref sa), (1, .ref sb)]) (st' := [.int (Int32.ofInt 1)]) 2 rfl ?_
      refine xr_if_eq rfl (by omega) (fun z33 => ?_) (fun z33 => ?_)
      · exfalso; omega
      · refine xr_steps (pc' := 26) (L' := [(2, .ref sb), (0, .ref sa), (1, .ref sb)]) (st' := [.ref sa]) 1 rfl ?_
        refine xr_getf (v := .int (Int32.ofInt 0)) rfl h1 h3 ?_
        refine xr_steps (pc' := 30) (L' := [(2, .ref sb), (0, .ref sa), (1, .ref sb)]) (st' := [.ref sb, .int (Int32.ofInt 0)]) 1 rfl ?_
        refine xr_getf (v := .int (Int32.ofInt 0)) rfl k1 k3 ?_
        refine xr_icmp_ne rfl (by omega) (by omega) (fun z34 => ?_) (fun z34 => ?_)
        · exfalso; omega
        · refine xr_steps (pc' := 37) (L' := [(2, .ref sb), (0, .ref sa), (1, .ref sb)]) (st' := [.ref sa]) 1 rfl ?_
          refine xr_getf (v := .ref v) rfl h1 h2 ?_
          refine xr_steps (pc' := 41) (L' := [(2, .ref sb), (0, .ref sa), (1, .ref sb)]) (st' := [.ref sb, .ref v]) 1 rfl ?_
          refine xr_getf (v := .ref u) rfl k1 k2 ?_
          refine xr_call (q := (.invokestatic 541, 3, 148, 2)) (av := [.ref v, .ref u]) (rest := []) rfl rfl (by decide) rfl rfl (Nat.le_of_ble_eq_true rfl) (ms_148 h4 k4 h5 k5 h6 k6) ?_
          rintro _ _ ⟨b, ⟨rfl, eA⟩, hb⟩
          rw [eA]
          clear eA
          refine xr_if_eq rfl (by omega) (fun z35 => ?_) (fun z35 => ?_)
          · refine xr_steps (pc' := 55) (L' := [(2, .ref sb), (0, .ref sa), (1, .ref sb)]) (st' := [.int (Int32.ofInt 0)]) 1 rfl ?_
            exact xr_retZ rfl rfl (by omega) ⟨_, rfl, 0, ⟨rfl, rfl⟩, Or.inr ⟨rfl, by rcases hb with h | h <;> first | exact h.2 | omega⟩⟩
          · refine xr_steps (pc' := 55) (L' := [(2, .ref sb), (0, .ref sa), (1, .ref sb)]) (st' := [.int (Int32.ofInt 1)]) 2 rfl ?_
            exact xr_retZ rfl rfl (by omega) ⟨_, rfl, 1, ⟨rfl, rfl⟩, Or.inl ⟨rfl, by rcases hb with h | h <;> first | exact h.2 | omega⟩⟩
theorem xk_dist {a : Nat} (h : a < 6) : xb_dist a = true := by
  unfold xb_dist
  simp only [Bool.or_eq_true, Bool.and_eq_true, decide_eq_true_eq]
  omega
theorem mv_146c {w : Value} {d : Nat} {A : xb_H} {a ka sa la b kb sb lb v u n m : Nat} {f g : Nat → Int} {k cnt k2 cnt2 : Int} (hk : yk2 A) (ha : xb_get A a = some (.inr (9, [.ref ka, .ref sa, .ref la, .int (Int32.ofInt k), .int (Int32.ofInt cnt)]))) (hb : xb_get A b = some (.inr (9, [.ref kb, .ref sb, .ref lb, .int (Int32.ofInt k2), .int (Int32.ofInt cnt2)]))) (hka : ka < 6) (hkb : kb < 6) (hs : ys A sa v n f) (hs2 : ys A sb u m g) : xr_ok (xt_G w) (d + 1 + 1) 146 0 [(0, .ref a), (1, .ref b)] [] A (fun o A' => ∃ v0, o = .inl v0 ∧ ∃ b : Int, (v0 = some (.int (Int32.ofInt b)) ∧ A' = A) ∧ ((b = 1 ∧ (ka = kb ∧ n = m ∧ ∀ j : Nat, j < n → f j = g j)) ∨ (b = 0 ∧ ¬ (ka = kb ∧ n = m ∧ ∀ j : Nat, j < n → f j = g j)))) := by
  refine xr_steps (pc' := 1) (L' := [(0, .ref a), (1, .ref b)]) (st' := [.ref a]) 1 rfl ?_
  refine xr_getf (v := .ref ka) rfl ha rfl ?_
  refine xr_steps (pc' := 5) (L' := [(0, .ref a), (1, .ref b)]) (st' := [.ref b, .ref ka]) 1 rfl ?_
  refine xr_getf (v := .ref kb) rfl hb rfl ?_
  refine xr_acmp (e := false) (t := 29) rfl rfl rfl (xk_dist hka) (xk_dist hkb) (fun z31 => ?_) (fun z31 => ?_)
  · refine xr_steps (pc' := 12) (L' := [(0, .ref a), (1, .ref b)]) (st' := [.ref a]) 1 rfl ?_
    refine xr_getf (v := .ref sa) rfl ha rfl ?_
    refine xr_steps (pc' := 16) (L' := [(0, .ref a), (1, .ref b)]) (st' := [.ref b, .ref sa]) 1 rfl ?_
    refine xr_getf (v := .ref sb) rfl hb rfl ?_
    refine xr_call (q := (.invokevirtual 143, 3, 147, 2)) (av := [.ref sa, .ref sb]) (rest := []) rfl rfl (by decide) rfl (xr_rcv rfl hs.1.choose_spec.1) (Nat.le_of_ble_eq_true rfl) (ms_147 hk hs hs2) ?_
    rintro _ _ ⟨bb, ⟨rfl, eA⟩, hb⟩
    rw [eA]
    clear eA
    refine xr_if_eq rfl (by omega) (fun z32 => ?_) (fun z32 => ?_)
    · refine xr_steps (pc' := 30) (L' := [(0, .ref a), (1, .ref b)]) (st' := [.int (Int32.ofInt 0)]) 1 rfl ?_
      exact xr_retZ rfl rfl (by omega) ⟨_, rfl, 0, ⟨rfl, rfl⟩, Or.inr ⟨rfl, fun z => (by rcases hb with h | h <;> first | exact h.2 z.2 | omega)⟩⟩
    · refine xr_steps (pc' := 30) (L' := [(0, .ref a), (1, .ref b)]) (st' := [.int (Int32.ofInt 1)]) 2 rfl ?_
      exact xr_retZ rfl rfl (by omega) ⟨_, rfl, 1, ⟨rfl, rfl⟩, Or.inl ⟨rfl, z31, by rcases hb with h | h <;> first | exact h.2 | omega⟩⟩
  · refine xr_steps (pc' := 30) (L' := [(0, .ref a), (1, .ref b)]) (st' := [.int (Int32.ofInt 0)]) 1 rfl ?_
    exact xr_retZ rfl rfl (by omega) ⟨_, rfl, 0, ⟨rfl, rfl⟩, Or.inr ⟨rfl, fun h => z31 h.1⟩⟩
theorem mv_189 {w : Value} {d : Nat} {A : xb_H} {a ka sa la : Nat} {k cnt : Int} (ha : xb_get A a = some (.inr (9, [.ref ka, .ref sa, .ref la, .int (Int32.ofInt k), .int (Int32.ofInt cnt)]))) : xr_ok (xt_G w) d 189 0 [(0, .ref a)] [] A (fun o A' => ∃ v0, o = .inl v0 ∧ v0 = some (.ref ka) ∧ A' = A) := by
  refine xr_steps (pc' := 1) (L' := [(0, .ref a)]) (st' := [.ref a]) 1 rfl ?_
  refine xr_getf (v := .ref ka) rfl ha rfl ?_
  exact xr_retR rfl rfl ⟨_, rfl, rfl, rfl⟩
theorem mv_190 {w : Value} {d : Nat} {A : xb_H} {a ka sa la : Nat} {k cnt : Int} (ha : xb_get A a = some (.inr (9, [.ref ka, .ref sa, .ref la, .int (Int32.ofInt k), .int (Int32.ofInt cnt)]))) : xr_ok (xt_G w) d 190 0 [(0, .ref a)] [] A (fun o A' => ∃ v0, o = .inl v0 ∧ v0 = some (.ref sa) ∧ A' = A) := by
  refine xr_steps (pc' := 1) (L' := [(0, .ref a)]) (st' := [.ref a]) 1 rfl ?_
  refine xr_getf (v := .ref sa) rfl ha rfl ?_
  exact xr_retR rfl rfl ⟨_, rfl, rfl, rfl⟩
theorem mv_151 {w : Value} {d : Nat} {A : xb_H} {a ka sa la : Nat} {k cnt : Int} (ha : xb_get A a = some (.inr (9, [.ref ka, .ref sa, .ref la, .int (Int32.ofInt k), .int (Int32.ofInt cnt)]))) : xr_ok (xt_G w) d 151 0 [(0, .ref a)] [] A (fun o A' => ∃ v0, o = .inl v0 ∧ v0 = some (.int (Int32.ofInt cnt)) ∧ A' = A) := by
  refine xr_steps (pc' := 1) (L' := [(0, .ref a)]) (st' := [.ref a]) 1 rfl ?_
  refine xr_getf (v := .int (Int32.ofInt cnt)) rfl ha rfl ?_
  exact xr_retI2 rfl rfl ⟨_, rfl, rfl, rfl⟩
theorem mv_200 {w : Value} {d : Nat} {A : xb_H} {a ka sa la : Nat} {k cnt : Int} (ha : xb_get A a = some (.inr (9, [.ref ka, .ref sa, .ref la, .int (Int32.ofInt k), .int (Int32.ofInt cnt)]))) (hkk : 0 ≤ k ∧ k ≤ 127) : xr_ok (xt_G w) d 200 0 [(0, .ref a)] [] A (fun o A' => ∃ v0, o = .inl v0 ∧ v0 = some (.int (Int32.ofInt k)) ∧ A' = A) := by
  refine xr_steps (pc' := 1) (L' := [(0, .ref a)]) (st' := [.ref a]) 1 rfl ?_
  refine xr_getf (v := .int (Int32.ofInt k)) rfl ha rfl ?_
  exact xr_retCh rfl rfl (by omega) ⟨_, rfl, rfl, rfl⟩
theorem mv_149 {w : Value} {d : Nat} {A : xb_H} {a ka sa la ed cap : Nat} {as : List Nat} {k cnt : Int} (ha : xb_get A a = some (.inr (9, [.ref ka, .ref sa, .ref la, .int (Int32.ofInt k), .int (Int32.ofInt cnt)]))) (hl : yal A la ed cap as) : xr_ok (xt_G w) (d + 1) 149 0 [(0, .ref a)] [] A (fun o A' => ∃ v0, o = .inl v0 ∧ v0 = some (.int (Int32.ofInt (as.length : Int))) ∧ A' = A) := by
  obtain ⟨mc, g, hla, he, hzl, hcl, hcap, hed, hg⟩ := id hl
  refine xr_steps (pc' := 1) (L' := [(0, .ref a)]) (st' := [.ref a]) 1 rfl ?_
  refine xr_getf (v := .ref la) rfl ha rfl ?_
  refine xr_call (q := (.invokevirtual 136, 3, 127, 1)) (av := [.ref la]) (rest := []) rfl rfl (by decide) rfl (xr_rcv rfl hla) (Nat.le_of_ble_eq_true rfl) (ma_127 hl) ?_
  rintro _ _ ⟨rfl, eA⟩
  rw [eA]
  clear eA
  exact xr_retI2 rfl rfl ⟨_, rfl, rfl, rfl⟩
theorem mv_150 {w : Value} {d : Nat} {A : xb_H} {a ka sa la ed cap i x : Nat} {as : List Nat} {k cnt : Int} {fs : List Value} (ha : xb_get A a = some (.inr (9, [.ref ka, .ref sa, .ref la, .int (Int32.ofInt k), .int (Int32.ofInt cnt)]))) (hl : yal A la ed cap as) (hi : as[i]? = some x) (hx : xb_get A x = some (.inr (9, fs))) : xr_ok (xt_G w) (d + 1 + 1 + 1) 150 0 [(0, .ref a), (1, .int (Int32.ofInt (i : Int)))] [] A (fun o A' => ∃ v0, o = .inl v0 ∧ v0 = some (.ref x) ∧ A' = A) := by
  obtain ⟨mc, g, hla, he, hzl, hcl, hcap, hed, hg⟩ := id hl
  have hil : i < as.length := (List.getElem?_eq_some_iff.mp hi).1
  refine xr_steps (pc' := 1) (L' := [(0, .ref a), (1, .int (Int32.ofInt (i : Int)))]) (st' := [.int (Int32.ofInt (i : Int))]) 1 rfl ?_
  refine xr_if_lt rfl (by omega) (fun z31 => ?_) (fun z31 => ?_)
  · exfalso; omega
  · refine xr_steps (pc' := 6) (L' := [(0, .ref a), (1, .int (Int32.ofInt (i : Int)))]) (st' := [.ref a, .int (Int32.ofInt (i : Int))]) 2 rfl ?_
    refine xr_getf (v := .ref la) rfl ha rfl ?_
    refine xr_call (q := (.invokevirtual 136, 3, 127, 1)) (av := [.ref la]) (rest := [.int (Int32.ofInt (i : Int))]) rfl rfl (by decide) rfl (xr_rcv rfl hla) (Nat.le_of_ble_eq_true rfl) (ma_127 hl) ?_
    rintro _ _ ⟨rfl, eA⟩
    rw [eA]
    clear eA
    refine xr_icmp_ge rfl (by omega) (by omega) (fun z32 => ?_) (fun z32 => ?_)
    · exfalso; omega
    · refine xr_steps (pc' := 16) (L' := [(0, .ref a), (1, .int (Int32.ofInt (i : Int)))]) (st' := [.ref a]) 1 rfl ?_
      refine xr_getf (v := .ref la) rfl ha rfl ?_
      refine xr_steps (pc' := 20) (L' := [(0, .ref a), (1, .int (Int32.ofInt (i : Int)))]) (st' := [.int (Int32.ofInt (i : Int)), .ref la]) 1 rfl ?_
      refine xr_call (q := (.invokevirtual 139, 3, 128, 2)) (av := [.ref la, .int (Int32.ofInt (i : Int))]) (rest := []) rfl rfl (by decide) rfl (xr_rcv rfl hla) (Nat.le_of_ble_eq_true rfl) (ma_128 hl hi) ?_
      rintro _ _ ⟨rfl, eA⟩
      rw [eA]
      clear eA
      refine xr_castO rfl hx rfl ?_
      refine xr_steps (pc' := 30) (L' := [(0, .ref a), (1, .int (Int32.ofInt (i : Int)))]) (st' := [.ref x]) 1 rfl ?_
      exact xr_retR rfl rfl ⟨_, rfl, rfl, rfl⟩
theorem mv_150n {w : Value} {d : Nat} {A : xb_H} {a ka sa la ed cap i : Nat} {as : List Nat} {k cnt : Int} (ha : xb_get A a = some (.inr (9, [.ref ka, .ref sa, .ref la, .int (Int32.ofInt k), .int (Int32.ofInt cnt)]))) (hl : yal A la ed cap as) (hi : as.length ≤ i ∧ i ≤ 1000) : xr_ok (xt_G w) (d + 1 + 1 + 1) 150 0 [(0, .ref a), (1, .int (Int32.ofInt (i : Int)))] [] A (fun o A' => ∃ v0, o = .inl v0 ∧ v0 = some .null ∧ A' = A) := by
  obtain ⟨mc, g, hla, he, hzl, hcl, hcap, hed, hg⟩ := id hl
  refine xr_steps (pc' := 1) (L' := [(0, .ref a), (1, .int (Int32.ofInt (i : Int)))]) (st' := [.int (Int32.ofInt (i : Int))]) 1 rfl ?_
  refine xr_if_lt rfl (by omega) (fun z31 => ?_) (fun z31 => ?_)
  · exfalso; omega
  · refine xr_steps (pc' := 6) (L' := [(0, .ref a), (1, .int (Int32.ofInt (i : Int)))]) (st' := [.ref a, .int (Int32.ofInt (i : Int))]) 2 rfl ?_
    refine xr_getf (v := .ref la) rfl ha rfl ?_
    refine xr_call (q := (.invokevirtual 136, 3, 127, 1)) (av := [.ref la]) (rest := [.int (Int32.ofInt (i : Int))]) rfl rfl (by decide) rfl (xr_rcv rfl hla) (Nat.le_of_ble_eq_true rfl) (ma_127 hl) ?_
    rintro _ _ ⟨rfl, eA⟩
    rw [eA]
    clear eA
    refine xr_icmp_ge rfl (by omega) (by omega) (fun z32 => ?_) (fun z32 => ?_)
    · refine xr_steps (pc' := 30) (L' := [(0, .ref a), (1, .int (Int32.ofInt (i : Int)))]) (st' := [.null]) 1 rfl ?_
      exact xr_retNull rfl rfl ⟨_, rfl, rfl, rfl⟩
    · exfalso; omega
