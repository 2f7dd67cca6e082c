/-! A run of the small machine is a run of the real one -/
theorem xb_new_mono {A : xb_H} {n : Nat} {o : xb_O} : A.1 ≤ (xb_new A n o).1 ∧ A.2.1 ≤ (xb_new A n o).2.1 := ⟨Nat.le_succ _, Nat.le_add_right _ _⟩
set_option maxHeartbeats 4000000 in
set_option maxRecDepth 100000 in
theorem xb_pure_mono {G : xb_G} {q : xb_I} {pc : Nat} {L : xb_L} {st : List Value} {A : xb_H} {r : xb_S} (h : xb_pure G q pc L st A = some r) : A.1 ≤ r.2.2.2.1 ∧ A.2.1 ≤ r.2.2.2.2.1 := by
  obtain ⟨ins, len, r1, r2⟩ := q
  cases ins
  all_goals first | (have h9 : none = some r := h; cases h9; done) | skip
  case putfield idx =>
    obtain ⟨a, v, r', fs, t, rfl, hg, hz, hlen, hty, hn, hfit, rfl⟩ := xb_putx_spec h
    exact ⟨Nat.le_refl _, Nat.le_refl _⟩
  case new idx =>
    cases h
    exact xb_new_mono
  case newarray t =>
    obtain ⟨n, r', a, rfl, hn, hn2, ha, rfl⟩ := xb_newax_spec h
    exact xb_new_mono
  case anewarray t =>
    obtain ⟨n, r', a, rfl, hn, hn2, ha, rfl⟩ := xb_newax_spec h
    exact xb_new_mono
  case iastore =>
    obtain ⟨x, i, a, r', t, n, f, rfl, hg, hok, hz, hin, rfl⟩ := xb_ias_spec h
    exact ⟨Nat.le_refl _, Nat.le_refl _⟩
  case castore =>
    obtain ⟨x, i, a, r', t, n, f, rfl, hg, hok, hz, hin, rfl⟩ := xb_ias_spec h
    exact ⟨Nat.le_refl _, Nat.le_refl _⟩
  case bastore =>
    obtain ⟨x, i, a, r', t, n, f, rfl, hg, hok, hz, hin, rfl⟩ := xb_ias_spec h
    exact ⟨Nat.le_refl _, Nat.le_refl _⟩
  case lastore =>
    obtain ⟨x, i, a, r', n, f, rfl, hg, hz, hin, rfl⟩ := xb_las_spec h
    exact ⟨Nat.le_refl _, Nat.le_refl _⟩
  case aastore =>
    obtain ⟨v, i, a, r', t, n, f, k, fs, rfl, hg, hv, hin2, hz, hin, rfl⟩ := xb_aas_spec h
    exact ⟨Nat.le_refl _, Nat.le_refl _⟩
  case ifCond cond off =>
    cases cond <;> (dsimp only [xb_pure, xb_j1] at h; repeat' split at h) <;> first | (cases h; done) | (cases h; exact ⟨Nat.le_refl _, Nat.le_refl _⟩)
  case if_icmp cond off =>
    cases cond <;> (dsimp only [xb_pure, xb_j2] at h; repeat' split at h) <;> first | (cases h; done) | (cases h; exact ⟨Nat.le_refl _, Nat.le_refl _⟩)
  case if_acmp cond off =>
    cases cond <;> (dsimp only [xb_pure, xb_ja] at h; repeat' split at h) <;> first | (cases h; done) | (cases h; exact ⟨Nat.le_refl _, Nat.le_refl _⟩)
  all_goals ((try dsimp only [xb_pure, xb_ildx, xb_lldx, xb_aldx, xb_istx, xb_lstx, xb_astx, xb_iincx, xb_i1, xb_i2, xb_l2, xb_ls, xb_divx, xb_i2lx, xb_l2ix, xb_lcmpx, xb_dupx, xb_popx, xb_dupx1, xb_dupx2, xb_dup2x, xb_jn, xb_lookx, xb_tabx, xb_getx, xb_cst, xb_alenx, xb_ial, xb_lal, xb_aal, xb_castx, xb_instx] at h); repeat' split at h)
  all_goals first | (cases h; done) | (cases h; exact ⟨Nat.le_refl _, Nat.le_refl _⟩)
theorem xb_objx_spec {d pc : Nat} {L : xb_L} {A : xb_H} {st : List Value} {q : xb_S} (h : xb_objx d pc L A st = some q) : ∃ (a : Nat) (r : List Value), st = .ref a :: r ∧ 1 ≤ d ∧ (r.map fun v => v.category).sum ≤ 8 ∧ q = (pc + 3, L, r, A) := by
  unfold xb_objx at h
  split at h
  · split at h
    · rename_i hc
      cases h
      exact ⟨_, _, rfl, hc.1, hc.2, rfl⟩
    · cases h
  · cases h
theorem xb_cpyx_spec {d pc : Nat} {L : xb_L} {A : xb_H} {st : List Value} {q : xb_S} (h : xb_cpyx d pc L A st = some q) : ∃ (n dp sp : Int32) (a b n0 n1 : Nat) (f g : Nat → Int32) (r : List Value), st = .int n :: .int dp :: .ref b :: .int sp :: .ref a :: r ∧ xb_get A a = some (.inl (.byte, n0, .inl f)) ∧ xb_get A b = some (.inl (.byte, n1, .inl g)) ∧ xb_z ≤ b ∧ ¬ sp < 0 ∧ ¬ dp < 0 ∧ ¬ n < 0 ∧ sp.toNatClampNeg + n.toNatClampNeg ≤ n0 ∧ dp.toNatClampNeg + n.toNatClampNeg ≤ n1 ∧ 1 ≤ d ∧ (r.map fun v => v.category).sum ≤ 8 ∧ (∀ i, i < n.toNatClampNeg → fits .byte (.int (f (sp.toNatClampNeg + i))) = true) ∧ q = (pc + 3, L, r, xb_set A b (.inl (.byte, n1, .inl (va_cpy f g sp.toNatClampNeg dp.toNatClampNeg n.toNatClampNeg)))) := by
  unfold xb_cpyx at h
  split at h
  · split at h
    · split at h
      · rename_i hg1 hg2 hc
        cases h
        obtain ⟨c1, c2, c3, c4, c5, c6, c7, c8, c9⟩ := hc
        exact ⟨_, _, _, _, _, _, _, _, _, _, rfl, hg1, hg2, c1, c2, c3, c4, c5, c6, c7, c8, fun i hi => List.all_eq_true.mp c9 i (List.mem_range.mpr hi), rfl⟩
      · cases h
    · cases h
  · cases h
theorem xb_mmx_spec {mx : Bool} {d pc : Nat} {L : xb_L} {A : xb_H} {st : List Value} {q : xb_S} (h : xb_mmx mx d pc L A st = some q) : ∃ (x y : Int32) (r : List Value), st = .int y :: .int x :: r ∧ 1 ≤ d ∧ (r.map fun v => v.category).sum ≤ 8 ∧ q = (pc + 3, L, .int (if mx = true then (if x < y then y else x) else (if y < x then y else x)) :: r, A) := by
  unfold xb_mmx at h
  split at h
  · split at h
    · rename_i hc
      cases h
      exact ⟨_, _, _, rfl, hc.1, hc.2, rfl⟩
    · cases h
  · cases h
theorem xb_cpyo_spec {d pc : Nat} {L : xb_L} {A : xb_H} {st : List Value} {q : xb_S} (h : xb_cpyo d pc L A st = some q) : ∃ (n dp sp : Int32) (a b n0 n1 : Nat) (f g : Nat → Option Nat) (r : List Value), st = .int n :: .int dp :: .ref b :: .int sp :: .ref a :: r ∧ xb_get A a = some (.inl (.object "java/lang/Object", n0, .inr (.inr f))) ∧ xb_get A b = some (.inl (.object "java/lang/Object", n1, .inr (.inr g))) ∧ xb_z ≤ a ∧ xb_z ≤ b ∧ ¬ sp < 0 ∧ ¬ dp < 0 ∧ ¬ n < 0 ∧ sp.toNatClampNeg + n.toNatClampNeg ≤ n0 ∧ dp.toNatClampNeg + n.toNatClampNeg ≤ n1 ∧ 1 ≤ d ∧ (r.map fun v => v.category).sum ≤ 8 ∧ (∀ i, i < n.toNatClampNeg → xb_elo A (f (sp.toNatClampNeg + i)) = true) ∧ q = (pc + 3, L, r, xb_set A b (.inl (.object "java/lang/Object", n1, .inr (.inr (va_cpy f g sp.toNatClampNeg dp.toNatClampNeg n.toNatClampNeg))))) := by
  unfold xb_cpyo at h
  split at h
  · split at h
    · split at h
      · rename_i hg1 hg2 hc
        cases h
        obtain ⟨c0, c1, c2, c3, c4, c5, c6, c7, c8, c9⟩ := hc
        exact ⟨_, _, _, _, _, _, _, _, _, _, rfl, hg1, hg2, c0, c1, c2, c3, c4, c5, c6, c7, c8, fun i hi => List.all_eq_true.mp c9 i (List.mem_range.mpr hi), rfl⟩
      · cases h
    · cases h
  · cases h
theorem xb_clnx_spec {d pc : Nat} {L : xb_L} {A : xb_H} {st : List Value} {q : xb_S} (h : xb_clnx d pc L A st = some q) : ∃ (a n : Nat) (f : Nat → Int32) (r : List Value), st = .ref a :: r ∧ xb_get A a = some (.inl (.byte, n, .inl f)) ∧ xb_z ≤ a ∧ 1 ≤ d ∧ (r.map fun v => v.category).sum ≤ 8 ∧ (∀ i, i < n → fits .byte (.int (f i)) = true) ∧ q = (pc + 3, L, .ref A.1 :: r, xb_new A n (.inl (.byte, n, .inl f))) := by
  unfold xb_clnx at h
  split at h
  · split at h
    · split at h
      · rename_i hg hc
        cases h
        obtain ⟨c1, c2, c3, c4⟩ := hc
        exact ⟨_, _, _, _, rfl, hg, c1, c2, c3, fun i hi => List.all_eq_true.mp c4 i (List.mem_range.mpr hi), rfl⟩
      · cases h
    · cases h
  · cases h
theorem xb_gclx_spec {d pc : Nat} {L : xb_L} {A : xb_H} {st : List Value} {q : xb_S} (h : xb_gclx d pc L A st = some q) : ∃ (a : Nat) (x : xb_A) (r : List Value), st = .ref a :: r ∧ xb_get A a = some (.inl (.object "java/lang/Object", x)) ∧ xb_z ≤ a ∧ 1 ≤ d ∧ (r.map fun v => v.category).sum ≤ 8 ∧ q = (pc + 3, L, .ref 21 :: r, A) := by
  unfold xb_gclx at h
  split at h
  · split at h
    · split at h
      · rename_i hg hc
        cases h
        obtain ⟨c1, c2, c3⟩ := hc
        exact ⟨_, _, _, rfl, hg, c1, c2, c3, rfl⟩
      · cases h
    · cases h
  · cases h
theorem xb_bix_mono {i : Instr} {k d pc : Nat} {L : xb_L} {A : xb_H} {st : List Value} {q : xb_S} (h : xb_bix i k d pc L A st = some q) : A.1 ≤ q.2.2.2.1 ∧ A.2.1 ≤ q.2.2.2.2.1 := by
  unfold xb_bix at h
  split at h
  · obtain ⟨a, r, -, -, -, rfl⟩ := xb_objx_spec h
    exact ⟨Nat.le_refl _, Nat.le_refl _⟩
  · split at h
    · obtain ⟨n, dp, sp, a, b, n0, n1, f, g, r, -, -, -, -, -, -, -, -, -, -, -, -, rfl⟩ := xb_cpyx_spec h
      exact ⟨Nat.le_refl _, Nat.le_refl _⟩
    · split at h
      · obtain ⟨x, y, r, -, -, -, rfl⟩ := xb_mmx_spec h
        exact ⟨Nat.le_refl _, Nat.le_refl _⟩
      · split at h
        · obtain ⟨x, y, r, -, -, -, rfl⟩ := xb_mmx_spec h
          exact ⟨Nat.le_refl _, Nat.le_refl _⟩
        · split at h
          · obtain ⟨n, dp, sp, a, b, n0, n1, f, g, r, -, -, -, -, -, -, -, -, -, -, -, -, -, rfl⟩ := xb_cpyo_spec h
            exact ⟨Nat.le_refl _, Nat.le_refl _⟩
          · cases h
  · split at h
    · obtain ⟨a, n, f, r, -, -, -, -, -, -, rfl⟩ := xb_clnx_spec h
      exact xb_new_mono
    · split at h
      · obtain ⟨a, x, r, -, -, -, -, -, rfl⟩ := xb_gclx_spec h
        exact ⟨Nat.le_refl _, Nat.le_refl _⟩
      · cases h
  · cases h
theorem xb_retI_spec {G : xb_G} {y : Nat} {A : xb_H} {st : List Value} {q : xb_R × xb_H} (h : xb_retI G y A st = some q) : ∃ (x : Int32) (t : FieldType), st = [.int x] ∧ xb_gR G y = some t ∧ narrow t (.int x) = .int x ∧ q = (.inl (some (.int x)), A) := by
  unfold xb_retI at h
  split at h
  · split at h
    · rename_i t ht
      split at h
      · rename_i hc
        cases h
        exact ⟨_, t, rfl, ht, hc.1, rfl⟩
      · cases h
    · cases h
  · cases h
theorem xb_retL_spec {G : xb_G} {y : Nat} {A : xb_H} {st : List Value} {q : xb_R × xb_H} (h : xb_retL G y A st = some q) : ∃ x : Int64, st = [.long x] ∧ xb_gR G y = some .long ∧ q = (.inl (some (.long x)), A) := by
  unfold xb_retL at h
  split at h
  · split at h
    · rename_i hc
      cases h
      exact ⟨_, rfl, hc, rfl⟩
    · cases h
  · cases h
theorem xb_retA_spec {G : xb_G} {y : Nat} {A : xb_H} {st : List Value} {q : xb_R × xb_H} (h : xb_retA G y A st = some q) : ∃ v : Value, st = [v] ∧ (v = .null ∨ ∃ a, v = .ref a) ∧ xb_isR (xb_gR G y) = true ∧ q = (.inl (some v), A) := by
  unfold xb_retA at h
  split at h
  · split at h
    · rename_i hc
      cases h
      exact ⟨_, rfl, Or.inr ⟨_, rfl⟩, hc, rfl⟩
    · cases h
  · split at h
    · rename_i hc
      cases h
      exact ⟨_, rfl, Or.inl rfl, hc, rfl⟩
    · cases h
  · cases h
theorem xb_retV_spec {G : xb_G} {y : Nat} {A : xb_H} {st : List Value} {q : xb_R × xb_H} (h : xb_retV G y A st = some q) : st = [] ∧ xb_gR G y = none ∧ q = (.inl none, A) := by
  unfold xb_retV at h
  split at h
  · split at h
    · rename_i hc
      cases h
      exact ⟨rfl, hc, rfl⟩
    · cases h
  · cases h
/-- one turn of the loop, by what it did -/
theorem xb_run_spec {G : xb_G} {n d y pc : Nat} {L : xb_L} {st : List Value} {A : xb_H} {o : xb_R × xb_H} (h : xb_run G (n + 1) d y pc L st A = some o) : ∃ q : xb_I, xb_gP G y pc = some q ∧
    ((∃ r : xb_S, (xb_sort q.1 = 0 ∨ (xb_sort q.1 = 6 ∧ q.2.2.2 = 0)) ∧ xb_pure G q pc L st A = some r ∧ xb_run G n d y r.1 r.2.1 r.2.2.1 r.2.2.2 = some o) ∨
     (xb_sort q.1 = 1 ∧ xb_retI G y A st = some o) ∨ (xb_sort q.1 = 2 ∧ xb_retL G y A st = some o) ∨ (xb_sort q.1 = 3 ∧ xb_retA G y A st = some o) ∨ (xb_sort q.1 = 4 ∧ xb_retV G y A st = some o) ∨
     (xb_sort q.1 = 5 ∧ q.2.2.1 = 0 ∧ ∃ r : xb_S, xb_bix q.1 q.2.2.2 d pc L A st = some r ∧ xb_run G n d y r.1 r.2.1 r.2.2.1 r.2.2.2 = some o) ∨
     (xb_sort q.1 = 5 ∧ ¬ q.2.2.1 = 0 ∧ ∃ (d' : Nat) (av rest : List Value) (v : Option Value) (A1 : xb_H), d = d' + 1 ∧ xb_pop q.2.2.2 st = some (av, rest) ∧ xb_rcv G q.2.2.1 av A = true ∧ (lg_sl av).length ≤ xb_gN G q.2.2.1 ∧ xb_run G n d' q.2.2.1 0 (lv_args 0 av) [] A = some (.inl v, A1) ∧ xb_run G n d y (pc + 3) L (v.toList ++ rest) A1 = some o) ∨
     (xb_sort q.1 = 6 ∧ ¬ q.2.2.2 = 0 ∧ 8 ≤ d ∧ st = [] ∧ o = (.inr q.2.2.1, xb_thr A))) := by
  rw [xb_run] at h
  split at h
  · cases h
  · rename_i q hq
    refine ⟨q, hq, ?_⟩
    split at h
    · rename_i h0
      split at h
      · rename_i pc' L' st' A' hp
        exact Or.inl ⟨(pc', L', st', A'), Or.inl h0, hp, h⟩
      · cases h
    · rename_i h0
      exact Or.inr (Or.inl ⟨h0, h⟩)
    · rename_i h0
      exact Or.inr (Or.inr (Or.inl ⟨h0, h⟩))
    · rename_i h0
      exact Or.inr (Or.inr (Or.inr (Or.inl ⟨h0, h⟩)))
    · rename_i h0
      exact Or.inr (Or.inr (Or.inr (Or.inr (Or.inl ⟨h0, h⟩))))
    · rename_i h0
      split at h
      · rename_i hz
        split at h
        · rename_i pc' L' st' A' hp
          exact Or.inr (Or.inr (Or.inr (Or.inr (Or.inr (Or.inl ⟨h0, hz, (pc', L', st', A'), hp, h⟩)))))
        · cases h
      · rename_i hz
        split at h
        · rename_i d' av rest hp
          split at h
          · rename_i hc
            split at h
            · rename_i v A1 hr
              exact Or.inr (Or.inr (Or.inr (Or.inr (Or.inr (Or.inr (Or.inl ⟨h0, hz, d', av, rest, v, A1, rfl, hp, hc.1, hc.2, hr, h⟩))))))
            · cases h
          · cases h
        · cases h
    · rename_i n0 n1 n2 n3 n4 n5
      have h6 : xb_sort q.1 = 6 := by
        revert n0 n1 n2 n3 n4 n5
        unfold xb_sort
        split <;> simp
      split at h
      · rename_i hz
        split at h
        · rename_i pc' L' st' A' hp
          exact Or.inl ⟨(pc', L', st', A'), Or.inr ⟨h6, hz⟩, hp, h⟩
        · cases h
      · rename_i hz
        split at h
        · rename_i hc
          cases h
          exact Or.inr (Or.inr (Or.inr (Or.inr (Or.inr (Or.inr (Or.inr ⟨h6, hz, hc.1, hc.2, rfl⟩))))))
        · cases h
theorem xb_run_mono {G : xb_G} : ∀ (n d y pc : Nat) (L : xb_L) (st : List Value) (A : xb_H) (o : xb_R × xb_H), xb_run G n d y pc L st A = some o → A.1 ≤ o.2.1 ∧ A.2.1 ≤ o.2.2.1 := by
  intro n
  induction n with
  | zero => intro d y pc L st A o h; cases h
  | succ n ih =>
    intro d y pc L st A o h
    obtain ⟨q, -, h | ⟨-, h⟩ | ⟨-, h⟩ | ⟨-, h⟩ | ⟨-, h⟩ | ⟨-, -, r, h1, h2⟩ | ⟨-, -, d', av, rest, v, A1, rfl, -, -, -, h1, h2⟩ | ⟨-, -, -, -, rfl⟩⟩ := xb_run_spec h
    · obtain ⟨r, -, h1, h2⟩ := h
      have a1 := xb_pure_mono h1
      have a2 := ih _ _ _ _ _ _ _ h2
      exact ⟨Nat.le_trans a1.1 a2.1, Nat.le_trans a1.2 a2.2⟩
    · obtain ⟨x, t, -, -, -, rfl⟩ := xb_retI_spec h
      exact ⟨Nat.le_refl _, Nat.le_refl _⟩
    · obtain ⟨x, -, -, rfl⟩ := xb_retL_spec h
      exact ⟨Nat.le_refl _, Nat.le_refl _⟩
    · obtain ⟨x, -, -, -, rfl⟩ := xb_retA_spec h
      exact ⟨Nat.le_refl _, Nat.le_refl _⟩
    · obtain ⟨-, -, rfl⟩ := xb_retV_spec h
      exact ⟨Nat.le_refl _, Nat.le_refl _⟩
    · have a1 := xb_bix_mono h1
      have a2 := ih _ _ _ _ _ _ _ h2
      exact ⟨Nat.le_trans a1.1 a2.1, Nat.le_trans a1.2 a2.2⟩
    · have a1 := ih _ _ _ _ _ _ _ h1
      have a2 := ih _ _ _ _ _ _ _ h2
      exact ⟨Nat.le_trans a1.1 a2.1, Nat.le_trans a1.2 a2.2⟩
    · exact ⟨Nat.le_succ _, Nat.le_add_right _ _⟩
