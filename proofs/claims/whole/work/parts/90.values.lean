/-! The reference reads values -/
theorem xpl_lt {n p q kd : Nat} {f : Nat → Int} {ls : List Int} (h : xpl (ye n f) p = some (kd, ls, q)) : p < q ∧ q ≤ n := by
  unfold xpl at h
  have word : ∀ (g : Nat → Int) (lw k : Nat) (l : List Int), (∀ j : Nat, j < lw → ¬ g j = 0) → 1 ≤ lw → xpw (ye n f) g lw k l p = some (kd, ls, q) → p < q ∧ q ≤ n := by
    intro g lw k l hg hl h
    unfold xpw at h
    by_cases hw : xwd (ye n f) g lw 0 p
    · rw [if_pos hw] at h
      cases h
      have g1 := xwd_get _ _ lw 0 p hw (lw - 1) (by omega)
      obtain ⟨g2, -⟩ := ye_ne g1 (hg _ (by omega))
      omega
    · rw [if_neg hw] at h
      cases h
  by_cases h34 : ye n f p = 34
  · rw [if_pos h34] at h
    unfold xps at h
    by_cases he : ye n f (p + 1 + yn (ye n f) 97 122 12 (p + 1)) = 34
    · rw [if_pos he] at h
      cases h
      obtain ⟨g2, -⟩ := ye_ne he (by omega)
      omega
    · rw [if_neg he] at h; cases h
  rw [if_neg h34] at h
  by_cases h110 : ye n f p = 110
  · rw [if_pos h110] at h
    exact word _ 4 0 _ (by decide +kernel) (by omega) h
  rw [if_neg h110] at h
  by_cases h116 : ye n f p = 116
  · rw [if_pos h116] at h
    exact word _ 4 1 _ (by decide +kernel) (by omega) h
  rw [if_neg h116] at h
  by_cases h102 : ye n f p = 102
  · rw [if_pos h102] at h
    exact word _ 5 1 _ (by decide +kernel) (by omega) h
  rw [if_neg h102] at h
  unfold xpn at h
  by_cases h48 : ye n f p = 48
  · rw [if_pos h48] at h
    cases h
    obtain ⟨g2, -⟩ := ye_ne h48 (by omega)
    omega
  rw [if_neg h48] at h
  obtain ⟨m, hm⟩ : ∃ m : Nat, m = if ye n f p = 45 then 1 else 0 := ⟨_, rfl⟩
  rw [← hm] at h
  have hg := yn_get (ye n f) 48 57 6 (p + m)
  obtain ⟨k, hk⟩ : ∃ k, yn (ye n f) 48 57 6 (p + m) = k := ⟨_, rfl⟩
  rw [hk] at h hg
  by_cases hc : (1 ≤ k ∧ k ≤ 5) ∧ ¬ ye n f (p + m) = 48
  · rw [if_pos hc] at h
    cases h
    have := hg (k - 1) (by omega)
    obtain ⟨g2, -⟩ := ye_ne (f := f) (n := n) (p := p + m + (k - 1)) rfl (by omega)
    omega
  · rw [if_neg hc] at h
    cases h
theorem xpv_sz {n : Nat} {f : Nat → Int} : ∀ (m p q : Nat) (t : xv m), xpv (ye n f) m p = some (t, q) → p + xsz m t ≤ q ∧ q ≤ n := by
  intro m
  induction m with
  | zero => intro p q t h; cases h
  | succ m ih =>
    intro p q t h
    have hE : ∀ j : Nat, j < n → ye n f (0 + j) = f j := fun j hj => by unfold ye; rw [Nat.zero_add, if_pos hj]
    have hpos : ∀ (v : xv m) (p q : Nat), xpv (ye n f) m p = some (v, q) → p < q := by
      intro v p q h
      have := (ih p q v h).1
      cases m with
      | zero => cases h
      | succ m => rw [xsz] at this; omega
    have H : ∀ (p q : Nat) (v : xv m), xpv (ye n f) m p = some (v, q) → xst (ye n f (0 + q)) → (p < q ∧ q ≤ n) ∧ (fun p v q => p + xsz m v ≤ q) (0 + p) v (0 + q) := fun p q v h1 _ => ⟨⟨hpos v p q h1, (ih p q v h1).2⟩, by have := (ih p q v h1).1; dsimp only; omega⟩
    rw [xpv] at h
    by_cases h91 : ye n f p = 91
    · rw [if_pos h91] at h
      by_cases hm : m = 0
      · rw [if_pos hm] at h; cases h
      rw [if_neg hm] at h
      by_cases h93 : ye n f (p + 1) = 93
      · rw [if_pos h93] at h
        cases h
        obtain ⟨b1, b2⟩ := ye_ne h93 (by omega)
        exact ⟨by show p + (1 + 0) ≤ p + 2; omega, by omega⟩
      · rw [if_neg h93] at h
        cases hr : xpa (ye n f) (xpv (ye n f) m) 100 (p + 1) with
        | none => rw [hr] at h; cases h
        | some y =>
          obtain ⟨l, q'⟩ := y
          rw [hr] at h
          cases h
          obtain ⟨d1, d2⟩ := xpa_V (V := fun p v q => p + xsz m v ≤ q) hE H 100 (p + 1) q l hr
          have := xVL_sz (z := xsz m) (fun p v r h => h) _ _ _ d2
          refine ⟨?_, d1.2⟩
          show p + (1 + (l.map fun a => xsz m a.2).sum) ≤ q
          omega
    · rw [if_neg h91] at h
      by_cases h123 : ye n f p = 123
      · rw [if_pos h123] at h
        by_cases hm : m = 0
        · rw [if_pos hm] at h; cases h
        rw [if_neg hm] at h
        by_cases h125 : ye n f (p + 1) = 125
        · rw [if_pos h125] at h
          cases h
          obtain ⟨b1, b2⟩ := ye_ne h125 (by omega)
          exact ⟨by show p + (1 + 0) ≤ p + 2; omega, by omega⟩
        · rw [if_neg h125] at h
          cases hr : xpo (ye n f) (xpv (ye n f) m) 100 [] (p + 1) with
          | none => rw [hr] at h; cases h
          | some y =>
            obtain ⟨l, q'⟩ := y
            rw [hr] at h
            cases h
            obtain ⟨d1, d2⟩ := xpo_V (V := fun p v q => p + xsz m v ≤ q) hE H 100 (p + 1) q [] l hr
            have := xVL_sz (z := xsz m) (fun p v r h => h) _ _ _ d2
            refine ⟨?_, d1.2⟩
            show p + (1 + (l.map fun a => xsz m a.2).sum) ≤ q
            omega
      · rw [if_neg h123] at h
        cases hr : xpl (ye n f) p with
        | none => rw [hr] at h; cases h
        | some y =>
          obtain ⟨kd, ls, q'⟩ := y
          rw [hr] at h
          cases h
          have := xpl_lt hr
          exact ⟨by show p + (1 + 0) ≤ q; omega, this.2⟩
/-- rows that differ in the two of the reader alone; and in these from D on -/
def xk0 (T T' : Nat → Nat → Int) : Prop := ∀ x : Nat, ¬ x = 178 → ¬ x = 179 → T' x = T x
def xkT (D : Nat) (T T' : Nat → Nat → Int) : Prop := xk0 T T' ∧ ∀ j : Nat, j < D → T' 178 j = T 178 j ∧ T' 179 j = T 179 j
theorem xk0_refl (T : Nat → Nat → Int) : xk0 T T := fun _ _ _ => rfl
theorem xk0_trans {T T' T'' : Nat → Nat → Int} (h1 : xk0 T T') (h2 : xk0 T' T'') : xk0 T T'' := fun x a b => (h2 x a b).trans (h1 x a b)
theorem xkT_refl (D : Nat) (T : Nat → Nat → Int) : xkT D T T := ⟨xk0_refl T, fun _ _ => ⟨rfl, rfl⟩⟩
theorem xkT_trans {D D' : Nat} {T T' T'' : Nat → Nat → Int} (h1 : xkT D T T') (h2 : xkT D' T' T'') (hd : D ≤ D') : xkT D T T'' :=
  ⟨xk0_trans h1.1 h2.1, fun j hj => ⟨((h2.2 j (by omega)).1).trans (h1.2 j hj).1, ((h2.2 j (by omega)).2).trans (h1.2 j hj).2⟩⟩
theorem xk0_up {x : Nat} (hx : x = 178 ∨ x = 179) (T : Nat → Nat → Int) (g : Nat → Int) : xk0 T (va_up T x g) := fun y a b => ya_up_ne _ _ (by omega)
theorem xtx_k0 {s : Nat → Int} {T T' : Nat → Nat → Int} {n : Nat} {f : Nat → Int} (h : xtx s T n f) (hk : xk0 T T') : xtx s T' n f := by
  unfold xtx at h ⊢
  rw [hk 166 (by omega) (by omega)]
  exact h
def xR (w : Value) (d : Nat) (A : xb_H) (s : Nat → Int) (n : Nat) (Q : xb_R → xb_H → Prop) (T : Nat → Nat → Int) (D : Nat) (st : Int) (cnt i : Nat) : Prop := xr_ok (xt_G w) (d + 1 + 1 + 1) 208 21 [(1, .int (Int32.ofInt (D : Int))), (2, .int (Int32.ofInt st)), (3, .int (Int32.ofInt (cnt : Int))), (4, .int (Int32.ofInt (400 + (i : Int)))), (5, .int (Int32.ofInt (400 + (n : Int)))), (0, .ref 165)] [] (ym A s T) Q
section MVV
variable {w : Value} {d : Nat} {A : xb_H} {s : Nat → Int} {n : Nat} {f : Nat → Int} {Q : xb_R → xb_H → Prop}
/-- the machine on a value of m + 1 levels -/
def xVAL (w : Value) (d : Nat) (A : xb_H) (s : Nat → Int) (n : Nat) (f : Nat → Int) (Q : xb_R → xb_H → Prop) (m D : Nat) : Prop := ∀ (T : Nat → Nat → Int) (i cnt : Nat) (st : Int), xtx s T n f → (st = 0 ∨ (st = 2 ∧ ¬ ye n f i = 93)) → cnt ≤ i → i ≤ 200 → (∀ (t : xv (m + 1)) (q : Nat) (T' : Nat → Nat → Int), xpv (ye n f) (m + 1) i = some (t, q) → xkT D T T' → xR w d A s n Q T' D 1 (cnt + xsz (m + 1) t) q) → (xpv (ye n f) (m + 1) i = none → ∀ T' : Nat → Nat → Int, xk0 T T' → Q (.inl (some (.int (Int32.ofInt (-1))))) (ym A s T')) → xR w d A s n Q T D st cnt i
theorem mo_208A (hA : 194 ≤ A.1) {m D : Nat} (hD : D ≤ 4) (IH : xVAL w d A s n f Q m (D + 1)) : ∀ (k : Nat) (T : Nat → Nat → Int) (i cnt : Nat) (st : Int), xtx s T n f → T 178 D = 91 → (st = 0 ∨ (st = 2 ∧ ¬ ye n f i = 93)) → cnt ≤ i → i ≤ n → n + 1 < i + 2 * k → (∀ (l : List (Int × xv (m + 1))) (q : Nat) (T' : Nat → Nat → Int), xpa (ye n f) (xpv (ye n f) (m + 1)) k i = some (l, q) → xkT D T T' → xR w d A s n Q T' D 1 (cnt + (l.map fun a => xsz (m + 1) a.2).sum) q) → (xpa (ye n f) (xpv (ye n f) (m + 1)) k i = none → ∀ T' : Nat → Nat → Int, xk0 T T' → Q (.inl (some (.int (Int32.ofInt (-1))))) (ym A s T')) → xR w d A s n Q T (D + 1) st cnt i := by
  intro k
  induction k with
  | zero => intro T i cnt st hx _ _ _ hi hn; omega
  | succ k ih =>
    intro T i cnt st hx hop hst hci hi hn h1 h2
    have hn100 := hx.2.1
    rw [xpa] at h1 h2
    refine IH T i cnt st hx hst hci (by omega) (fun v q T' hv hk => ?_) (fun hv T' hk => h2 (by rw [hv]) T' hk)
    obtain ⟨s1, s2⟩ := xpv_sz _ _ _ _ hv
    have s0 : 1 ≤ xsz (m + 1) v := by rw [xsz]; omega
    have hx' := xtx_k0 hx hk.1
    have hop' : T' 178 D = 91 := by rw [(hk.2 D (by omega)).1, hop]
    rw [hv] at h1 h2
    dsimp only at h1 h2
    refine mo_208s1 hA hx' (by omega) (by omega) (by omega) (Or.inl hop') (fun hin hc => ?_) (fun h44 _ => ?_) (fun h44 h123 => absurd h123 (by omega)) (fun hno => ?_)
    · have h93 : ye n f q = 93 := by omega
      rw [if_neg (by omega), if_pos h93] at h1
      have := h1 [(0, v)] (q + 1) T' rfl ⟨hk.1, fun j hj => hk.2 j (by omega)⟩
      rw [List.map_singleton, List.sum_singleton] at this
      exact this
    · rw [if_pos h44] at h1 h2
      obtain ⟨g1, -⟩ := ye_ne h44 (by omega)
      refine ih T' (q + 1) (cnt + xsz (m + 1) v) 0 hx' hop' (Or.inl rfl) (by omega) (by omega) (by omega) (fun l r T'' hl hk' => ?_) (fun hl T'' hk' => h2 (by rw [hl]) T'' (xk0_trans hk.1 hk'))
      rw [hl] at h1
      have := h1 ((0, v) :: l) r T'' rfl ⟨xk0_trans hk.1 hk'.1, fun j hj => ⟨(hk'.2 j hj).1.trans (hk.2 j (by omega)).1, (hk'.2 j hj).2.trans (hk.2 j (by omega)).2⟩⟩
      rw [List.map_cons, List.sum_cons] at this
      rw [Nat.add_assoc]
      exact this
    · rw [if_neg (by omega), if_neg (by omega)] at h2
      exact h2 rfl T' hk.1
theorem mo_208O (hA : 194 ≤ A.1) {m D : Nat} (hD : D ≤ 4) (IH : xVAL w d A s n f Q m (D + 1)) : ∀ (k : Nat) (T : Nat → Nat → Int) (i cnt : Nat) (st : Int) (seen : List Int), xtx s T n f → T 178 D = 123 → (∀ c : Nat, c < 26 → (xbt (Int32.ofInt (T 179 D)) c = true ↔ 97 + (c : Int) ∈ seen)) → (st = 4 ∨ (st = 3 ∧ ¬ ye n f i = 125)) → cnt ≤ i → i ≤ n → n + 1 < i + 2 * k → (∀ (l : List (Int × xv (m + 1))) (q : Nat) (T' : Nat → Nat → Int), xpo (ye n f) (xpv (ye n f) (m + 1)) k seen i = some (l, q) → xkT D T T' → xR w d A s n Q T' D 1 (cnt + (l.map fun a => xsz (m + 1) a.2).sum) q) → (xpo (ye n f) (xpv (ye n f) (m + 1)) k seen i = none → ∀ T' : Nat → Nat → Int, xk0 T T' → Q (.inl (some (.int (Int32.ofInt (-1))))) (ym A s T')) → xR w d A s n Q T (D + 1) st cnt i := by
  intro k
  induction k with
  | zero => intro T i cnt st seen hx _ _ _ _ hi hn; omega
  | succ k ih =>
    intro T i cnt st seen hx hop hmask hst hci hi hn h1 h2
    have hn100 := hx.2.1
    rw [xpo] at h1 h2
    have hbad : ¬ (xpk (ye n f) i ∧ ∀ c : Nat, ye n f (i + 1) = 97 + (c : Int) → ¬ xbt (Int32.ofInt (T 179 D)) c = true) → Q (.inl (some (.int (Int32.ofInt (-1))))) (ym A s T) := by
      intro h
      rw [if_neg] at h2
      · exact h2 rfl T (xk0_refl T)
      · rintro ⟨g1, g2⟩
        refine h ⟨g1, fun c hc hb => g2 ?_⟩
        have := g1.2.1
        rw [hc]
        exact (hmask c (by omega)).mp hb
    have hgo : ∀ (c : Nat) (ke : Int), ye n f (i + 1) = 97 + (c : Int) → xpk (ye n f) i → ¬ xbt (Int32.ofInt (T 179 D)) c = true → Int32.ofInt ke = Int32.ofInt (T 179 D) ||| (Int32.ofInt 1 <<< (Int32.ofInt (c : Int) &&& 31)) → xR w d A s n Q (va_up T 179 (va_up (T 179) D ke)) (D + 1) 0 cnt (i + 4) := by
      intro c ke hc hk hb hke
      have hc26 : c < 26 := by have := hk.2.1; omega
      have hns : ¬ ye n f (i + 1) ∈ seen := by
        rw [hc]
        exact fun h => hb ((hmask c hc26).mpr h)
      rw [if_pos ⟨hk, hns⟩] at h1 h2
      have kk : xk0 T (va_up T 179 (va_up (T 179) D ke)) := xk0_up (Or.inr rfl) T _
      have kT : xkT D T (va_up T 179 (va_up (T 179) D ke)) := ⟨kk, fun j hj => ⟨by rw [ya_up_ne _ _ (by omega)], by rw [ya_up_same, ya_up_ne _ _ (by omega)]⟩⟩
      have h3 := (ye_ne hk.2.2.2 (by omega)).1
      refine IH _ (i + 4) cnt 0 (xtx_k0 hx kk) (Or.inl rfl) (by omega) (by omega) (fun v q T' hv hk' => ?_) (fun hv T' hk' => h2 (by rw [hv]) T' (xk0_trans kk hk'))
      obtain ⟨s1, s2⟩ := xpv_sz _ _ _ _ hv
      have s0 : 1 ≤ xsz (m + 1) v := by rw [xsz]; omega
      have hx' := xtx_k0 (xtx_k0 hx kk) hk'.1
      have hop' : T' 178 D = 123 := by rw [(hk'.2 D (by omega)).1, ya_up_ne _ _ (by omega), hop]
      have hke' : T' 179 D = ke := by rw [(hk'.2 D (by omega)).2, ya_up_same, ya_up_same]
      rw [hv] at h1 h2
      dsimp only at h1 h2
      refine mo_208s1 hA hx' (by omega) (by omega) (by omega) (Or.inr hop') (fun hin hc => ?_) (fun h44 h91 => absurd h91 (by omega)) (fun h44 _ => ?_) (fun hno => ?_)
      · have h125 : ye n f q = 125 := by omega
        rw [if_neg (by omega), if_pos h125] at h1
        have := h1 [(ye n f (i + 1), v)] (q + 1) T' rfl (xkT_trans kT hk' (by omega))
        rw [List.map_singleton, List.sum_singleton] at this
        exact this
      · rw [if_pos h44] at h1 h2
        obtain ⟨g1, -⟩ := ye_ne h44 (by omega)
        refine ih T' (q + 1) (cnt + xsz (m + 1) v) 4 (seen ++ [ye n f (i + 1)]) hx' hop' (fun c' hc' => ?_) (Or.inl rfl) (by omega) (by omega) (by omega) (fun l r T'' hl hk'' => ?_) (fun hl T'' hk'' => h2 (by rw [hl]) T'' (xk0_trans (xk0_trans kk hk'.1) hk''))
        · rw [hke', hke, xbt_or _ (by omega) _ (by omega), Bool.or_eq_true, hmask c' hc', decide_eq_true_eq, List.mem_append, List.mem_singleton, hc]
          exact or_congr Iff.rfl (by omega)
        · rw [hl] at h1
          have := h1 ((ye n f (i + 1), v) :: l) r T'' rfl (xkT_trans (xkT_trans kT hk' (by omega)) hk'' (Nat.le_refl _))
          rw [List.map_cons, List.sum_cons] at this
          rw [Nat.add_assoc]
          exact this
      · rw [if_neg (by omega), if_neg (by omega)] at h2
        exact h2 rfl T' (xk0_trans kk hk'.1)
    rcases hst with rfl | ⟨rfl, h125⟩
    · exact mo_208k4 hA hx (by omega) (by omega) (by omega) hgo hbad
    · exact mo_208k3 hA hx (by omega) (by omega) (by omega) h125 hgo hbad
theorem xpl_end {n i : Nat} {f : Nat → Int} (h : ye n f i = 0) : xpl (ye n f) i = none := by
  unfold xpl
  rw [if_neg (by omega), if_neg (by omega), if_neg (by omega), if_neg (by omega)]
  unfold xpn
  rw [if_neg (by omega), if_neg]
  rw [if_neg (show ¬ ye n f i = 45 by omega), Nat.add_zero, yn, if_neg (by omega)]
  omega
theorem xpv_leaf {e : Nat → Int} {m i : Nat} (h1 : ¬ e i = 91) (h2 : ¬ e i = 123) : xpv e (m + 1) i = (match xpl e i with
      | none => none
      | some (kd, ls, q) => some (xv_m kd ls [], q)) := by
  rw [xpv, if_neg h1, if_neg h2]
  cases xpl e i <;> rfl
theorem mo_208V (hA : 194 ≤ A.1) : ∀ (m D : Nat), m + D = 5 → xVAL w d A s n f Q m D := by
  intro m
  induction m with
  | zero =>
    intro D hD T i cnt st hx hst hci hi h1 h2
    have hn100 := hx.2.1
    have hpq : ∀ (kd : Nat) (ls : List Int) (q : Nat), xpl (ye n f) i = some (kd, ls, q) → q ≤ 100 := fun kd ls q h => by
      have := xpl_lt h
      omega
    have hleaf : ∀ (kd : Nat) (ls : List Int) (q : Nat), ¬ ye n f i = 91 → ¬ ye n f i = 123 → xpl (ye n f) i = some (kd, ls, q) → xR w d A s n Q T D 1 (cnt + 1) q := fun kd ls q g1 g2 g3 => h1 (xv_m kd ls []) q T (by rw [xpv_leaf g1 g2, g3]) (xkT_refl D T)
    have hbl : ¬ ye n f i = 91 → ¬ ye n f i = 123 → xpl (ye n f) i = none → Q (.inl (some (.int (Int32.ofInt (-1))))) (ym A s T) := fun g1 g2 g3 => h2 (by rw [xpv_leaf g1 g2, g3]) T (xk0_refl T)
    have hbe : n ≤ i → Q (.inl (some (.int (Int32.ofInt (-1))))) (ym A s T) := fun g => by
      have e0 : ye n f i = 0 := by unfold ye; rw [if_neg (by omega)]
      exact hbl (by omega) (by omega) (xpl_end e0)
    have hbo : (ye n f i = 91 ∨ ye n f i = 123) → D = 5 → Q (.inl (some (.int (Int32.ofInt (-1))))) (ym A s T) := fun g _ => by
      refine h2 ?_ T (xk0_refl T)
      rw [xpv]
      rcases g with g | g
      · rw [if_pos g, if_pos rfl]
      · rw [if_neg (by omega), if_pos g, if_pos rfl]
    rcases hst with rfl | ⟨rfl, h93⟩
    · exact mo_208v0 hA hx (by omega) (by omega) (by omega) hpq hleaf hbl hbe hbo (fun _ h => absurd h (by omega)) (fun _ h => absurd h (by omega))
    · exact mo_208v2 hA hx (by omega) (by omega) (by omega) h93 hpq hleaf hbl hbe hbo (fun _ h => absurd h (by omega)) (fun _ h => absurd h (by omega))
  | succ m ih =>
    intro D hD T i cnt st hx hst hci hi h1 h2
    have hn100 := hx.2.1
    have hpq : ∀ (kd : Nat) (ls : List Int) (q : Nat), xpl (ye n f) i = some (kd, ls, q) → q ≤ 100 := fun kd ls q h => by
      have := xpl_lt h
      omega
    have hleaf : ∀ (kd : Nat) (ls : List Int) (q : Nat), ¬ ye n f i = 91 → ¬ ye n f i = 123 → xpl (ye n f) i = some (kd, ls, q) → xR w d A s n Q T D 1 (cnt + 1) q := fun kd ls q g1 g2 g3 => h1 (xv_m kd ls []) q T (by rw [xpv_leaf g1 g2, g3]) (xkT_refl D T)
    have hbl : ¬ ye n f i = 91 → ¬ ye n f i = 123 → xpl (ye n f) i = none → Q (.inl (some (.int (Int32.ofInt (-1))))) (ym A s T) := fun g1 g2 g3 => h2 (by rw [xpv_leaf g1 g2, g3]) T (xk0_refl T)
    have hbe : n ≤ i → Q (.inl (some (.int (Int32.ofInt (-1))))) (ym A s T) := fun g => by
      have e0 : ye n f i = 0 := by unfold ye; rw [if_neg (by omega)]
      exact hbl (by omega) (by omega) (xpl_end e0)
    have hbo : (ye n f i = 91 ∨ ye n f i = 123) → D = 5 → Q (.inl (some (.int (Int32.ofInt (-1))))) (ym A s T) := fun g h => by omega
    have hup : ∀ c : Int, xkT D T (va_up (va_up T 178 (va_up (T 178) D c)) 179 (va_up ((va_up T 178 (va_up (T 178) D c)) 179) D 0)) := fun c => ⟨xk0_trans (xk0_up (Or.inl rfl) T _) (xk0_up (Or.inr rfl) _ _), fun j hj => ⟨by rw [ya_up_ne _ _ (by omega), ya_up_same, ya_up_ne _ _ (by omega)], by rw [ya_up_same, ya_up_ne _ _ (by omega), ya_up_ne _ _ (by omega)]⟩⟩
    have hopa : ye n f i = 91 → D < 5 → xR w d A s n Q (va_up (va_up T 178 (va_up (T 178) D 91)) 179 (va_up ((va_up T 178 (va_up (T 178) D 91)) 179) D 0)) (D + 1) 2 (cnt + 1) (i + 1) := by
      intro h91 hD5
      have kT := hup 91
      obtain ⟨T1, hT1⟩ : ∃ T1, T1 = va_up (va_up T 178 (va_up (T 178) D 91)) 179 (va_up ((va_up T 178 (va_up (T 178) D 91)) 179) D 0) := ⟨_, rfl⟩
      have hop : T1 178 D = 91 := by rw [hT1, ya_up_ne _ _ (by omega), ya_up_same, ya_up_same]
      rw [← hT1] at kT ⊢
      have hin := (ye_ne h91 (by omega)).1
      have hx1 := xtx_k0 hx kT.1
      rw [xpv, if_pos h91, if_neg (by omega)] at h1 h2
      by_cases h93 : ye n f (i + 1) = 93
      · rw [if_pos h93] at h1
        exact mo_208e2 hA hx1 (by omega) (by omega) (by omega) hop h93 (h1 _ (i + 1 + 1) T1 rfl kT)
      · rw [if_neg h93] at h1 h2
        refine mo_208A hA (by omega) (ih (D + 1) (by omega)) 100 T1 (i + 1) (cnt + 1) 2 hx1 hop (Or.inr ⟨rfl, h93⟩) (by omega) (by omega) (by omega) (fun l q T' hl hk => ?_) (fun hl T' hk => h2 (by rw [hl]) T' (xk0_trans kT.1 hk))
        rw [hl] at h1
        have := h1 _ q T' rfl (xkT_trans kT hk (Nat.le_refl _))
        rw [Nat.add_assoc]
        exact this
    have hopo : ye n f i = 123 → D < 5 → xR w d A s n Q (va_up (va_up T 178 (va_up (T 178) D 123)) 179 (va_up ((va_up T 178 (va_up (T 178) D 123)) 179) D 0)) (D + 1) 3 (cnt + 1) (i + 1) := by
      intro h123 hD5
      have kT := hup 123
      obtain ⟨T1, hT1⟩ : ∃ T1, T1 = va_up (va_up T 178 (va_up (T 178) D 123)) 179 (va_up ((va_up T 178 (va_up (T 178) D 123)) 179) D 0) := ⟨_, rfl⟩
      have hop : T1 178 D = 123 := by rw [hT1, ya_up_ne _ _ (by omega), ya_up_same, ya_up_same]
      have hke : T1 179 D = 0 := by rw [hT1, ya_up_same, ya_up_same]
      rw [← hT1] at kT ⊢
      have hin := (ye_ne h123 (by omega)).1
      have hx1 := xtx_k0 hx kT.1
      rw [xpv, if_neg (by omega), if_pos h123, if_neg (by omega)] at h1 h2
      by_cases h125 : ye n f (i + 1) = 125
      · rw [if_pos h125] at h1
        exact mo_208e3 hA hx1 (by omega) (by omega) (by omega) hop h125 (h1 _ (i + 1 + 1) T1 rfl kT)
      · rw [if_neg h125] at h1 h2
        refine mo_208O hA (by omega) (ih (D + 1) (by omega)) 100 T1 (i + 1) (cnt + 1) 3 [] hx1 hop (fun c _ => ?_) (Or.inr ⟨rfl, h125⟩) (by omega) (by omega) (by omega) (fun l q T' hl hk => ?_) (fun hl T' hk => h2 (by rw [hl]) T' (xk0_trans kT.1 hk))
        · rw [hke, xbt_zero]
          exact ⟨fun h => (by cases h), fun h => absurd h List.not_mem_nil⟩
        · rw [hl] at h1
          have := h1 _ q T' rfl (xkT_trans kT hk (Nat.le_refl _))
          rw [Nat.add_assoc]
          exact this
    rcases hst with rfl | ⟨rfl, h93⟩
    · exact mo_208v0 hA hx (by omega) (by omega) (by omega) hpq hleaf hbl hbe hbo hopa hopo
    · exact mo_208v2 hA hx (by omega) (by omega) (by omega) h93 hpq hleaf hbl hbe hbo hopa hopo
/-- what values answers -/
def xVS (n : Nat) (f : Nat → Int) (r : Int) : Prop := (∃ t : xv 6, xpv (ye n f) 6 0 = some (t, n) ∧ r = (xsz 6 t : Nat)) ∨ ((¬ ∃ t : xv 6, xpv (ye n f) 6 0 = some (t, n)) ∧ r = -1)
end MVV
theorem mo_208 {w : Value} {d : Nat} {A : xb_H} {s : Nat → Int} {t : Nat → Nat → Int} {n : Nat} {f : Nat → Int} (hA : 194 ≤ A.1) (hx : xtx s t n f) : xr_ok (xt_G w) (d + 1 + 1 + 1) 208 0 [(0, .ref 165)] [] (ym A s t) (fun o A' => ∃ v0, o = .inl v0 ∧ ∃ (r : Int) (T : Nat → Nat → Int), (v0 = some (.int (Int32.ofInt r)) ∧ A' = ym A s T ∧ xk0 t T) ∧ xVS n f r) := by
  have hn := hx.2.1
  refine xr_steps (pc' := 15) (L' := [(4, .int (Int32.ofInt 400)), (3, .int (Int32.ofInt 0)), (2, .int (Int32.ofInt 0)), (1, .int (Int32.ofInt 0)), (0, .ref 165)]) (st' := [.ref 165, .int (Int32.ofInt 400)]) 10 rfl ?_
  refine xr_getf (v := .int (Int32.ofInt (s 2))) rfl (ym_165 hA) rfl ?_
  refine xr_iadd rfl ?_
  refine xr_steps (pc' := 21) (L' := [(5, .int (Int32.ofInt (400 + (s 2)))), (4, .int (Int32.ofInt 400)), (3, .int (Int32.ofInt 0)), (2, .int (Int32.ofInt 0)), (1, .int (Int32.ofInt 0)), (0, .ref 165)]) (st' := []) 1 rfl ?_
  refine xr_loc (L := [(1, .int (Int32.ofInt 0)), (2, .int (Int32.ofInt 0)), (3, .int (Int32.ofInt 0)), (4, .int (Int32.ofInt 400)), (5, .int (Int32.ofInt (400 + (s 2)))), (0, .ref 165)]) (show [1, 2, 3, 4, 5, 0].Nodup by decide) ⟨rfl, rfl, rfl, rfl, rfl, rfl, trivial⟩ ?_
  have hr := mo_208V (w := w) (d := d) (s := s) (n := n) (f := f) (Q := fun o A' => ∃ v0, o = .inl v0 ∧ ∃ (r : Int) (T : Nat → Nat → Int), (v0 = some (.int (Int32.ofInt r)) ∧ A' = ym A s T ∧ xk0 t T) ∧ xVS n f r) hA 5 0 rfl t 0 0 0 hx (Or.inl rfl) (Nat.le_refl _) (by omega) (fun u q T' hu hk => ?_) (fun hu T' hk => ⟨_, rfl, -1, T', ⟨rfl, rfl, hk⟩, Or.inr ⟨fun ⟨u, h⟩ => (by rw [hu] at h; cases h), rfl⟩⟩)
  · rw [hx.1]
    exact hr
  · obtain ⟨s1, s2⟩ := xpv_sz _ _ _ _ hu
    refine mo_208t hA (xtx_k0 hx hk.1) (by omega) (by omega) (fun hn => ?_) (fun hn => ?_)
    · obtain rfl : q = n := by omega
      refine ⟨_, rfl, ((0 + xsz 6 u : Nat) : Int), T', ⟨rfl, rfl, hk.1⟩, Or.inl ⟨u, hu, by rw [Nat.zero_add]⟩⟩
    · refine ⟨_, rfl, -1, T', ⟨rfl, rfl, hk.1⟩, Or.inr ⟨fun ⟨u', h⟩ => ?_, rfl⟩⟩
      rw [hu] at h
      cases h
      omega
