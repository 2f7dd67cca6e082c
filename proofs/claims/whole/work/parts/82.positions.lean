/-! Values by their positions in a row of characters -/
/-- the kind that a first character tells -/
def xkd (c : Int) : Nat := if c = 110 then 0 else if c = 116 ∨ c = 102 then 1 else if c = 34 then 3 else if c = 91 then 4 else if c = 123 then 5 else 2
/-- characters of plain values -/
def xpc (c : Int) : Prop := c = 34 ∨ c = 45 ∨ (48 ≤ c ∧ c ≤ 57) ∨ (97 ≤ c ∧ c ≤ 122)
/-- what stands behind a plain value -/
def xst (c : Int) : Prop := c = 44 ∨ c = 93 ∨ c = 125 ∨ c = 0
/-- a plain value of a kind, with its letters, from p to q -/
def xV0 (E : Nat → Int) (p kd : Nat) (l : List Int) (q : Nat) : Prop := kd < 4 ∧ (l.length ≤ 12 ∧ ∀ c ∈ l, xpc c ∧ ¬ c = 34) ∧ (∀ j : Nat, p ≤ j → j < q → xpc (E j)) ∧ xst (E q) ∧ ((kd = 3 ∧ q = p + l.length + 2 ∧ E p = 34 ∧ E (q - 1) = 34 ∧ ∀ j : Nat, j < l.length → E (p + 1 + j) = l.getD j 0) ∨ (¬ kd = 3 ∧ 1 ≤ l.length ∧ q = p + l.length ∧ ¬ E p = 34 ∧ ∀ j : Nat, j < l.length → E (p + j) = l.getD j 0))
/-- the key in front of a part -/
def xVK (E : Nat → Int) (ob : Nat) (k : Int) (p : Nat) : Prop := (ob = 0 ∧ k = 0) ∨ (ob = 4 ∧ (97 ≤ k ∧ k ≤ 122) ∧ E p = 34 ∧ E (p + 1) = k ∧ E (p + 2) = 34 ∧ E (p + 3) = 58)
/-- parts from p on, up to q, behind the closing c -/
def xVL {α : Type} (E : Nat → Int) (V : Nat → α → Nat → Prop) (ob : Nat) (c : Int) : List (Int × α) → Nat → Nat → Prop
  | [], _, _ => False
  | (k, v) :: l, p, q => ∃ r, V (p + ob) v r ∧ xVK E ob k p ∧ ((l = [] ∧ E r = c ∧ q = r + 1) ∨ (¬ l = [] ∧ E r = 44 ∧ xVL E V ob c l (r + 1) q))
def xV (E : Nat → Int) : (m : Nat) → Nat → xv m → Nat → Prop
  | 0, _, _, _ => False
  | m + 1, p, t, q => p < q ∧ xkd (E p) = xv_k t ∧ ((xv_p t = [] ∧ xV0 E p (xv_k t) (xv_l t) q) ∨ (xv_l t = [] ∧ ((xv_k t = 4 ∧ E p = 91 ∧ ((xv_p t = [] ∧ E (p + 1) = 93 ∧ q = p + 2) ∨ xVL E (xV E m) 0 93 (xv_p t) (p + 1) q)) ∨ (xv_k t = 5 ∧ E p = 123 ∧ ((xv_p t = [] ∧ E (p + 1) = 125 ∧ q = p + 2) ∨ xVL E (xV E m) 4 125 (xv_p t) (p + 1) q)))))
theorem xV_lt {E : Nat → Int} {m p q : Nat} {t : xv m} (h : xV E m p t q) : p < q := by
  cases m with
  | zero => exact absurd h id
  | succ m => exact h.1
/-- the characters of a row of letters -/
theorem yn_get (e : Nat → Int) (lo hi : Int) : ∀ (k p j : Nat), j < yn e lo hi k p → lo ≤ e (p + j) ∧ e (p + j) ≤ hi := by
  intro k
  induction k with
  | zero => intro p j h; exact absurd h (Nat.not_lt_zero _)
  | succ k ih =>
    intro p j h
    rw [yn] at h
    by_cases hc : lo ≤ e p ∧ e p ≤ hi
    · rw [if_pos hc] at h
      cases j with
      | zero => exact hc
      | succ j =>
        have := ih (p + 1) j (by omega)
        rwa [Nat.add_assoc, Nat.add_comm 1 j] at this
    · rw [if_neg hc] at h
      exact absurd h (Nat.not_lt_zero _)
theorem xch_mem (e : Nat → Int) : ∀ (k p : Nat) (c : Int), c ∈ xch e p k → ∃ j, j < k ∧ c = e (p + j) := by
  intro k
  induction k with
  | zero => intro p c h; exact absurd h List.not_mem_nil
  | succ k ih =>
    intro p c h
    rcases List.mem_cons.mp h with rfl | h
    · exact ⟨0, by omega, rfl⟩
    · obtain ⟨j, h1, h2⟩ := ih (p + 1) c h
      exact ⟨j + 1, by omega, by rw [h2, Nat.add_assoc, Nat.add_comm 1 j]⟩
theorem xwd_get (e g : Nat → Int) : ∀ (k j p : Nat), xwd e g k j p → ∀ i : Nat, i < k → e (p + i) = g (j + i) := by
  intro k
  induction k with
  | zero => intro j p _ i hi; omega
  | succ k ih =>
    intro j p h i hi
    cases i with
    | zero => exact h.1
    | succ i =>
      have := ih (j + 1) (p + 1) h.2 i (by omega)
      rwa [Nat.add_assoc, Nat.add_comm 1 i, Nat.add_assoc, Nat.add_comm 1 i] at this
section XPV
variable {n b : Nat} {f E : Nat → Int}
theorem xkd_num {c : Int} (h : c = 45 ∨ (48 ≤ c ∧ c ≤ 57)) : xkd c = 2 := by
  unfold xkd
  rw [if_neg (by omega), if_neg (by omega), if_neg (by omega), if_neg (by omega), if_neg (by omega)]
theorem ye_ne {p : Nat} {c : Int} (h : ye n f p = c) (hc : ¬ c = 0) : p < n ∧ f p = c := by
  unfold ye at h
  by_cases hp : p < n
  · rw [if_pos hp] at h; exact ⟨hp, h⟩
  · rw [if_neg hp] at h; exact absurd h.symm hc
/-- a word -/
theorem xpw_V {kd lw p q i : Nat} {ls : List Int} {kd' : Nat} {ls' : List Int} (hE : ∀ j : Nat, j < n → E (b + j) = f j) (hl : ls.length = lw) (hlw : 1 ≤ lw ∧ lw ≤ 5) (hk : kd < 3) (hg : ∀ j : Nat, j < lw → (97 ≤ yk_f i j ∧ yk_f i j ≤ 122) ∧ yk_f i j = ls.getD j 0) (hx : xkd (ls.getD 0 0) = kd) (h : xpw (ye n f) (yk_f i) lw kd ls p = some (kd', ls', q)) (hs : xst (E (b + q))) : (p < q ∧ q ≤ n) ∧ xkd (E (b + p)) = kd' ∧ xV0 E (b + p) kd' ls' (b + q) := by
  unfold xpw at h
  by_cases hw : xwd (ye n f) (yk_f i) lw 0 p
  · rw [if_pos hw] at h
    cases h
    have g := xwd_get _ _ lw 0 p hw
    have key : ∀ j : Nat, j < lw → p + j < n ∧ E (b + p + j) = ls.getD j 0 ∧ (97 ≤ E (b + p + j) ∧ E (b + p + j) ≤ 122) := by
      intro j hj
      have g1 := g j hj
      rw [Nat.zero_add] at g1
      have g2 := hg j hj
      obtain ⟨g3, g4⟩ := ye_ne g1 (by omega)
      have e : E (b + p + j) = yk_f i j := by rw [Nat.add_assoc, hE _ g3, g4]
      exact ⟨g3, by rw [e, g2.2], by rw [e]; exact g2.1⟩
    have h0 := key 0 (by omega)
    have hL := (key (lw - 1) (by omega)).1
    simp only [Nat.add_zero] at h0
    refine ⟨⟨by omega, by omega⟩, by rw [h0.2.1]; exact hx, by omega, ⟨by omega, fun c hc => ?_⟩, fun j h1 h2 => ?_, hs, Or.inr ⟨by omega, by omega, by omega, by omega, fun j hj => (key j (by omega)).2.1⟩⟩
    · obtain ⟨j, hj, e⟩ := List.getElem_of_mem hc
      have := (key j (by omega)).2
      rw [List.getD_eq_getElem?_getD, List.getElem?_eq_getElem hj, Option.getD_some, e] at this
      unfold xpc
      omega
    · have := (key (j - (b + p)) (by omega)).2.2
      rw [show b + p + (j - (b + p)) = j by omega] at this
      exact Or.inr (Or.inr (Or.inr this))
  · rw [if_neg hw] at h
    cases h
theorem xpl_V {p q kd : Nat} {ls : List Int} (hE : ∀ j : Nat, j < n → E (b + j) = f j) (h : xpl (ye n f) p = some (kd, ls, q)) (hs : xst (E (b + q))) : (p < q ∧ q ≤ n) ∧ xkd (E (b + p)) = kd ∧ xV0 E (b + p) kd ls (b + q) := by
  unfold xpl at h
  by_cases h34 : ye n f p = 34
  · rw [if_pos h34] at h
    unfold xps at h
    obtain ⟨k, hk⟩ : ∃ k, yn (ye n f) 97 122 12 (p + 1) = k := ⟨_, rfl⟩
    have hk12 := yn_le (ye n f) 97 122 12 (p + 1)
    have hkg := yn_get (ye n f) 97 122 12 (p + 1)
    rw [hk] at h hk12 hkg
    by_cases he : ye n f (p + 1 + k) = 34
    · rw [if_pos he] at h
      cases h
      obtain ⟨a1, a2⟩ := ye_ne h34 (by omega)
      obtain ⟨b1, b2⟩ := ye_ne he (by omega)
      have hl := xch_len (ye n f) k (p + 1)
      have key : ∀ j : Nat, j < k → E (b + p + 1 + j) = (xch (ye n f) (p + 1) k).getD j 0 ∧ (97 ≤ E (b + p + 1 + j) ∧ E (b + p + 1 + j) ≤ 122) := by
        intro j hj
        have g1 := hkg j hj
        obtain ⟨g3, g4⟩ := ye_ne (f := f) (n := n) (p := p + 1 + j) rfl (by omega)
        have e : E (b + p + 1 + j) = ye n f (p + 1 + j) := by rw [← g4, ← hE _ g3]; congr 1; omega
        exact ⟨by rw [e, xch_get _ _ _ _ hj], by rw [e]; exact g1⟩
      have e0 : E (b + p) = 34 := by rw [hE _ a1, a2]
      have eL : E (b + p + 1 + k) = 34 := by rw [show b + p + 1 + k = b + (p + 1 + k) by omega, hE _ b1, b2]
      refine ⟨⟨by omega, by omega⟩, by rw [e0]; rfl, by omega, ⟨by omega, fun c hc => ?_⟩, fun j h1 h2 => ?_, hs, Or.inl ⟨rfl, by omega, e0, ?_, fun j hj => (key j (by omega)).1⟩⟩
      · obtain ⟨j, hj, rfl⟩ := xch_mem _ _ _ _ hc
        have := hkg j hj
        unfold xpc
        omega
      · by_cases c1 : j = b + p
        · rw [c1, e0]; exact Or.inl rfl
        by_cases c2 : j = b + p + 1 + k
        · rw [c2, eL]; exact Or.inl rfl
        have := (key (j - (b + p + 1)) (by omega)).2
        rw [show b + p + 1 + (j - (b + p + 1)) = j by omega] at this
        exact Or.inr (Or.inr (Or.inr this))
      · rw [show b + (p + 1 + k + 1) - 1 = b + p + 1 + k by omega]; exact eL
    · rw [if_neg he] at h; cases h
  rw [if_neg h34] at h
  by_cases h110 : ye n f p = 110
  · rw [if_pos h110] at h
    exact xpw_V (i := 1) (kd := 0) (ls := [110, 117, 108, 108]) hE rfl (by decide) (by decide) (by decide +kernel) rfl h hs
  rw [if_neg h110] at h
  by_cases h116 : ye n f p = 116
  · rw [if_pos h116] at h
    exact xpw_V (i := 2) (kd := 1) (ls := [116, 114, 117, 101]) hE rfl (by decide) (by decide) (by decide +kernel) rfl h hs
  rw [if_neg h116] at h
  by_cases h102 : ye n f p = 102
  · rw [if_pos h102] at h
    exact xpw_V (i := 3) (kd := 1) (ls := [102, 97, 108, 115, 101]) hE rfl (by decide) (by decide) (by decide +kernel) rfl h hs
  rw [if_neg h102] at h
  unfold xpn at h
  by_cases h48 : ye n f p = 48
  · rw [if_pos h48] at h
    cases h
    obtain ⟨a1, a2⟩ := ye_ne h48 (by omega)
    have e0 : E (b + p) = 48 := by rw [hE _ a1, a2]
    refine ⟨⟨by omega, by omega⟩, by rw [e0]; rfl, by omega, ⟨by decide, fun c hc => ?_⟩, fun j h1 h2 => ?_, hs, Or.inr ⟨by omega, by decide, rfl, by omega, fun j hj => ?_⟩⟩
    · rw [List.mem_singleton] at hc
      unfold xpc
      omega
    · obtain rfl : j = b + p := by omega
      rw [e0]
      unfold xpc
      omega
    · rw [List.length_singleton] at hj
      obtain rfl : j = 0 := by omega
      exact e0
  rw [if_neg h48] at h
  obtain ⟨m, hm⟩ : ∃ m : Nat, m = if ye n f p = 45 then 1 else 0 := ⟨_, rfl⟩
  rw [← hm] at h
  have hm1 : m = 0 ∨ (m = 1 ∧ ye n f p = 45) := by
    rw [hm]
    by_cases h45 : ye n f p = 45
    · rw [if_pos h45]; exact Or.inr ⟨rfl, h45⟩
    · rw [if_neg h45]; exact Or.inl rfl
  obtain ⟨k, hk⟩ : ∃ k, yn (ye n f) 48 57 6 (p + m) = k := ⟨_, rfl⟩
  have hkg := yn_get (ye n f) 48 57 6 (p + m)
  rw [hk] at h hkg
  by_cases hc : (1 ≤ k ∧ k ≤ 5) ∧ ¬ ye n f (p + m) = 48
  · rw [if_pos hc] at h
    cases h
    have hl := xch_len (ye n f) (m + k) p
    have key : ∀ j : Nat, j < m + k → (p + j < n ∧ E (b + p + j) = (xch (ye n f) p (m + k)).getD j 0) ∧ ((j = 0 ∧ m = 1 ∧ E (b + p + j) = 45) ∨ (48 ≤ E (b + p + j) ∧ E (b + p + j) ≤ 57)) := by
      intro j hj
      have hv : (j = 0 ∧ m = 1 ∧ ye n f (p + j) = 45) ∨ (48 ≤ ye n f (p + j) ∧ ye n f (p + j) ≤ 57) := by
        by_cases hjm : j < m
        · rcases hm1 with h0 | ⟨h0, h1⟩
          · omega
          · obtain rfl : j = 0 := by omega
            exact Or.inl ⟨rfl, h0, h1⟩
        · have := hkg (j - m) (by omega)
          rw [show p + m + (j - m) = p + j by omega] at this
          exact Or.inr this
      obtain ⟨g3, g4⟩ := ye_ne (f := f) (n := n) (p := p + j) rfl (by omega)
      have e : E (b + p + j) = ye n f (p + j) := by rw [← g4, Nat.add_assoc, hE _ g3]
      exact ⟨⟨g3, by rw [e, xch_get _ _ _ _ hj]⟩, by rw [e]; exact hv⟩
    have k0 := key 0 (by omega)
    have kL := (key (m + k - 1) (by omega)).1.1
    simp only [Nat.add_zero] at k0
    have num : xkd (E (b + p)) = 2 := xkd_num (by omega)
    refine ⟨⟨by omega, by omega⟩, num, by omega, ⟨by omega, fun c hcc => ?_⟩, fun j h1 h2 => ?_, hs, Or.inr ⟨by omega, by omega, by omega, by omega, fun j hj => (key j (by omega)).1.2⟩⟩
    · obtain ⟨j, hj, rfl⟩ := xch_mem _ _ _ _ hcc
      have kj := key j hj
      rw [xch_get _ _ _ _ hj] at kj
      unfold xpc
      omega
    · have kj := (key (j - (b + p)) (by omega)).2
      rw [show b + p + (j - (b + p)) = j by omega] at kj
      unfold xpc
      omega
  · rw [if_neg hc] at h
    cases h
end XPV
/-! What is read from a text stands in it -/
section XPW
variable {n b : Nat} {f E : Nat → Int}
theorem xpa_V {α : Type} {pv : Nat → Option (α × Nat)} {V : Nat → α → Nat → Prop} (hE : ∀ j : Nat, j < n → E (b + j) = f j) (H : ∀ (p q : Nat) (v : α), pv p = some (v, q) → xst (E (b + q)) → (p < q ∧ q ≤ n) ∧ V (b + p) v (b + q)) : ∀ (k p q : Nat) (l : List (Int × α)), xpa (ye n f) pv k p = some (l, q) → (p < q ∧ q ≤ n) ∧ xVL E V 0 93 l (b + p) (b + q) := by
  intro k
  induction k with
  | zero => intro p q l h; cases h
  | succ k ih =>
    intro p q l h
    rw [xpa] at h
    cases hp : pv p with
    | none => rw [hp] at h; cases h
    | some x =>
      obtain ⟨v, r⟩ := x
      rw [hp] at h
      dsimp only at h
      by_cases h44 : ye n f r = 44
      · rw [if_pos h44] at h
        obtain ⟨g1, g2⟩ := ye_ne h44 (by omega)
        have er : E (b + r) = 44 := by rw [hE _ g1, g2]
        obtain ⟨c1, c2⟩ := H p r v hp (Or.inl er)
        cases hr : xpa (ye n f) pv k (r + 1) with
        | none => rw [hr] at h; cases h
        | some y =>
          obtain ⟨l', q'⟩ := y
          rw [hr] at h
          cases h
          obtain ⟨d1, d2⟩ := ih (r + 1) q l' hr
          refine ⟨⟨by omega, d1.2⟩, b + r, c2, Or.inl ⟨rfl, rfl⟩, Or.inr ⟨fun e => ?_, er, d2⟩⟩
          rw [e] at d2
          exact d2
      · rw [if_neg h44] at h
        by_cases h93 : ye n f r = 93
        · rw [if_pos h93] at h
          cases h
          obtain ⟨g1, g2⟩ := ye_ne h93 (by omega)
          have er : E (b + r) = 93 := by rw [hE _ g1, g2]
          obtain ⟨c1, c2⟩ := H p r v hp (Or.inr (Or.inl er))
          exact ⟨⟨by omega, by omega⟩, b + r, c2, Or.inl ⟨rfl, rfl⟩, Or.inl ⟨rfl, er, rfl⟩⟩
        · rw [if_neg h93] at h
          cases h
theorem xpo_V {α : Type} {pv : Nat → Option (α × Nat)} {V : Nat → α → Nat → Prop} (hE : ∀ j : Nat, j < n → E (b + j) = f j) (H : ∀ (p q : Nat) (v : α), pv p = some (v, q) → xst (E (b + q)) → (p < q ∧ q ≤ n) ∧ V (b + p) v (b + q)) : ∀ (k p q : Nat) (s : List Int) (l : List (Int × α)), xpo (ye n f) pv k s p = some (l, q) → (p < q ∧ q ≤ n) ∧ xVL E V 4 125 l (b + p) (b + q) := by
  intro k
  induction k with
  | zero => intro p q s l h; cases h
  | succ k ih =>
    intro p q s l h
    rw [xpo] at h
    by_cases hc : xpk (ye n f) p ∧ ¬ ye n f (p + 1) ∈ s
    · rw [if_pos hc] at h
      obtain ⟨⟨k1, k2, k3, k4⟩, -⟩ := hc
      obtain ⟨a1, a2⟩ := ye_ne k1 (by omega)
      obtain ⟨b1, b2⟩ := ye_ne (f := f) (n := n) (p := p + 1) rfl (by omega)
      obtain ⟨c1, c2⟩ := ye_ne k3 (by omega)
      obtain ⟨d1, d2⟩ := ye_ne k4 (by omega)
      have hK : xVK E 4 (ye n f (p + 1)) (b + p) := Or.inr ⟨rfl, k2, by rw [hE _ a1, a2], by rw [Nat.add_assoc, hE _ b1, b2], by rw [Nat.add_assoc, hE _ c1, c2], by rw [Nat.add_assoc, hE _ d1, d2]⟩
      cases hp : pv (p + 4) with
      | none => rw [hp] at h; cases h
      | some x =>
        obtain ⟨v, r⟩ := x
        rw [hp] at h
        dsimp only at h
        by_cases h44 : ye n f r = 44
        · rw [if_pos h44] at h
          obtain ⟨g1, g2⟩ := ye_ne h44 (by omega)
          have er : E (b + r) = 44 := by rw [hE _ g1, g2]
          obtain ⟨c1, c2⟩ := H (p + 4) r v hp (Or.inl er)
          cases hr : xpo (ye n f) pv k (s ++ [ye n f (p + 1)]) (r + 1) with
          | none => rw [hr] at h; cases h
          | some y =>
            obtain ⟨l', q'⟩ := y
            rw [hr] at h
            cases h
            obtain ⟨d1, d2⟩ := ih (r + 1) q _ l' hr
            refine ⟨⟨by omega, d1.2⟩, b + r, c2, hK, Or.inr ⟨fun e => ?_, er, d2⟩⟩
            rw [e] at d2
            exact d2
        · rw [if_neg h44] at h
          by_cases h125 : ye n f r = 125
          · rw [if_pos h125] at h
            cases h
            obtain ⟨g1, g2⟩ := ye_ne h125 (by omega)
            have er : E (b + r) = 125 := by rw [hE _ g1, g2]
            obtain ⟨c1, c2⟩ := H (p + 4) r v hp (Or.inr (Or.inr (Or.inl er)))
            exact ⟨⟨by omega, by omega⟩, b + r, c2, hK, Or.inl ⟨rfl, er, rfl⟩⟩
          · rw [if_neg h125] at h
            cases h
    · rw [if_neg hc] at h
      cases h
theorem xpv_V (hE : ∀ j : Nat, j < n → E (b + j) = f j) : ∀ (m p q : Nat) (t : xv m), xpv (ye n f) m p = some (t, q) → (xst (E (b + q)) ∨ ye n f p = 91 ∨ ye n f p = 123) → (p < q ∧ q ≤ n) ∧ xV E m (b + p) t (b + q) := by
  intro m
  induction m with
  | zero => intro p q t h; cases h
  | succ m ih =>
    intro p q t h hs
    rw [xpv] at h
    have H : ∀ (p q : Nat) (v : xv m), xpv (ye n f) m p = some (v, q) → xst (E (b + q)) → (p < q ∧ q ≤ n) ∧ xV E m (b + p) v (b + q) := fun p q v h1 h2 => ih p q v h1 (Or.inl h2)
    by_cases h91 : ye n f p = 91
    · rw [if_pos h91] at h
      obtain ⟨a1, a2⟩ := ye_ne h91 (by omega)
      have e0 : E (b + p) = 91 := by rw [hE _ a1, a2]
      by_cases hm : m = 0
      · rw [if_pos hm] at h; cases h
      rw [if_neg hm] at h
      by_cases h93 : ye n f (p + 1) = 93
      · rw [if_pos h93] at h
        cases h
        obtain ⟨b1, b2⟩ := ye_ne h93 (by omega)
        exact ⟨⟨by omega, by omega⟩, by omega, by rw [e0]; rfl, Or.inr ⟨rfl, Or.inl ⟨rfl, e0, Or.inl ⟨rfl, by rw [Nat.add_assoc, hE _ b1, b2], by omega⟩⟩⟩⟩
      · rw [if_neg h93] at h
        cases hr : xpa (ye n f) (xpv (ye n f) m) 100 (p + 1) with
        | none => rw [hr] at h; cases h
        | some y =>
          obtain ⟨l, q'⟩ := y
          rw [hr] at h
          cases h
          obtain ⟨d1, d2⟩ := xpa_V hE H 100 (p + 1) q l hr
          exact ⟨⟨by omega, d1.2⟩, by omega, by rw [e0]; rfl, Or.inr ⟨rfl, Or.inl ⟨rfl, e0, Or.inr d2⟩⟩⟩
    · rw [if_neg h91] at h
      by_cases h123 : ye n f p = 123
      · rw [if_pos h123] at h
        obtain ⟨a1, a2⟩ := ye_ne h123 (by omega)
        have e0 : E (b + p) = 123 := by rw [hE _ a1, a2]
        by_cases hm : m = 0
        · rw [if_pos hm] at h; cases h
        rw [if_neg hm] at h
        by_cases h125 : ye n f (p + 1) = 125
        · rw [if_pos h125] at h
          cases h
          obtain ⟨b1, b2⟩ := ye_ne h125 (by omega)
          exact ⟨⟨by omega, by omega⟩, by omega, by rw [e0]; rfl, Or.inr ⟨rfl, Or.inr ⟨rfl, e0, Or.inl ⟨rfl, by rw [Nat.add_assoc, hE _ b1, b2], by omega⟩⟩⟩⟩
        · rw [if_neg h125] at h
          cases hr : xpo (ye n f) (xpv (ye n f) m) 100 [] (p + 1) with
          | none => rw [hr] at h; cases h
          | some y =>
            obtain ⟨l, q'⟩ := y
            rw [hr] at h
            cases h
            obtain ⟨d1, d2⟩ := xpo_V hE H 100 (p + 1) q [] l hr
            exact ⟨⟨by omega, d1.2⟩, by omega, by rw [e0]; rfl, Or.inr ⟨rfl, Or.inr ⟨rfl, e0, Or.inr d2⟩⟩⟩
      · rw [if_neg h123] at h
        have hs' : xst (E (b + q)) := by
          rcases hs with hs | hs | hs
          · exact hs
          · exact absurd hs h91
          · exact absurd hs h123
        cases hr : xpl (ye n f) p with
        | none => rw [hr] at h; cases h
        | some y =>
          obtain ⟨kd, ls, q'⟩ := y
          rw [hr] at h
          cases h
          obtain ⟨d1, d2, d3⟩ := xpl_V hE hr hs'
          exact ⟨d1, by omega, d2, Or.inl ⟨rfl, d3⟩⟩
end XPW
/-- parts of a row: each stands at its place -/
theorem xVL_get {α : Type} {E : Nat → Int} {V : Nat → α → Nat → Prop} {ob : Nat} {c : Int} (hV : ∀ p v r, V p v r → p < r) : ∀ (l : List (Int × α)) (p q : Nat), xVL E V ob c l p q → p + 2 * l.length ≤ q ∧ ∀ a ∈ l, ∃ x y, p ≤ x ∧ y < q ∧ V (x + ob) a.2 y ∧ xVK E ob a.1 x := by
  intro l
  induction l with
  | nil => intro p q h; exact absurd h id
  | cons a l ih =>
    obtain ⟨k, v⟩ := a
    intro p q h
    obtain ⟨r, h1, h2, h3⟩ := h
    have hr := hV _ _ _ h1
    rcases h3 with ⟨rfl, -, rfl⟩ | ⟨-, -, h3⟩
    · refine ⟨by rw [List.length_singleton]; omega, fun a ha => ?_⟩
      rw [List.mem_singleton] at ha
      subst ha
      exact ⟨p, r, Nat.le_refl _, by omega, h1, h2⟩
    · obtain ⟨g1, g2⟩ := ih (r + 1) q h3
      refine ⟨by rw [List.length_cons]; omega, fun a ha => ?_⟩
      rcases List.mem_cons.mp ha with rfl | ha
      · exact ⟨p, r, Nat.le_refl _, by omega, h1, h2⟩
      · obtain ⟨x, y, e1, e2, e3, e4⟩ := g2 a ha
        exact ⟨x, y, by omega, e2, e3, e4⟩
theorem xV_wf {E : Nat → Int} : ∀ (m p q : Nat) (t : xv m), xV E m p t q → q ≤ p + 100 → xwf m t := by
  intro m
  induction m with
  | zero => intro p q t h; exact absurd h id
  | succ m ih =>
    intro p q t h hq
    obtain ⟨h1, h2, h3⟩ := h
    have hk6 : xv_k t < 6 := by
      rw [← h2]
      unfold xkd
      repeat' split
      all_goals omega
    rcases h3 with ⟨e1, e2⟩ | ⟨e1, e2⟩
    · obtain ⟨c1, ⟨c2, c3⟩, -⟩ := e2
      refine ⟨hk6, fun _ => e1, fun h => absurd h (by omega), c2, fun c hc => ?_, by rw [e1]; exact Nat.zero_le _, fun a ha => ?_⟩
      · have := c3 c hc
        unfold xpc at this
        omega
      · rw [e1] at ha
        exact absurd ha List.not_mem_nil
    · have key : ∀ (ob : Nat) (cl : Int), (xv_p t = [] ∨ xVL E (xV E m) ob cl (xv_p t) (p + 1) q) → (xv_p t).length ≤ 100 ∧ ∀ a ∈ xv_p t, xwf m a.2 ∧ 0 ≤ a.1 ∧ a.1 ≤ 127 := by
        intro ob cl h
        rcases h with h | h
        · rw [h]
          exact ⟨Nat.zero_le _, fun a ha => absurd ha List.not_mem_nil⟩
        · obtain ⟨g1, g2⟩ := xVL_get (fun _ _ _ h => xV_lt h) _ _ _ h
          refine ⟨by omega, fun a ha => ?_⟩
          obtain ⟨x, y, e1, e2, e3, e4⟩ := g2 a ha
          refine ⟨ih _ _ _ e3 (by omega), ?_⟩
          rcases e4 with ⟨-, e4⟩ | ⟨-, e4, -⟩ <;> omega
      have hk4 : 4 ≤ xv_k t := by
        rcases e2 with e2 | e2 <;> omega
      have hh : (xv_p t).length ≤ 100 ∧ ∀ a ∈ xv_p t, xwf m a.2 ∧ 0 ≤ a.1 ∧ a.1 ≤ 127 := by
        rcases e2 with ⟨-, -, ⟨e2, -⟩ | e2⟩ | ⟨-, -, ⟨e2, -⟩ | e2⟩
        · exact key 0 93 (Or.inl e2)
        · exact key 0 93 (Or.inr e2)
        · exact key 4 125 (Or.inl e2)
        · exact key 4 125 (Or.inr e2)
      refine ⟨hk6, fun h => absurd h (by omega), fun _ => e1, by rw [e1]; exact Nat.zero_le _, fun c hc => ?_, hh⟩
      rw [e1] at hc
      exact absurd hc List.not_mem_nil
/-- a text that is a value -/
theorem xpv_wf {n : Nat} {f : Nat → Int} {m : Nat} {t : xv m} (hn : n ≤ 100) (h : xpv (ye n f) m 0 = some (t, n)) : xwf m t := by
  have e : ye n f n = 0 := by unfold ye; rw [if_neg (by omega)]
  obtain ⟨-, h2⟩ := xpv_V (b := 0) (E := ye n f) (fun j hj => by unfold ye; rw [Nat.zero_add, if_pos hj]) m 0 n t h (Or.inl (Or.inr (Or.inr (Or.inr (by rw [Nat.zero_add]; exact e)))))
  exact xV_wf m _ _ t h2 (by omega)
