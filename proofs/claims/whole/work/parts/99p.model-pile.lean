/-! How many jobs a comparison takes -/
/-- keys of an object are there once -/
def xdk : (n : Nat) → xv n → Prop
  | 0, _ => True
  | n + 1, t => (xv_k t = 5 → ((xv_p t).map fun q => q.1).Nodup) ∧ ∀ q ∈ xv_p t, xdk n q.2
def x16 : (n : Nat) → xv n → Prop
  | 0, _ => True
  | n + 1, t => ((xv_k t = 5 → (xv_p t).length ≤ 16) ∧ (xv_p t).length ≤ 49) ∧ ∀ q ∈ xv_p t, x16 n q.2
/-- how many characters a value has -/
def xln : (n : Nat) → xv n → Nat
  | 0, _ => 0
  | n + 1, t => if xv_k t < 4 then (xv_l t).length + (if xv_k t = 3 then 2 else 0) else if (xv_p t).length = 0 then 2 else 1 + ((xv_p t).map fun q => (if xv_k t = 5 then 4 else 0) + xln n q.2 + 1).sum
theorem xVL_ln {α : Type} {E : Nat → Int} {V : Nat → α → Nat → Prop} {W : α → Nat} {ob : Nat} {c : Int} (hV : ∀ p v r, V p v r → r = p + W v) : ∀ (l : List (Int × α)) (p q : Nat), xVL E V ob c l p q → q = p + (l.map fun a => ob + W a.2 + 1).sum := by
  intro l
  induction l with
  | nil => intro p q h; exact absurd h id
  | cons a l ih =>
    obtain ⟨k, v⟩ := a
    intro p q h
    obtain ⟨r, h1, h2, h3⟩ := h
    have e1 := hV _ _ _ h1
    rw [List.map_cons, List.sum_cons]
    show q = p + (ob + W v + 1 + _)
    rcases h3 with ⟨h4, h5, h6⟩ | ⟨h4, h5, h6⟩
    · rw [h4, List.map_nil, List.sum_nil]; omega
    · have := ih (r + 1) q h6
      omega
theorem xVL_ne {α : Type} {E : Nat → Int} {V : Nat → α → Nat → Prop} {ob : Nat} {c : Int} {l : List (Int × α)} {p q : Nat} (h : xVL E V ob c l p q) : ¬ l.length = 0 := by
  cases l with
  | nil => exact absurd h id
  | cons a l => rw [List.length_cons]; omega
theorem xV_ln {E : Nat → Int} : ∀ (n p q : Nat) (t : xv n), xV E n p t q → q = p + xln n t := by
  intro n
  induction n with
  | zero => intro p q t h; exact absurd h id
  | succ n ih =>
    intro p q t h
    obtain ⟨h1, h2, h3⟩ := h
    rw [xln]
    rcases h3 with ⟨h4, h5, h6, h7, h8, h9⟩ | ⟨h4, ⟨h5, h6, h7⟩ | ⟨h5, h6, h7⟩⟩
    · rw [if_pos h5]
      rcases h9 with ⟨h9, h10, -⟩ | ⟨h9, h10, h11, -⟩
      · rw [if_pos h9]; omega
      · rw [if_neg h9]; omega
    · rw [if_neg (by omega)]
      rcases h7 with ⟨h7, h8, h9⟩ | h7
      · rw [if_pos (by rw [h7]; rfl)]; exact h9
      · rw [if_neg (xVL_ne h7)]
        have := xVL_ln (W := xln n) (fun p v r hv => ih p r v hv) _ _ _ h7
        rw [if_neg (show ¬ xv_k t = 5 by omega)]
        omega
    · rw [if_neg (by omega)]
      rcases h7 with ⟨h7, h8, h9⟩ | h7
      · rw [if_pos (by rw [h7]; rfl)]; exact h9
      · rw [if_neg (xVL_ne h7)]
        have := xVL_ln (W := xln n) (fun p v r hv => ih p r v hv) _ _ _ h7
        rw [if_pos h5]
        omega
theorem xVL_len {α : Type} {E : Nat → Int} {V : Nat → α → Nat → Prop} {ob : Nat} {c : Int} (hV : ∀ p v r, V p v r → p < r) : ∀ (l : List (Int × α)) (p q : Nat), xVL E V ob c l p q → p + (ob + 2) * l.length ≤ q := by
  intro l
  induction l with
  | nil => intro p q h; exact absurd h id
  | cons a l ih =>
    obtain ⟨k, v⟩ := a
    intro p q h
    obtain ⟨r, h1, h2, h3⟩ := h
    have e1 := hV _ _ _ h1
    rw [List.length_cons, Nat.mul_succ]
    rcases h3 with ⟨h4, h5, h6⟩ | ⟨h4, h5, h6⟩
    · rw [h4, List.length_nil, Nat.mul_zero]; omega
    · have := ih (r + 1) q h6
      omega
theorem xV_16 {E : Nat → Int} : ∀ (n p q : Nat) (t : xv n), xV E n p t q → q ≤ p + 100 → x16 n t := by
  intro n
  induction n with
  | zero => intro p q t h; exact absurd h id
  | succ n ih =>
    intro p q t h hq
    obtain ⟨h1, h2, h3⟩ := h
    rcases h3 with ⟨h4, -⟩ | ⟨h4, ⟨h5, h6, h7⟩ | ⟨h5, h6, h7⟩⟩
    · refine ⟨⟨fun _ => by rw [h4]; exact Nat.zero_le _, by rw [h4]; exact Nat.zero_le _⟩, fun q hq => by rw [h4] at hq; exact absurd hq List.not_mem_nil⟩
    · rcases h7 with ⟨h7, -⟩ | h7
      · refine ⟨⟨fun _ => by rw [h7]; exact Nat.zero_le _, by rw [h7]; exact Nat.zero_le _⟩, fun q hq => by rw [h7] at hq; exact absurd hq List.not_mem_nil⟩
      · have hl := xVL_len (fun p v r hv => xV_lt hv) _ _ _ h7
        have hg := (xVL_get (fun p v r hv => xV_lt hv) _ _ _ h7).2
        refine ⟨⟨fun h => by omega, by omega⟩, fun a ha => ?_⟩
        obtain ⟨x, y, g1, g2, g3, -⟩ := hg a ha
        exact ih _ _ _ g3 (by omega)
    · rcases h7 with ⟨h7, -⟩ | h7
      · refine ⟨⟨fun _ => by rw [h7]; exact Nat.zero_le _, by rw [h7]; exact Nat.zero_le _⟩, fun q hq => by rw [h7] at hq; exact absurd hq List.not_mem_nil⟩
      · have hl := xVL_len (fun p v r hv => xV_lt hv) _ _ _ h7
        have hg := (xVL_get (fun p v r hv => xV_lt hv) _ _ _ h7).2
        refine ⟨⟨fun h => by omega, by omega⟩, fun a ha => ?_⟩
        obtain ⟨x, y, g1, g2, g3, -⟩ := hg a ha
        exact ih _ _ _ g3 (by omega)
theorem xpa_mem {α : Type} {e : Nat → Int} {pv : Nat → Option (α × Nat)} : ∀ (k p q : Nat) (l : List (Int × α)), xpa e pv k p = some (l, q) → ∀ a ∈ l, ∃ x y, pv x = some (a.2, y) := by
  intro k
  induction k with
  | zero => intro p q l h; cases h
  | succ k ih =>
    intro p q l h a ha
    rw [xpa] at h
    cases h1 : pv p with
    | none => rw [h1] at h; cases h
    | some z =>
      obtain ⟨v, r⟩ := z
      rw [h1] at h
      have h2 : (if e r = 44 then (match xpa e pv k (r + 1) with
        | none => none
        | some (l, r) => some ((0, v) :: l, r)) else if e r = 93 then some ([(0, v)], r + 1) else none) = some (l, q) := h
      by_cases h3 : e r = 44
      · rw [if_pos h3] at h2
        cases h4 : xpa e pv k (r + 1) with
        | none => rw [h4] at h2; cases h2
        | some z2 =>
          obtain ⟨l2, r2⟩ := z2
          rw [h4] at h2
          cases h2
          rcases List.mem_cons.mp ha with rfl | ha
          · exact ⟨p, r, h1⟩
          · exact ih _ _ _ h4 a ha
      · rw [if_neg h3] at h2
        by_cases h5 : e r = 93
        · rw [if_pos h5] at h2
          cases h2
          rw [List.mem_singleton] at ha
          rw [ha]
          exact ⟨p, r, h1⟩
        · rw [if_neg h5] at h2; cases h2
theorem xpo_mem {α : Type} {e : Nat → Int} {pv : Nat → Option (α × Nat)} : ∀ (k : Nat) (seen : List Int) (p q : Nat) (l : List (Int × α)), xpo e pv k seen p = some (l, q) → ((l.map fun a => a.1).Nodup ∧ ∀ c ∈ (l.map fun a => a.1), ¬ c ∈ seen) ∧ ∀ a ∈ l, ∃ x y, pv x = some (a.2, y) := by
  intro k
  induction k with
  | zero => intro seen p q l h; cases h
  | succ k ih =>
    intro seen p q l h
    rw [xpo] at h
    by_cases hc : xpk e p ∧ ¬ e (p + 1) ∈ seen
    · rw [if_pos hc] at h
      cases h1 : pv (p + 4) with
      | none => rw [h1] at h; cases h
      | some z =>
        obtain ⟨v, r⟩ := z
        rw [h1] at h
        have h2 : (if e r = 44 then (match xpo e pv k (seen ++ [e (p + 1)]) (r + 1) with
          | none => none
          | some (l, r) => some ((e (p + 1), v) :: l, r)) else if e r = 125 then some ([(e (p + 1), v)], r + 1) else none) = some (l, q) := h
        by_cases h3 : e r = 44
        · rw [if_pos h3] at h2
          cases h4 : xpo e pv k (seen ++ [e (p + 1)]) (r + 1) with
          | none => rw [h4] at h2; cases h2
          | some z2 =>
            obtain ⟨l2, r2⟩ := z2
            rw [h4] at h2
            cases h2
            obtain ⟨⟨i1, i2⟩, i3⟩ := ih _ _ _ _ h4
            refine ⟨⟨?_, fun c hcm => ?_⟩, fun a ha => ?_⟩
            · rw [List.map_cons, List.nodup_cons]
              exact ⟨fun hm => i2 _ hm (List.mem_append.mpr (Or.inr (List.mem_singleton.mpr rfl))), i1⟩
            · rw [List.map_cons] at hcm
              rcases List.mem_cons.mp hcm with rfl | hcm
              · exact hc.2
              · exact fun hs => i2 c hcm (List.mem_append.mpr (Or.inl hs))
            · rcases List.mem_cons.mp ha with rfl | ha
              · exact ⟨_, _, h1⟩
              · exact i3 a ha
        · rw [if_neg h3] at h2
          by_cases h5 : e r = 125
          · rw [if_pos h5] at h2
            cases h2
            refine ⟨⟨?_, fun c hcm => ?_⟩, fun a ha => ?_⟩
            · rw [List.map_cons, List.map_nil, List.nodup_cons]; exact ⟨List.not_mem_nil, List.nodup_nil⟩
            · rw [List.map_cons, List.map_nil, List.mem_singleton] at hcm
              rw [hcm]; exact hc.2
            · rw [List.mem_singleton] at ha
              rw [ha]
              exact ⟨_, _, h1⟩
          · rw [if_neg h5] at h2; cases h2
    · rw [if_neg hc] at h; cases h
theorem xpv_dk {e : Nat → Int} : ∀ (m p q : Nat) (t : xv m), xpv e m p = some (t, q) → xdk m t := by
  intro m
  induction m with
  | zero => intro p q t h; cases h
  | succ m ih =>
    intro p q t h
    rw [xpv] at h
    by_cases h1 : e p = 91
    · rw [if_pos h1] at h
      by_cases h2 : m = 0
      · rw [if_pos h2] at h; cases h
      · rw [if_neg h2] at h
        by_cases h3 : e (p + 1) = 93
        · rw [if_pos h3] at h; cases h
          exact ⟨fun h => (by cases h), fun a ha => absurd ha List.not_mem_nil⟩
        · rw [if_neg h3] at h
          cases h4 : xpa e (xpv e m) 100 (p + 1) with
          | none => rw [h4] at h; cases h
          | some z =>
            obtain ⟨l, r⟩ := z
            rw [h4] at h
            cases h
            refine ⟨fun h => (by cases h), fun a ha => ?_⟩
            obtain ⟨x, y, g⟩ := xpa_mem _ _ _ _ h4 a ha
            exact ih _ _ _ g
    · rw [if_neg h1] at h
      by_cases h1' : e p = 123
      · rw [if_pos h1'] at h
        by_cases h2 : m = 0
        · rw [if_pos h2] at h; cases h
        · rw [if_neg h2] at h
          by_cases h3 : e (p + 1) = 125
          · rw [if_pos h3] at h; cases h
            exact ⟨fun _ => List.nodup_nil, fun a ha => absurd ha List.not_mem_nil⟩
          · rw [if_neg h3] at h
            cases h4 : xpo e (xpv e m) 100 [] (p + 1) with
            | none => rw [h4] at h; cases h
            | some z =>
              obtain ⟨l, r⟩ := z
              rw [h4] at h
              cases h
              obtain ⟨⟨i1, -⟩, i3⟩ := xpo_mem _ _ _ _ _ h4
              refine ⟨fun _ => i1, fun a ha => ?_⟩
              obtain ⟨x, y, g⟩ := i3 a ha
              exact ih _ _ _ g
      · rw [if_neg h1'] at h
        cases h4 : xpl e p with
        | none => rw [h4] at h; cases h
        | some z =>
          obtain ⟨kd, ls, r⟩ := z
          rw [h4] at h
          cases h
          exact ⟨fun _ => List.nodup_nil, fun a ha => absurd ha List.not_mem_nil⟩
/-- jobs of elements, of members, of what is not expected -/
def xjE {α : Type} (g : α → α → List Int → Nat) (ps : List (Int × α)) (lo : Bool) (l : List Int) : List (Int × α) → Nat → Nat
  | [], _ => 0
  | q :: us, i => (match ps[(if lo = true ∧ ps.length ≤ i then ps.length - 1 else i)]? with
    | none => 0
    | some p => g p.2 q.2 (l ++ [(i : Int)])) + xjE g ps lo l us (i + 1)
def xjM {α : Type} (g : α → α → List Int → Nat) (us : List (Int × α)) (l : List Int) : List (Int × α) → Nat
  | [] => 0
  | p :: ps => (match xmem us p.1 with
    | none => 1
    | some v => g p.2 v (l ++ [1000 + p.1])) + xjM g us l ps
def xjc (H : (n : Nat) → xv (n + 1) → xv (n + 1) → List Int → Nat) (st : Int) : (n : Nat) → xv n → xv n → List Int → Nat
  | 0, _, _, _ => 1
  | n + 1, t, u, l => 1 + (if H n t u l = 0 then 0 else if xv_k t = 4 ∧ xv_k u = 4 then xjE (xjc H st n) (xv_p t) (decide (H n t u l = 3)) l (xv_p u) 0 else if xv_k t = 5 ∧ xv_k u = 5 then xjM (xjc H st n) (xv_p u) l (xv_p t) + (if st = 1 then (xun (xv_p t) l (xv_p u)).length else 0) else 0)
theorem xun_len {α : Type} (ps : List (Int × α)) (l : List Int) : ∀ us : List (Int × α), (xun ps l us).length ≤ us.length := by
  intro us
  induction us with
  | nil => exact Nat.le_refl _
  | cons q us ih =>
    rw [xun, List.length_append, List.length_cons]
    cases xmem ps q.1 with
    | none => show 1 + _ ≤ _; omega
    | some v => show 0 + _ ≤ _; omega
theorem xmem_cons {α : Type} (q : Int × α) (us : List (Int × α)) (c : Int) : xmem (q :: us) c = if q.1 = c then some q.2 else xmem us c := by
  obtain ⟨k, v⟩ := q
  rfl
section JB
variable {α : Type} {g : α → α → List Int → Nat} {W : α → Nat} {ps : List (Int × α)} {lo : Bool} {l : List Int}
theorem xjE_le (hg : ∀ p ∈ ps, ∀ (v : α) (l : List Int), g p.2 v l ≤ 6 * W v + 6) : ∀ (us : List (Int × α)) (i : Nat), xjE g ps lo l us i ≤ 6 * (us.map fun a => 0 + W a.2 + 1).sum := by
  intro us
  induction us with
  | nil => intro i; exact Nat.le_refl _
  | cons q us ih =>
    intro i
    have h2 := ih (i + 1)
    rw [xjE, List.map_cons, List.sum_cons]
    cases h1 : ps[(if lo = true ∧ ps.length ≤ i then ps.length - 1 else i)]? with
    | none => show 0 + _ ≤ _; omega
    | some p =>
      have h3 := hg p (List.mem_of_getElem? h1) q.2 (l ++ [(i : Int)])
      show g p.2 q.2 (l ++ [(i : Int)]) + _ ≤ _
      omega
/-- one key at most is changed -/
theorem xjM_one (f f' : Int × α → Nat) (k : Int) (a : Nat) : ∀ ps : List (Int × α), (ps.map fun q => q.1).Nodup → (∀ p ∈ ps, ¬ p.1 = k → f p = f' p) → (∀ p ∈ ps, p.1 = k → f p ≤ a) → (ps.map f).sum ≤ a + (ps.map f').sum := by
  intro ps
  induction ps with
  | nil => intro _ _ _; exact Nat.zero_le _
  | cons p ps ih =>
    intro hd h1 h2
    rw [List.map_cons, List.nodup_cons] at hd
    rw [List.map_cons, List.sum_cons, List.map_cons, List.sum_cons]
    by_cases hk : p.1 = k
    · have h3 := h2 p List.mem_cons_self hk
      have h4 : (ps.map f) = (ps.map f') := List.map_congr_left (fun q hq => h1 q (List.mem_cons_of_mem _ hq) (fun e => hd.1 (by rw [hk, ← e]; exact List.mem_map_of_mem hq)))
      rw [h4]
      omega
    · have h3 := h1 p List.mem_cons_self hk
      have h4 := ih hd.2 (fun q hq => h1 q (List.mem_cons_of_mem _ hq)) (fun q hq => h2 q (List.mem_cons_of_mem _ hq))
      omega
theorem xjM_sum (F : Int × α → α → Nat) (hd : (ps.map fun q => q.1).Nodup) (hF : ∀ p ∈ ps, ∀ v : α, F p v ≤ 6 * W v + 6) : ∀ us : List (Int × α), (ps.map fun p => (match xmem us p.1 with
    | none => 0
    | some v => F p v)).sum ≤ (us.map fun a => 6 * W a.2 + 6).sum := by
  intro us
  induction us with
  | nil =>
    have : (ps.map fun p => (match xmem ([] : List (Int × α)) p.1 with
      | none => 0
      | some v => F p v)) = ps.map fun _ => 0 := rfl
    rw [this]
    clear hd hF
    induction ps with
    | nil => exact Nat.le_refl _
    | cons p ps ih => rw [List.map_cons, List.sum_cons, Nat.zero_add]; exact ih rfl
  | cons q us ih =>
    rw [List.map_cons, List.sum_cons]
    have h1 := xjM_one (fun p => (match xmem (q :: us) p.1 with
      | none => 0
      | some v => F p v)) (fun p => (match xmem us p.1 with
      | none => 0
      | some v => F p v)) q.1 (6 * W q.2 + 6) ps hd (fun p hp hk => ?_) (fun p hp hk => ?_)
    · omega
    · show (match xmem (q :: us) p.1 with
        | none => 0
        | some v => F p v) = _
      rw [xmem_cons, if_neg (fun h => hk h.symm)]
    · show (match xmem (q :: us) p.1 with
        | none => 0
        | some v => F p v) ≤ _
      rw [xmem_cons, if_pos hk.symm]
      exact hF p hp q.2
theorem xjM_le {us : List (Int × α)} (hd : (ps.map fun q => q.1).Nodup) (hg : ∀ p ∈ ps, ∀ (v : α) (l : List Int), g p.2 v l ≤ 6 * W v + 6) : xjM g us l ps ≤ ps.length + (us.map fun a => 6 * W a.2 + 6).sum := by
  have h1 := xjM_sum (W := W) (fun p v => g p.2 v (l ++ [1000 + p.1])) hd (fun p hp v => hg p hp v _) us
  refine Nat.le_trans ?_ (Nat.add_le_add_left h1 _)
  clear h1 hd hg
  induction ps with
  | nil => exact Nat.le_refl _
  | cons p ps ih =>
    rw [xjM, List.length_cons, List.map_cons, List.sum_cons]
    cases h : xmem us p.1 with
    | none => show 1 + _ ≤ _ + 1 + (0 + _); omega
    | some v => show g p.2 v (l ++ [1000 + p.1]) + _ ≤ _ + 1 + (g p.2 v (l ++ [1000 + p.1]) + _); omega
end JB
theorem xsum_6 {α : Type} (W : α → Nat) (us : List (Int × α)) : (us.map fun a => 6 * W a.2 + 6).sum + 24 * us.length = 6 * (us.map fun a => 4 + W a.2 + 1).sum := by
  induction us with
  | nil => rfl
  | cons q us ih =>
    rw [List.map_cons, List.sum_cons, List.map_cons, List.sum_cons, List.length_cons]
    omega
/-- the jobs of a comparison -/
theorem xjc_le {H : (n : Nat) → xv (n + 1) → xv (n + 1) → List Int → Nat} {st : Int} : ∀ (n : Nat) (t u : xv n) (l : List Int), xdk n t → x16 n t → xjc H st n t u l ≤ 6 * xln n u + 6 := by
  intro n
  induction n with
  | zero => intro t u l _ _; show 1 ≤ _; omega
  | succ n ih =>
    intro t u l hd h16
    have hg : ∀ p ∈ xv_p t, ∀ (v : xv n) (l : List Int), xjc H st n p.2 v l ≤ 6 * xln n v + 6 := fun p hp v l => ih p.2 v l (hd.2 p hp) (h16.2 p hp)
    rw [xjc]
    by_cases h0 : H n t u l = 0
    · rw [if_pos h0]; omega
    · rw [if_neg h0]
      by_cases h4 : xv_k t = 4 ∧ xv_k u = 4
      · rw [if_pos h4, xln, if_neg (show ¬ xv_k u < 4 by omega)]
        have h1 := xjE_le (lo := decide (H n t u l = 3)) (l := l) hg (xv_p u) 0
        by_cases hl : (xv_p u).length = 0
        · rw [if_pos hl]
          rw [List.eq_nil_of_length_eq_zero hl] at h1 ⊢
          show 1 + 0 ≤ _
          omega
        · rw [if_neg hl, if_neg (show ¬ xv_k u = 5 by omega)]
          omega
      · rw [if_neg h4]
        by_cases h5 : xv_k t = 5 ∧ xv_k u = 5
        · rw [if_pos h5, xln, if_neg (show ¬ xv_k u < 4 by omega), if_pos h5.2]
          have h1 := xjM_le (us := xv_p u) (l := l) (hd.1 h5.1) hg
          have h2 := h16.1.1 h5.1
          have h3 := xun_len (xv_p t) l (xv_p u)
          have h6 := xsum_6 (xln n) (xv_p u)
          have h7 : (if st = 1 then (xun (xv_p t) l (xv_p u)).length else 0) ≤ (xv_p u).length := by
            split <;> omega
          by_cases hl : (xv_p u).length = 0
          · rw [if_pos hl]
            rw [List.eq_nil_of_length_eq_zero hl] at h1 h7 ⊢
            rw [List.map_nil, List.sum_nil] at h1
            rw [List.length_nil] at h7
            omega
          · rw [if_neg hl]
            omega
        · rw [if_neg h5]; omega
theorem xcm_len {sl : List Int → Bool} {H : (n : Nat) → xv (n + 1) → xv (n + 1) → List Int → Nat} {st : Int} : ∀ (n : Nat) (t u : xv n) (l : List Int), (xcm sl H st n t u l).length ≤ xjc H st n t u l := by
  intro n
  induction n with
  | zero => intro t u l; exact Nat.zero_le _
  | succ n ih =>
    intro t u l
    rw [xcm, xjc]
    by_cases h0 : H n t u l = 0
    · rw [if_pos h0, if_pos h0]; exact Nat.le_refl _
    · rw [if_neg h0, if_neg h0]
      by_cases h4 : xv_k t = 4 ∧ xv_k u = 4
      · rw [if_pos h4, if_pos h4, List.length_append]
        have h1 : ∀ (us : List (Int × xv n)) (i : Nat), (xel (xcm sl H st n) (xv_p t) (decide (H n t u l = 3)) l us i).length ≤ xjE (xjc H st n) (xv_p t) (decide (H n t u l = 3)) l us i := by
          intro us
          induction us with
          | nil => intro i; exact Nat.le_refl _
          | cons q us iu =>
            intro i
            rw [xel, xjE, List.length_append]
            have := iu (i + 1)
            cases (xv_p t)[(if decide (H n t u l = 3) = true ∧ (xv_p t).length ≤ i then (xv_p t).length - 1 else i)]? with
            | none => show 0 + _ ≤ 0 + _; omega
            | some p =>
              have h2 := ih p.2 q.2 (l ++ [(i : Int)])
              show (xcm sl H st n p.2 q.2 (l ++ [(i : Int)])).length + _ ≤ xjc H st n p.2 q.2 (l ++ [(i : Int)]) + _
              omega
        have h2 := h1 (xv_p u) 0
        split
        · rw [List.length_singleton]; omega
        · rw [List.length_nil]; omega
      · rw [if_neg h4, if_neg h4]
        by_cases h5 : xv_k t = 5 ∧ xv_k u = 5
        · rw [if_pos h5, if_pos h5, List.length_append]
          have h1 : ∀ ps : List (Int × xv n), (xme (xcm sl H st n) (xv_p u) l ps).length ≤ xjM (xjc H st n) (xv_p u) l ps := by
            intro ps
            induction ps with
            | nil => exact Nat.le_refl _
            | cons p ps ip =>
              rw [xme, xjM, List.length_append]
              cases xmem (xv_p u) p.1 with
              | none => show 1 + _ ≤ 1 + _; omega
              | some v =>
                have h2 := ih p.2 v (l ++ [1000 + p.1])
                show (xcm sl H st n p.2 v (l ++ [1000 + p.1])).length + _ ≤ xjc H st n p.2 v (l ++ [1000 + p.1]) + _
                omega
          have h2 := h1 (xv_p t)
          split
          · omega
          · rw [List.length_nil]; omega
        · rw [if_neg h5, if_neg h5]; exact Nat.zero_le _
/-! The reference's pile of jobs -/
/-- a job: what, expected, actual, place; what it will list, what it costs, how many levels are below it -/
def xJ : Type := (Int × Int × Int × Nat) × List (Int × List Int) × Nat × Nat
section CM
variable (E : Nat → Int) (sl : List Int → Bool) (H : (n : Nat) → xv (n + 1) → xv (n + 1) → List Int → Nat) (st : Int)
def xJV (K : Nat) (pth : Nat → List Int) (j : xJ) : Prop := j.1.2.2.2 < K ∧ ((pth j.1.2.2.2).length ≤ 5 ∧ xpl0 (pth j.1.2.2.2)) ∧ (((j.1.1 = 3 ∨ j.1.1 = 4) ∧ j.2.1 = [(j.1.1, pth j.1.2.2.2)] ∧ j.2.2.1 = 1 ∧ j.2.2.2 = 0) ∨ (j.1.1 = 0 ∧ ∃ (m pe pa ze za : Nat) (tt uu : xv (m + 1)), (j.1.2.1 = (pe : Int) ∧ j.1.2.2.1 = (pa : Int)) ∧ (xV E (m + 1) pe tt ze ∧ xV E (m + 1) pa uu za) ∧ ((ze ≤ pe + 100 ∧ ze < 3711) ∧ za ≤ pa + 100 ∧ za < 3711) ∧ xdk (m + 1) tt ∧ j.2.1 = xcm sl H st (m + 1) tt uu (pth j.1.2.2.2) ∧ j.2.2.1 = xjc H st (m + 1) tt uu (pth j.1.2.2.2) ∧ (j.2.2.2 = m ∧ (pth j.1.2.2.2).length + m = 5)))
end CM
def xSK (t : Nat → Nat → Int) (js : List xJ) : Prop := ∀ (i : Nat) (j : xJ), js[i]? = some j → t 182 i = j.1.1 ∧ t 183 i = j.1.2.1 ∧ t 184 i = j.1.2.2.1 ∧ t 185 i = (j.1.2.2.2 : Int)
/-- what is still to be listed, the topmost job first -/
def xout : List xJ → List (Int × List Int)
  | [] => []
  | j :: js => xout js ++ j.2.1
def xcost (js : List xJ) : Nat := (js.map fun j => j.2.2.1).sum
theorem xout_app (js : List xJ) (j : xJ) : xout (js ++ [j]) = j.2.1 ++ xout js := by
  induction js with
  | nil => show [] ++ j.2.1 = j.2.1 ++ []; rw [List.nil_append, List.append_nil]
  | cons a js ih => show xout (js ++ [j]) ++ a.2.1 = j.2.1 ++ (xout js ++ a.2.1); rw [ih, List.append_assoc]
theorem xcost_app (js : List xJ) (j : xJ) : xcost (js ++ [j]) = xcost js + j.2.2.1 := by
  unfold xcost
  rw [List.map_append, List.sum_append, List.map_cons, List.map_nil, List.sum_cons, List.sum_nil]
  omega
/-- a comparison of the reference under way; B is what is kept for jobs that are still to come -/
def xCMS (t0 : Nat → Nat → Int) (s0 : Nat → Int) (sl : List Int → Bool) (H : (n : Nat) → xv (n + 1) → xv (n + 1) → List Int → Nat) (st : Int) (s : Nat → Int) (t : Nat → Nat → Int) (K : Nat) (pth : Nat → List Int) (js : List xJ) (ms : List (Int × List Int)) (B : Nat) : Prop := (s 19 = (K : Int) ∧ 0 < K) ∧ s 22 = (js.length : Int) ∧ xSPT t K pth ∧ xSK t js ∧ (∀ j ∈ js, xJV (t0 166) sl H st K pth j) ∧ xLS s t ms ∧ (∀ x : Nat, 166 ≤ x → x ≤ 174 → t x = t0 x) ∧ (∀ x : Nat, ¬ x = 13 → ¬ x = 19 → ¬ x = 22 → ¬ x = 27 → s x = s0 x) ∧ K + xcost js + B ≤ 768 + js.length ∧ ∀ (i : Nat) (j : xJ), js[i]? = some j → i + 1 + 50 * j.2.2.2 ≤ 256
section CN
variable {t0 t t1 t2 : Nat → Nat → Int} {s0 s : Nat → Int} {sl : List Int → Bool} {H : (n : Nat) → xv (n + 1) → xv (n + 1) → List Int → Nat} {st : Int} {K : Nat} {pth : Nat → List Int} {js : List xJ} {ms : List (Int × List Int)} {B B' : Nat}
theorem xJV_up {E : Nat → Int} {j : xJ} {q : List Int} (h : xJV E sl H st K pth j) : xJV E sl H st (K + 1) (va_up pth K q) j := by
  obtain ⟨h1, h2, h3⟩ := h
  have e : (va_up pth K q) j.1.2.2.2 = pth j.1.2.2.2 := ya_up_ne _ _ (by omega)
  unfold xJV
  rw [e]
  exact ⟨by omega, h2, h3⟩
theorem xSPT_up {o : Nat} {c : Int} (h : xSPT t K pth) (hK : 0 < K) (ho : o < K) (hx : t1 180 = va_up (t 180) K (o : Int)) (hy : t1 181 = va_up (t 181) K (xcv c)) : xSPT t1 (K + 1) (va_up pth K (pth o ++ [c])) := by
  refine ⟨by rw [ya_up_ne _ _ (by omega)]; exact h.1, fun p hp hpK => ?_⟩
  by_cases e : p = K
  · rw [e]
    refine ⟨o, c, by rw [hx, ya_up_same], ho, by rw [hy, ya_up_same], ?_⟩
    rw [ya_up_same, ya_up_ne _ _ (by omega)]
  · obtain ⟨o', c', g1, g2, g3, g4⟩ := h.2 p hp (by omega)
    refine ⟨o', c', by rw [hx, ya_up_ne _ _ e]; exact g1, g2, by rw [hy, ya_up_ne _ _ e]; exact g3, ?_⟩
    rw [ya_up_ne _ _ e, ya_up_ne _ _ (by omega)]
    exact g4
/-- a place and a job are added -/
theorem xCMS_add {o : Nat} {c : Int} {j : xJ} (h : xCMS t0 s0 sl H st s t K pth js ms B) (ho : o < K) (h1 : (∀ x : Nat, ¬ (180 ≤ x ∧ x ≤ 181) → t1 x = t x) ∧ t1 180 = va_up (t 180) K (o : Int) ∧ t1 181 = va_up (t 181) K (xcv c)) (h2 : xPUSH t1 t2 js.length j.1.1 j.1.2.1 j.1.2.2.1 (j.1.2.2.2 : Int)) (hj : xJV (t0 166) sl H st (K + 1) (va_up pth K (pth o ++ [c])) j) (hB : B = j.2.2.1 + B') (hh : js.length + 1 + 50 * j.2.2.2 ≤ 256) : xCMS t0 s0 sl H st (va_up (va_up s 19 ((K : Int) + 1)) 22 ((js.length : Int) + 1)) t2 (K + 1) (va_up pth K (pth o ++ [c])) (js ++ [j]) ms B' := by
  obtain ⟨⟨a1, a1'⟩, a2, a3, a4, a5, a6, a7, a8, a9, a10⟩ := h
  obtain ⟨b1, b2, b3⟩ := h1
  obtain ⟨c1, c2, c3, c4, c5⟩ := h2
  have hl : (js ++ [j]).length = js.length + 1 := by rw [List.length_append, List.length_singleton]
  refine ⟨⟨?_, by omega⟩, ?_, xSPT_up a3 a1' ho (by rw [c1 180 (by omega)]; exact b2) (by rw [c1 181 (by omega)]; exact b3), fun i k hi => ?_, fun k hk => ?_, ?_, fun x hx hy => ?_, fun x e1 e2 e3 e4 => ?_, ?_, fun i k hi => ?_⟩
  · rw [ya_up_ne _ _ (by omega), ya_up_same]; omega
  · rw [ya_up_same, hl]; omega
  · by_cases e : i = js.length
    · rw [e, List.getElem?_append_right (Nat.le_refl _), Nat.sub_self] at hi
      cases hi
      rw [e, c2, c3, c4, c5]
      exact ⟨ya_up_same _ _ _, ya_up_same _ _ _, ya_up_same _ _ _, ya_up_same _ _ _⟩
    · have hi2 : i < js.length := by
        have := (List.getElem?_eq_some_iff.mp hi).1
        omega
      rw [List.getElem?_append_left hi2] at hi
      rw [c2, c3, c4, c5, ya_up_ne _ _ e, ya_up_ne _ _ e, ya_up_ne _ _ e, ya_up_ne _ _ e, b1 182 (by omega), b1 183 (by omega), b1 184 (by omega), b1 185 (by omega)]
      exact a4 i k hi
  · rcases List.mem_append.mp hk with hk | hk
    · exact xJV_up (a5 k hk)
    · rw [List.mem_singleton] at hk
      rw [hk]
      exact hj
  · obtain ⟨⟨g1, g2⟩, g3⟩ := a6
    have r5 : t2 175 = t 175 := by rw [c1 175 (by omega), b1 175 (by omega)]
    have r6 : t2 176 = t 176 := by rw [c1 176 (by omega), b1 176 (by omega)]
    have r7 : t2 177 = t 177 := by rw [c1 177 (by omega), b1 177 (by omega)]
    refine ⟨⟨by rw [ya_up_ne _ _ (by omega), ya_up_ne _ _ (by omega)]; exact g1, fun k e hk he => ?_⟩, by rw [r6]; exact g3⟩
    unfold xRW
    rw [r5, r6, r7]
    exact g2 k e hk he
  · rw [c1 x (by omega), b1 x (by omega)]; exact a7 x hx hy
  · rw [ya_up_ne _ _ e3, ya_up_ne _ _ e2]; exact a8 x e1 e2 e3 e4
  · rw [xcost_app, hl]; omega
  · by_cases e : i = js.length
    · rw [e, List.getElem?_append_right (Nat.le_refl _), Nat.sub_self] at hi
      cases hi
      omega
    · have hi2 : i < js.length := by
        have := (List.getElem?_eq_some_iff.mp hi).1
        omega
      rw [List.getElem?_append_left hi2] at hi
      exact a10 i k hi
/-- helpers' rows and the laid place may change -/
theorem xCMS_hm {s' : Nat → Int} (h : xCMS t0 s0 sl H st s t K pth js ms B) (hs : ∀ x : Nat, ¬ x = 27 → s' x = s x) (ht : ∀ x : Nat, ¬ (186 ≤ x ∧ x ≤ 192) → t1 x = t x) : xCMS t0 s0 sl H st s' t1 K pth js ms B := by
  obtain ⟨⟨a1, a1'⟩, a2, a3, a4, a5, a6, a7, a8, a9, a10⟩ := h
  refine ⟨⟨by rw [hs 19 (by omega)]; exact a1, a1'⟩, by rw [hs 22 (by omega)]; exact a2, ⟨a3.1, by rw [ht 180 (by omega), ht 181 (by omega)]; exact a3.2⟩, fun i j hi => by rw [ht 182 (by omega), ht 183 (by omega), ht 184 (by omega), ht 185 (by omega)]; exact a4 i j hi, a5, ?_, fun x hx hy => by rw [ht x (by omega)]; exact a7 x hx hy, fun x e1 e2 e3 e4 => by rw [hs x e4]; exact a8 x e1 e2 e3 e4, a9, a10⟩
  obtain ⟨⟨g1, g2⟩, g3⟩ := a6
  refine ⟨⟨by rw [hs 13 (by omega)]; exact g1, fun k e hk he => ?_⟩, by rw [ht 176 (by omega)]; exact g3⟩
  unfold xRW
  rw [ht 175 (by omega), ht 176 (by omega), ht 177 (by omega)]
  exact g2 k e hk he
/-- something is listed -/
theorem xCMS_ls {s' : Nat → Int} {ms' : List (Int × List Int)} (h : xCMS t0 s0 sl H st s t K pth js ms B) (hl : xLS s' t1 ms') (hs : ∀ x : Nat, ¬ x = 13 → s' x = s x) (ht : ∀ x : Nat, ¬ (175 ≤ x ∧ x ≤ 177) → t1 x = t x) : xCMS t0 s0 sl H st s' t1 K pth js ms' B := by
  obtain ⟨⟨a1, a1'⟩, a2, a3, a4, a5, a6, a7, a8, a9, a10⟩ := h
  exact ⟨⟨by rw [hs 19 (by omega)]; exact a1, a1'⟩, by rw [hs 22 (by omega)]; exact a2, ⟨a3.1, by rw [ht 180 (by omega), ht 181 (by omega)]; exact a3.2⟩, fun i j hi => by rw [ht 182 (by omega), ht 183 (by omega), ht 184 (by omega), ht 185 (by omega)]; exact a4 i j hi, a5, hl, fun x hx hy => by rw [ht x (by omega)]; exact a7 x hx hy, fun x e1 e2 e3 e4 => by rw [hs x e1]; exact a8 x e1 e2 e3 e4, a9, a10⟩
end CN
/-! The reference: elements -/
def xmk (jw je ja : Int) (p : Nat) (es : List (Int × List Int)) (c lv : Nat) : xJ := ((jw, je, ja, p), es, c, lv)
theorem xpl0_app {l : List Int} {c : Int} (h : xpl0 l) (hc : (0 ≤ c ∧ c ≤ 99) ∨ (1001 ≤ c ∧ c ≤ 1127)) : xpl0 (l ++ [c]) := by
  intro x hx
  rcases List.mem_append.mp hx with hx | hx
  · exact h x hx
  · rw [List.mem_singleton] at hx
    rw [hx]
    exact hc
section CH
variable {E : Nat → Int} {sl : List Int → Bool} {H : (n : Nat) → xv (n + 1) → xv (n + 1) → List Int → Nat} {st : Int} {K : Nat} {pth : Nat → List Int}
theorem xJV_ch {m x1 x2 z1 z2 pe pa ze za : Nat} {p q : xv m} {l : List Int} {c : Int} (h1 : xV E m x1 p z1) (h2 : xV E m x2 q z2) (b1 : pe ≤ x1 ∧ z1 ≤ ze) (b2 : pa ≤ x2 ∧ z2 ≤ za) (hze : ze ≤ pe + 100 ∧ ze < 3711) (hza : za ≤ pa + 100 ∧ za < 3711) (hdk : xdk m p) (hl : l.length + m = 5 ∧ xpl0 l) (hc : (0 ≤ c ∧ c ≤ 99) ∨ (1001 ≤ c ∧ c ≤ 1127)) : 0 < m ∧ xJV E sl H st (K + 1) (va_up pth K (l ++ [c])) (xmk 0 (x1 : Int) (x2 : Int) K (xcm sl H st m p q (l ++ [c])) (xjc H st m p q (l ++ [c])) (m - 1)) := by
  cases m with
  | zero => exact absurd h1 id
  | succ m =>
    refine ⟨by omega, ?_⟩
    have hlen : (l ++ [c]).length = l.length + 1 := by rw [List.length_append, List.length_singleton]
    show K < K + 1 ∧ (((va_up pth K (l ++ [c])) K).length ≤ 5 ∧ xpl0 ((va_up pth K (l ++ [c])) K)) ∧ ((((0 : Int) = 3 ∨ (0 : Int) = 4) ∧ _) ∨ ((0 : Int) = 0 ∧ ∃ (m' pe pa ze za : Nat) (tt uu : xv (m' + 1)), ((x1 : Int) = (pe : Int) ∧ (x2 : Int) = (pa : Int)) ∧ (xV E (m' + 1) pe tt ze ∧ xV E (m' + 1) pa uu za) ∧ ((ze ≤ pe + 100 ∧ ze < 3711) ∧ za ≤ pa + 100 ∧ za < 3711) ∧ xdk (m' + 1) tt ∧ xcm sl H st (m + 1) p q (l ++ [c]) = xcm sl H st (m' + 1) tt uu ((va_up pth K (l ++ [c])) K) ∧ xjc H st (m + 1) p q (l ++ [c]) = xjc H st (m' + 1) tt uu ((va_up pth K (l ++ [c])) K) ∧ (m + 1 - 1 = m' ∧ ((va_up pth K (l ++ [c])) K).length + m' = 5)))
    rw [ya_up_same]
    exact ⟨by omega, ⟨by omega, xpl0_app hl.2 hc⟩, Or.inr ⟨rfl, m, x1, x2, z1, z2, p, q, ⟨rfl, rfl⟩, ⟨h1, h2⟩, ⟨by omega, by omega⟩, hdk, rfl, rfl, by omega, by omega⟩⟩
theorem xjc_pos {m : Nat} {p q : xv m} {l : List Int} : 1 ≤ xjc H st m p q l := by
  cases m with
  | zero => exact Nat.le_refl _
  | succ m => rw [xjc]; omega
theorem xJV_cost {j : xJ} (h : xJV E sl H st K pth j) : 1 ≤ j.2.2.1 := by
  obtain ⟨-, -, h | h⟩ := h
  · omega
  · obtain ⟨-, m, pe, pa, ze, za, tt, uu, -, -, -, -, -, h, -⟩ := h
    rw [h]
    exact xjc_pos
theorem xcost_ge : ∀ js : List xJ, (∀ j ∈ js, xJV E sl H st K pth j) → js.length ≤ xcost js := by
  intro js
  induction js with
  | nil => intro _; exact Nat.le_refl _
  | cons a js ih =>
    intro h
    have h1 := ih (fun j hj => h j (List.mem_cons_of_mem _ hj))
    have h2 := xJV_cost (h a List.mem_cons_self)
    show js.length + 1 ≤ ((a :: js).map fun j => j.2.2.1).sum
    rw [List.map_cons, List.sum_cons]
    show _ ≤ a.2.2.1 + xcost js
    omega
end CH
section CL
variable {t0 t : Nat → Nat → Int} {s0 s : Nat → Int} {sl : List Int → Bool} {H : (n : Nat) → xv (n + 1) → xv (n + 1) → List Int → Nat} {st : Int} {K : Nat} {pth : Nat → List Int} {js : List xJ} {ms : List (Int × List Int)} {B B' : Nat}
theorem xCMS_K (h : xCMS t0 s0 sl H st s t K pth js ms B) : K + B ≤ 768 := by
  have := xcost_ge js h.2.2.2.2.1
  have := h.2.2.2.2.2.2.2.2.1
  omega
theorem xCMS_le (h : xCMS t0 s0 sl H st s t K pth js ms B) (hb : B' ≤ B) : xCMS t0 s0 sl H st s t K pth js ms B' := by
  obtain ⟨a1, a2, a3, a4, a5, a6, a7, a8, a9, a10⟩ := h
  exact ⟨a1, a2, a3, a4, a5, a6, a7, a8, by omega, a10⟩
theorem xCMS_166 (h : xCMS t0 s0 sl H st s t K pth js ms B) {x : Nat} (hx : 166 ≤ x ∧ x ≤ 174) : t x = t0 x := h.2.2.2.2.2.2.1 x hx.1 hx.2
end CL
section JK
variable {α : Type}
/-- which expected element stands against the element k -/
def xix (n : Nat) (lo : Bool) (k : Nat) : Nat := if lo = true ∧ n ≤ k then n - 1 else k
def xjk (g : α → α → List Int → Nat) (ps : List (Int × α)) (lo : Bool) (l : List Int) (us : List (Int × α)) : Nat → Nat
  | 0 => 0
  | k + 1 => xjk g ps lo l us k + (match us[k]? with
    | none => 0
    | some q => match ps[xix ps.length lo k]? with
      | none => 0
      | some p => g p.2 q.2 (l ++ [(k : Int)]))
variable {g : α → α → List Int → Nat} {f : α → α → List Int → List (Int × List Int)} {ps us : List (Int × α)} {lo : Bool} {l : List Int}
theorem xjk_step {k : Nat} {p q : Int × α} (h1 : us[k]? = some q) (h2 : ps[xix ps.length lo k]? = some p) : xjk g ps lo l us (k + 1) = xjk g ps lo l us k + g p.2 q.2 (l ++ [(k : Int)]) := by
  rw [xjk, h1]
  show _ + (match ps[xix ps.length lo k]? with
      | none => 0
      | some p => g p.2 q.2 (l ++ [(k : Int)])) = _
  rw [h2]
theorem xel_step {k : Nat} {p q : Int × α} (h1 : us[k]? = some q) (h2 : ps[xix ps.length lo k]? = some p) : xel f ps lo l (us.drop k) k = f p.2 q.2 (l ++ [(k : Int)]) ++ xel f ps lo l (us.drop (k + 1)) (k + 1) := by
  obtain ⟨hk, hq⟩ := List.getElem?_eq_some_iff.mp h1
  rw [List.drop_eq_getElem_cons hk, hq, xel]
  have h3 : ps[(if lo = true ∧ ps.length ≤ k then ps.length - 1 else k)]? = some p := h2
  rw [h3]
theorem xjk_sum : ∀ k : Nat, k ≤ us.length → xjk g ps lo l us k + xjE g ps lo l (us.drop k) k = xjE g ps lo l us 0 := by
  intro k
  induction k with
  | zero => intro _; rw [List.drop_zero, xjk, Nat.zero_add]
  | succ k ih =>
    intro hk
    rw [← ih (by omega), List.drop_eq_getElem_cons (show k < us.length by omega), xjE, xjk, List.getElem?_eq_getElem (show k < us.length by omega)]
    show _ + (match ps[xix ps.length lo k]? with
      | none => 0
      | some p => g p.2 us[k].2 (l ++ [(k : Int)])) + _ = _ + ((match ps[xix ps.length lo k]? with
      | none => 0
      | some p => g p.2 us[k].2 (l ++ [(k : Int)])) + _)
    omega
theorem xjk_le {k : Nat} (hk : k ≤ us.length) : xjk g ps lo l us k ≤ xjE g ps lo l us 0 := by
  have := xjk_sum (g := g) (ps := ps) (lo := lo) (l := l) k hk
  omega
theorem xel_nil : ∀ (vs : List (Int × α)) (k : Nat), (∀ i : Nat, k ≤ i → ps[xix ps.length lo i]? = none) → xel f ps lo l vs k = [] := by
  intro vs
  induction vs with
  | nil => intro k _; rfl
  | cons q vs ih =>
    intro k h
    rw [xel]
    have h3 : ps[(if lo = true ∧ ps.length ≤ k then ps.length - 1 else k)]? = none := h k (Nat.le_refl _)
    rw [h3, ih (k + 1) (fun i hi => h i (by omega))]
    rfl
end JK
section EL
variable {w : Value} {d : Nat} {A : xb_H} {t0 : Nat → Nat → Int} {s0 : Nat → Int} {sl : List Int → Bool} {H : (n : Nat) → xv (n + 1) → xv (n + 1) → List Int → Nat} {st : Int} {ms : List (Int × List Int)} {m pe pa ze za po : Nat} {tt uu : xv (m + 1)} {l : List Int} {lo : Bool} {X : List (Int × List Int)} {hb C0 B0 n : Nat} {df n8 b1 : Int} {Q : xb_R → xb_H → Prop}
theorem mo_252l (hA : 194 ≤ A.1) (hE : ∀ j : Nat, 0 ≤ t0 166 j ∧ t0 166 j ≤ 127) (hm : m ≤ 5) (he : xV (t0 166) (m + 1) pe tt ze) (hu : xV (t0 166) (m + 1) pa uu za) (hze : ze ≤ pe + 100 ∧ ze < 3711) (hza : za ≤ pa + 100 ∧ za < 3711) (hdk : xdk (m + 1) tt) (hl : l.length + m = 5 ∧ xpl0 l) (h4 : xv_k tt = 4 ∧ xv_k uu = 4) (hn : n ≤ (xv_p uu).length ∧ (n = 0 ∨ 0 < (xv_p tt).length) ∧ (lo = true ∨ n ≤ (xv_p tt).length)) (hh : hb + 1 + 50 * m ≤ 256) : ∀ (k : Nat) (s : Nat → Int) (t : Nat → Nat → Int) (K : Nat) (pth : Nat → List Int) (js : List xJ), k ≤ n → xCMS t0 s0 sl H st s t K pth js ms (xjk (xjc H st m) (xv_p tt) lo l (xv_p uu) k + B0) → (po < K ∧ pth po = l) → js.length + k ≤ hb + n → xcost js + xjk (xjc H st m) (xv_p tt) lo l (xv_p uu) k = C0 → xout js = xel (xcm sl H st m) (xv_p tt) lo l ((xv_p uu).drop k) k ++ X → (∀ (s : Nat → Int) (t : Nat → Nat → Int) (K : Nat) (pth : Nat → List Int) (js : List xJ), xCMS t0 s0 sl H st s t K pth js ms B0 → (po < K ∧ pth po = l) → xcost js = C0 → xout js = xel (xcm sl H st m) (xv_p tt) lo l (xv_p uu) 0 ++ X → xr_ok (xt_G w) (d + 1 + 1 + 1) 252 140 [(0, .ref 165), (1, .int (Int32.ofInt b1)), (2, .int (Int32.ofInt (pe : Int))), (3, .int (Int32.ofInt (pa : Int))), (4, .int (Int32.ofInt (po : Int))), (5, .int (Int32.ofInt ((xv_p tt).length : Int))), (6, .int (Int32.ofInt ((xv_p uu).length : Int))), (7, .int (Int32.ofInt df)), (8, .int (Int32.ofInt n8))] [] (ym A s t) Q) → xr_ok (xt_G w) (d + 1 + 1 + 1) 252 82 [(9, .int (Int32.ofInt ((k : Int) - 1))), (0, .ref 165), (1, .int (Int32.ofInt b1)), (2, .int (Int32.ofInt (pe : Int))), (3, .int (Int32.ofInt (pa : Int))), (4, .int (Int32.ofInt (po : Int))), (5, .int (Int32.ofInt ((xv_p tt).length : Int))), (6, .int (Int32.ofInt ((xv_p uu).length : Int))), (7, .int (Int32.ofInt df)), (8, .int (Int32.ofInt n8))] [] (ym A s t) Q := by
  intro k
  induction k using Nat.strongRecOn with
  | _ k ih =>
    intro s t K pth js hk hC hpo hhb hC0 hX hQ
    have hl49 := (xV_16 _ _ _ _ hu hza.1).1.2
    refine xr_steps (pc' := 84) (L' := [(9, .int (Int32.ofInt ((k : Int) - 1))), (0, .ref 165), (1, .int (Int32.ofInt b1)), (2, .int (Int32.ofInt (pe : Int))), (3, .int (Int32.ofInt (pa : Int))), (4, .int (Int32.ofInt (po : Int))), (5, .int (Int32.ofInt ((xv_p tt).length : Int))), (6, .int (Int32.ofInt ((xv_p uu).length : Int))), (7, .int (Int32.ofInt df)), (8, .int (Int32.ofInt n8))]) (st' := [.int (Int32.ofInt ((k : Int) - 1))]) 1 rfl ?_
    refine xr_if_lt rfl (by omega) (fun z31 => ?_) (fun z31 => ?_)
    · refine xr_loc (L := [(0, .ref 165), (1, .int (Int32.ofInt b1)), (2, .int (Int32.ofInt (pe : Int))), (3, .int (Int32.ofInt (pa : Int))), (4, .int (Int32.ofInt (po : Int))), (5, .int (Int32.ofInt ((xv_p tt).length : Int))), (6, .int (Int32.ofInt ((xv_p uu).length : Int))), (7, .int (Int32.ofInt df)), (8, .int (Int32.ofInt n8))]) (show [0, 1, 2, 3, 4, 5, 6, 7, 8].Nodup by decide) ⟨rfl, rfl, rfl, rfl, rfl, rfl, rfl, rfl, rfl, trivial⟩ ?_
      obtain rfl : k = 0 := by omega
      rw [List.drop_zero] at hX
      rw [xjk, Nat.zero_add] at hC
      rw [xjk, Nat.add_zero] at hC0
      exact hQ s t K pth js hC hpo hC0 hX
    · obtain ⟨j, rfl⟩ : ∃ j, k = j + 1 := ⟨k - 1, by omega⟩
      rw [show ((j + 1 : Nat) : Int) - 1 = (j : Int) by omega]
      obtain ⟨p2, hp2⟩ : ∃ p2, (xv_p uu)[j]? = some p2 := ⟨_, List.getElem?_eq_getElem (show j < (xv_p uu).length by omega)⟩
      have hix : xix (xv_p tt).length lo j < (xv_p tt).length ∧ (xix (xv_p tt).length lo j = if j < (xv_p tt).length then j else (xv_p tt).length - 1) := by
        unfold xix
        by_cases hj : j < (xv_p tt).length
        · rw [if_pos hj, if_neg (by omega)]; omega
        · rw [if_neg hj, if_pos ⟨hn.2.2.resolve_right (by omega), by omega⟩]
          have := hn.2.1
          omega
      obtain ⟨ix, hx⟩ : ∃ ix, xix (xv_p tt).length lo j = ix := ⟨_, rfl⟩
      rw [hx] at hix
      obtain ⟨p1, hp1⟩ : ∃ p1, (xv_p tt)[ix]? = some p1 := ⟨_, List.getElem?_eq_getElem hix.1⟩
      rw [← hx] at hp1
      have est := xjk_step (g := xjc H st m) (l := l) hp2 hp1
      have els := xel_step (f := xcm sl H st m) (l := l) hp2 hp1
      rw [hx] at hp1
      have hcp := xjc_pos (H := H) (st := st) (p := p1.2) (q := p2.2) (l := l ++ [(j : Int)])
      have hKb := xCMS_K hC
      have e0 := xCMS_166 hC (x := 166) (by omega)
      have hlt : (xv_p tt).length ≤ 49 ∧ (xv_p uu).length ≤ 49 := ⟨(xV_16 _ _ _ _ he hze.1).1.2, (xV_16 _ _ _ _ hu hza.1).1.2⟩
      refine xr_steps (pc' := 93) (L' := [(9, .int (Int32.ofInt (j : Int))), (0, .ref 165), (1, .int (Int32.ofInt b1)), (2, .int (Int32.ofInt (pe : Int))), (3, .int (Int32.ofInt (pa : Int))), (4, .int (Int32.ofInt (po : Int))), (5, .int (Int32.ofInt ((xv_p tt).length : Int))), (6, .int (Int32.ofInt ((xv_p uu).length : Int))), (7, .int (Int32.ofInt df)), (8, .int (Int32.ofInt n8))]) (st' := [.int (Int32.ofInt (j : Int)), .int (Int32.ofInt (-1)), .int (Int32.ofInt (po : Int)), .ref 165]) 4 rfl ?_
      refine xr_isub rfl ?_
      refine xr_call (q := (.invokevirtual 237, 3, 253, 3)) (av := [.ref 165, .int (Int32.ofInt (po : Int)), .int (Int32.ofInt ((-1) - (j : Int)))]) (rest := []) rfl rfl (by decide) rfl (ym_rcv hA rfl) (Nat.le_of_ble_eq_true rfl) (mo_253 (K := K) hA hC.1.1 (by omega)) ?_
      rintro _ _ ⟨rfl, T1, eA, y1, y2, y3⟩
      rw [eA]
      clear eA
      have e166 : T1 166 = t0 166 := by rw [y1 166 (by omega)]; exact e0
      have hE1 : ∀ j : Nat, 0 ≤ T1 166 j ∧ T1 166 j ≤ 127 := by rw [e166]; exact hE
      have he1 : xV (T1 166) (m + 1) pe tt ze := by rw [e166]; exact he
      have hu1 : xV (T1 166) (m + 1) pa uu za := by rw [e166]; exact hu
      refine xr_steps (pc' := 107) (L' := [(10, .int (Int32.ofInt (K : Int))), (9, .int (Int32.ofInt (j : Int))), (0, .ref 165), (1, .int (Int32.ofInt b1)), (2, .int (Int32.ofInt (pe : Int))), (3, .int (Int32.ofInt (pa : Int))), (4, .int (Int32.ofInt (po : Int))), (5, .int (Int32.ofInt ((xv_p tt).length : Int))), (6, .int (Int32.ofInt ((xv_p uu).length : Int))), (7, .int (Int32.ofInt df)), (8, .int (Int32.ofInt n8))]) (st' := [.int (Int32.ofInt ((xv_p tt).length : Int)), .int (Int32.ofInt (j : Int)), .int (Int32.ofInt (pe : Int)), .ref 165, .int (Int32.ofInt 0), .ref 165]) 7 rfl ?_
      refine xr_icmp_ge rfl (by omega) (by omega) (fun z32 => ?_) (fun z32 => ?_)
      · refine xr_steps (pc' := 118) (L' := [(10, .int (Int32.ofInt (K : Int))), (9, .int (Int32.ofInt (j : Int))), (0, .ref 165), (1, .int (Int32.ofInt b1)), (2, .int (Int32.ofInt (pe : Int))), (3, .int (Int32.ofInt (pa : Int))), (4, .int (Int32.ofInt (po : Int))), (5, .int (Int32.ofInt ((xv_p tt).length : Int))), (6, .int (Int32.ofInt ((xv_p uu).length : Int))), (7, .int (Int32.ofInt df)), (8, .int (Int32.ofInt n8))]) (st' := [.int (Int32.ofInt 1), .int (Int32.ofInt ((xv_p tt).length : Int)), .int (Int32.ofInt (pe : Int)), .ref 165, .int (Int32.ofInt 0), .ref 165]) 2 rfl ?_
        refine xr_isub rfl ?_
        rw [show ((xv_p tt).length : Int) - 1 = ((ix : Nat) : Int) by rw [hix.2]; first | (rw [if_pos (by omega)]; done) | (rw [if_neg (by omega)]; omega)]
        refine xr_call (q := (.invokevirtual 131, 3, 222, 3)) (av := [.ref 165, .int (Int32.ofInt (pe : Int)), .int (Int32.ofInt ((ix : Nat) : Int))]) (rest := [.int (Int32.ofInt 0), .ref 165]) rfl rfl (by decide) rfl (ym_rcv hA rfl) (Nat.le_of_ble_eq_true rfl) (mo_222 (u := tt) hA hE1 hm (show ix ≤ 1000 by omega) he1 (by omega) hze.2) ?_
        rintro _ _ ⟨r1, ⟨rfl, eA⟩, hr1⟩
        rw [eA]
        clear eA
        obtain ⟨x1, rfl, p1b, z1, u1, u12, -, u14, u15⟩ : ∃ x : Nat, r1 = x ∧ xAt (T1 166) (xV (T1 166) m) (if xv_k tt = 5 then 4 else 0) (xv_p tt) ix _ _ x := hr1.resolve_right (fun h => by omega)
        obtain rfl : p1 = p1b := by rw [hp1] at u1; exact Option.some.inj u1
        rw [if_neg (by omega), Nat.add_zero, e166] at u12
        refine xr_steps (pc' := 126) (L' := [(10, .int (Int32.ofInt (K : Int))), (9, .int (Int32.ofInt (j : Int))), (0, .ref 165), (1, .int (Int32.ofInt b1)), (2, .int (Int32.ofInt (pe : Int))), (3, .int (Int32.ofInt (pa : Int))), (4, .int (Int32.ofInt (po : Int))), (5, .int (Int32.ofInt ((xv_p tt).length : Int))), (6, .int (Int32.ofInt ((xv_p uu).length : Int))), (7, .int (Int32.ofInt df)), (8, .int (Int32.ofInt n8))]) (st' := [.int (Int32.ofInt (j : Int)), .int (Int32.ofInt (pa : Int)), .ref 165, .int (Int32.ofInt (x1 : Int)), .int (Int32.ofInt 0), .ref 165]) 3 rfl ?_
        refine xr_call (q := (.invokevirtual 131, 3, 222, 3)) (av := [.ref 165, .int (Int32.ofInt (pa : Int)), .int (Int32.ofInt (j : Int))]) (rest := [.int (Int32.ofInt (x1 : Int)), .int (Int32.ofInt 0), .ref 165]) rfl rfl (by decide) rfl (ym_rcv hA rfl) (Nat.le_of_ble_eq_true rfl) (mo_222 (u := uu) hA hE1 hm (show j ≤ 1000 by omega) hu1 (by omega) hza.2) ?_
        rintro _ _ ⟨r2, ⟨rfl, eA⟩, hr2⟩
        rw [eA]
        clear eA
        obtain ⟨x2, rfl, p2b, z2, u1, u22, -, u24, u25⟩ : ∃ x : Nat, r2 = x ∧ xAt (T1 166) (xV (T1 166) m) (if xv_k uu = 5 then 4 else 0) (xv_p uu) j _ _ x := hr2.resolve_right (fun h => by omega)
        obtain rfl : p2 = p2b := by rw [hp2] at u1; exact Option.some.inj u1
        rw [if_neg (by omega), Nat.add_zero, e166] at u22
        refine xr_steps (pc' := 131) (L' := [(10, .int (Int32.ofInt (K : Int))), (9, .int (Int32.ofInt (j : Int))), (0, .ref 165), (1, .int (Int32.ofInt b1)), (2, .int (Int32.ofInt (pe : Int))), (3, .int (Int32.ofInt (pa : Int))), (4, .int (Int32.ofInt (po : Int))), (5, .int (Int32.ofInt ((xv_p tt).length : Int))), (6, .int (Int32.ofInt ((xv_p uu).length : Int))), (7, .int (Int32.ofInt df)), (8, .int (Int32.ofInt n8))]) (st' := [.int (Int32.ofInt (K : Int)), .int (Int32.ofInt (x2 : Int)), .int (Int32.ofInt (x1 : Int)), .int (Int32.ofInt 0), .ref 165]) 1 rfl ?_
        have hch := xJV_ch (sl := sl) (H := H) (st := st) (K := K) (pth := pth) (c := (j : Int)) u12 u22 (pe := pe) (ze := ze) (pa := pa) (za := za) (by omega) (by omega) hze hza (hdk.2 p1 (List.mem_of_getElem? hp1)) hl (by omega)
        have hm0 := hch.1
        refine xr_call (q := (.invokevirtual 240, 3, 241, 5)) (av := [.ref 165, .int (Int32.ofInt 0), .int (Int32.ofInt (x1 : Int)), .int (Int32.ofInt (x2 : Int)), .int (Int32.ofInt (K : Int))]) (rest := []) rfl rfl (by decide) rfl (ym_rcv hA rfl) (Nat.le_of_ble_eq_true rfl) (mo_241 (P := js.length) hA (by rw [ya_up_ne _ _ (by omega)]; exact hC.2.1) (by omega)) ?_
        rintro _ _ ⟨rfl, T2, eA, y4⟩
        rw [eA]
        clear eA
        refine xr_iincn (L' := [(9, .int (Int32.ofInt ((j : Int) - 1))), (10, .int (Int32.ofInt (K : Int))), (0, .ref 165), (1, .int (Int32.ofInt b1)), (2, .int (Int32.ofInt (pe : Int))), (3, .int (Int32.ofInt (pa : Int))), (4, .int (Int32.ofInt (po : Int))), (5, .int (Int32.ofInt ((xv_p tt).length : Int))), (6, .int (Int32.ofInt ((xv_p uu).length : Int))), (7, .int (Int32.ofInt df)), (8, .int (Int32.ofInt n8))]) rfl rfl rfl ?_
        refine xr_steps (pc' := 82) (L' := [(9, .int (Int32.ofInt ((j : Int) - 1))), (10, .int (Int32.ofInt (K : Int))), (0, .ref 165), (1, .int (Int32.ofInt b1)), (2, .int (Int32.ofInt (pe : Int))), (3, .int (Int32.ofInt (pa : Int))), (4, .int (Int32.ofInt (po : Int))), (5, .int (Int32.ofInt ((xv_p tt).length : Int))), (6, .int (Int32.ofInt ((xv_p uu).length : Int))), (7, .int (Int32.ofInt df)), (8, .int (Int32.ofInt n8))]) (st' := []) 1 rfl ?_
        refine xr_loc (L := [(9, .int (Int32.ofInt ((j : Int) - 1))), (0, .ref 165), (1, .int (Int32.ofInt b1)), (2, .int (Int32.ofInt (pe : Int))), (3, .int (Int32.ofInt (pa : Int))), (4, .int (Int32.ofInt (po : Int))), (5, .int (Int32.ofInt ((xv_p tt).length : Int))), (6, .int (Int32.ofInt ((xv_p uu).length : Int))), (7, .int (Int32.ofInt df)), (8, .int (Int32.ofInt n8))]) (show [9, 0, 1, 2, 3, 4, 5, 6, 7, 8].Nodup by decide) ⟨rfl, rfl, rfl, rfl, rfl, rfl, rfl, rfl, rfl, rfl, trivial⟩ ?_
        have hadd := xCMS_add (o := po) (c := (j : Int)) (j := (xmk 0 (x1 : Int) (x2 : Int) K (xcm sl H st m p1.2 p2.2 (l ++ [(j : Int)])) (xjc H st m p1.2 p2.2 (l ++ [(j : Int)])) (m - 1))) (B' := xjk (xjc H st m) (xv_p tt) lo l (xv_p uu) j + B0) hC hpo.1 ⟨y1, y2, by rw [show xcv (j : Int) = -1 - (j : Int) from if_neg (by omega)]; exact y3⟩ y4 (by rw [hpo.2]; exact hch.2) (by rw [est]; show _ = xjc H st m p1.2 p2.2 (l ++ [(j : Int)]) + _; omega) (by show js.length + 1 + 50 * (m - 1) ≤ 256; have := hch.1; omega)
        rw [hpo.2] at hadd
        refine ih j (by omega) _ T2 (K + 1) _ (js ++ [(xmk 0 (x1 : Int) (x2 : Int) K (xcm sl H st m p1.2 p2.2 (l ++ [(j : Int)])) (xjc H st m p1.2 p2.2 (l ++ [(j : Int)])) (m - 1))]) (by omega) hadd ⟨by omega, ?_⟩ ?_ ?_ ?_ hQ
        · rw [ya_up_ne _ _ (by omega)]; exact hpo.2
        · rw [List.length_append, List.length_singleton]; omega
        · rw [xcost_app]; show _ + xjc H st m p1.2 p2.2 (l ++ [(j : Int)]) + _ = _; omega
        · rw [xout_app, els, hX, List.append_assoc]; rfl
      · refine xr_steps (pc' := 119) (L' := [(10, .int (Int32.ofInt (K : Int))), (9, .int (Int32.ofInt (j : Int))), (0, .ref 165), (1, .int (Int32.ofInt b1)), (2, .int (Int32.ofInt (pe : Int))), (3, .int (Int32.ofInt (pa : Int))), (4, .int (Int32.ofInt (po : Int))), (5, .int (Int32.ofInt ((xv_p tt).length : Int))), (6, .int (Int32.ofInt ((xv_p uu).length : Int))), (7, .int (Int32.ofInt df)), (8, .int (Int32.ofInt n8))]) (st' := [.int (Int32.ofInt (j : Int)), .int (Int32.ofInt (pe : Int)), .ref 165, .int (Int32.ofInt 0), .ref 165]) 2 rfl ?_
        have hixj : ix = j := by rw [hix.2, if_pos (by omega)]
        rw [hixj] at hp1
        refine xr_call (q := (.invokevirtual 131, 3, 222, 3)) (av := [.ref 165, .int (Int32.ofInt (pe : Int)), .int (Int32.ofInt (j : Int))]) (rest := [.int (Int32.ofInt 0), .ref 165]) rfl rfl (by decide) rfl (ym_rcv hA rfl) (Nat.le_of_ble_eq_true rfl) (mo_222 (u := tt) hA hE1 hm (show j ≤ 1000 by omega) he1 (by omega) hze.2) ?_
        rintro _ _ ⟨r1, ⟨rfl, eA⟩, hr1⟩
        rw [eA]
        clear eA
        obtain ⟨x1, rfl, p1b, z1, u1, u12, -, u14, u15⟩ : ∃ x : Nat, r1 = x ∧ xAt (T1 166) (xV (T1 166) m) (if xv_k tt = 5 then 4 else 0) (xv_p tt) j _ _ x := hr1.resolve_right (fun h => by omega)
        obtain rfl : p1 = p1b := by rw [hp1] at u1; exact Option.some.inj u1
        rw [if_neg (by omega), Nat.add_zero, e166] at u12
        refine xr_steps (pc' := 126) (L' := [(10, .int (Int32.ofInt (K : Int))), (9, .int (Int32.ofInt (j : Int))), (0, .ref 165), (1, .int (Int32.ofInt b1)), (2, .int (Int32.ofInt (pe : Int))), (3, .int (Int32.ofInt (pa : Int))), (4, .int (Int32.ofInt (po : Int))), (5, .int (Int32.ofInt ((xv_p tt).length : Int))), (6, .int (Int32.ofInt ((xv_p uu).length : Int))), (7, .int (Int32.ofInt df)), (8, .int (Int32.ofInt n8))]) (st' := [.int (Int32.ofInt (j : Int)), .int (Int32.ofInt (pa : Int)), .ref 165, .int (Int32.ofInt (x1 : Int)), .int (Int32.ofInt 0), .ref 165]) 3 rfl ?_
        refine xr_call (q := (.invokevirtual 131, 3, 222, 3)) (av := [.ref 165, .int (Int32.ofInt (pa : Int)), .int (Int32.ofInt (j : Int))]) (rest := [.int (Int32.ofInt (x1 : Int)), .int (Int32.ofInt 0), .ref 165]) rfl rfl (by decide) rfl (ym_rcv hA rfl) (Nat.le_of_ble_eq_true rfl) (mo_222 (u := uu) hA hE1 hm (show j ≤ 1000 by omega) hu1 (by omega) hza.2) ?_
        rintro _ _ ⟨r2, ⟨rfl, eA⟩, hr2⟩
        rw [eA]
        clear eA
        obtain ⟨x2, rfl, p2b, z2, u1, u22, -, u24, u25⟩ : ∃ x : Nat, r2 = x ∧ xAt (T1 166) (xV (T1 166) m) (if xv_k uu = 5 then 4 else 0) (xv_p uu) j _ _ x := hr2.resolve_right (fun h => by omega)
        obtain rfl : p2 = p2b := by rw [hp2] at u1; exact Option.some.inj u1
        rw [if_neg (by omega), Nat.add_zero, e166] at u22
        refine xr_steps (pc' := 131) (L' := [(10, .int (Int32.ofInt (K : Int))), (9, .int (Int32.ofInt (j : Int))), (0, .ref 165), (1, .int (Int32.ofInt b1)), (2, .int (Int32.ofInt (pe : Int))), (3, .int (Int32.ofInt (pa : Int))), (4, .int (Int32.ofInt (po : Int))), (5, .int (Int32.ofInt ((xv_p tt).length : Int))), (6, .int (Int32.ofInt ((xv_p uu).length : Int))), (7, .int (Int32.ofInt df)), (8, .int (Int32.ofInt n8))]) (st' := [.int (Int32.ofInt (K : Int)), .int (Int32.ofInt (x2 : Int)), .int (Int32.ofInt (x1 : Int)), .int (Int32.ofInt 0), .ref 165]) 1 rfl ?_
        have hch := xJV_ch (sl := sl) (H := H) (st := st) (K := K) (pth := pth) (c := (j : Int)) u12 u22 (pe := pe) (ze := ze) (pa := pa) (za := za) (by omega) (by omega) hze hza (hdk.2 p1 (List.mem_of_getElem? hp1)) hl (by omega)
        have hm0 := hch.1
        refine xr_call (q := (.invokevirtual 240, 3, 241, 5)) (av := [.ref 165, .int (Int32.ofInt 0), .int (Int32.ofInt (x1 : Int)), .int (Int32.ofInt (x2 : Int)), .int (Int32.ofInt (K : Int))]) (rest := []) rfl rfl (by decide) rfl (ym_rcv hA rfl) (Nat.le_of_ble_eq_true rfl) (mo_241 (P := js.length) hA (by rw [ya_up_ne _ _ (by omega)]; exact hC.2.1) (by omega)) ?_
        rintro _ _ ⟨rfl, T2, eA, y4⟩
        rw [eA]
        clear eA
        refine xr_iincn (L' := [(9, .int (Int32.ofInt ((j : Int) - 1))), (10, .int (Int32.ofInt (K : Int))), (0, .ref 165), (1, .int (Int32.ofInt b1)), (2, .int (Int32.ofInt (pe : Int))), (3, .int (Int32.ofInt (pa : Int))), (4, .int (Int32.ofInt (po : Int))), (5, .int (Int32.ofInt ((xv_p tt).length : Int))), (6, .int (Int32.ofInt ((xv_p uu).length : Int))), (7, .int (Int32.ofInt df)), (8, .int (Int32.ofInt n8))]) rfl rfl rfl ?_
        refine xr_steps (pc' := 82) (L' := [(9, .int (Int32.ofInt ((j : Int) - 1))), (10, .int (Int32.ofInt (K : Int))), (0, .ref 165), (1, .int (Int32.ofInt b1)), (2, .int (Int32.ofInt (pe : Int))), (3, .int (Int32.ofInt (pa : Int))), (4, .int (Int32.ofInt (po : Int))), (5, .int (Int32.ofInt ((xv_p tt).length : Int))), (6, .int (Int32.ofInt ((xv_p uu).length : Int))), (7, .int (Int32.ofInt df)), (8, .int (Int32.ofInt n8))]) (st' := []) 1 rfl ?_
        refine xr_loc (L := [(9, .int (Int32.ofInt ((j : Int) - 1))), (0, .ref 165), (1, .int (Int32.ofInt b1)), (2, .int (Int32.ofInt (pe : Int))), (3, .int (Int32.ofInt (pa : Int))), (4, .int (Int32.ofInt (po : Int))), (5, .int (Int32.ofInt ((xv_p tt).length : Int))), (6, .int (Int32.ofInt ((xv_p uu).length : Int))), (7, .int (Int32.ofInt df)), (8, .int (Int32.ofInt n8))]) (show [9, 0, 1, 2, 3, 4, 5, 6, 7, 8].Nodup by decide) ⟨rfl, rfl, rfl, rfl, rfl, rfl, rfl, rfl, rfl, rfl, trivial⟩ ?_
        have hadd := xCMS_add (o := po) (c := (j : Int)) (j := (xmk 0 (x1 : Int) (x2 : Int) K (xcm sl H st m p1.2 p2.2 (l ++ [(j : Int)])) (xjc H st m p1.2 p2.2 (l ++ [(j : Int)])) (m - 1))) (B' := xjk (xjc H st m) (xv_p tt) lo l (xv_p uu) j + B0) hC hpo.1 ⟨y1, y2, by rw [show xcv (j : Int) = -1 - (j : Int) from if_neg (by omega)]; exact y3⟩ y4 (by rw [hpo.2]; exact hch.2) (by rw [est]; show _ = xjc H st m p1.2 p2.2 (l ++ [(j : Int)]) + _; omega) (by show js.length + 1 + 50 * (m - 1) ≤ 256; have := hch.1; omega)
        rw [hpo.2] at hadd
        refine ih j (by omega) _ T2 (K + 1) _ (js ++ [(xmk 0 (x1 : Int) (x2 : Int) K (xcm sl H st m p1.2 p2.2 (l ++ [(j : Int)])) (xjc H st m p1.2 p2.2 (l ++ [(j : Int)])) (m - 1))]) (by omega) hadd ⟨by omega, ?_⟩ ?_ ?_ ?_ hQ
        · rw [ya_up_ne _ _ (by omega)]; exact hpo.2
        · rw [List.length_append, List.length_singleton]; omega
        · rw [xcost_app]; show _ + xjc H st m p1.2 p2.2 (l ++ [(j : Int)]) + _ = _; omega
        · rw [xout_app, els, hX, List.append_assoc]; rfl
end EL
theorem xel_end {α : Type} {f : α → α → List Int → List (Int × List Int)} {ps us : List (Int × α)} {lo : Bool} {l : List Int} {n : Nat} (h : us.length ≤ n ∨ ps.length = 0 ∨ (lo = false ∧ ps.length ≤ n)) : xel f ps lo l (us.drop n) n = [] := by
  rcases h with h | h | ⟨h1, h2⟩
  · rw [List.drop_eq_nil_of_le h]; rfl
  · exact xel_nil _ _ (fun i _ => List.getElem?_eq_none (by omega))
  · refine xel_nil _ _ (fun i hi => List.getElem?_eq_none ?_)
    unfold xix
    rw [if_neg (by rw [h1]; exact fun h => absurd h.1 (by decide))]
    omega
section EM
variable {w : Value} {d : Nat} {A : xb_H} {t0 t : Nat → Nat → Int} {s0 s : Nat → Int} {sl : List Int → Bool} {H : (n : Nat) → xv (n + 1) → xv (n + 1) → List Int → Nat} {st : Int} {ms : List (Int × List Int)} {m pe pa ze za po K B : Nat} {tt uu : xv (m + 1)} {l : List Int} {lo : Bool} {pth : Nat → List Int} {js : List xJ} {df n8 b1 : Int} {Q : xb_R → xb_H → Prop}
theorem mo_252e (hdf : df = 0 ∨ df = 1) (hQ : Q (.inl (some (.int (Int32.ofInt df)))) (ym A s t)) : xr_ok (xt_G w) (d + 1 + 1 + 1 + 1) 252 140 [(0, .ref 165), (1, .int (Int32.ofInt b1)), (2, .int (Int32.ofInt (pe : Int))), (3, .int (Int32.ofInt (pa : Int))), (4, .int (Int32.ofInt (po : Int))), (5, .int (Int32.ofInt ((xv_p tt).length : Int))), (6, .int (Int32.ofInt ((xv_p uu).length : Int))), (7, .int (Int32.ofInt df)), (8, .int (Int32.ofInt n8))] [] (ym A s t) Q := by
  refine xr_steps (pc' := 142) (L' := [(0, .ref 165), (1, .int (Int32.ofInt b1)), (2, .int (Int32.ofInt (pe : Int))), (3, .int (Int32.ofInt (pa : Int))), (4, .int (Int32.ofInt (po : Int))), (5, .int (Int32.ofInt ((xv_p tt).length : Int))), (6, .int (Int32.ofInt ((xv_p uu).length : Int))), (7, .int (Int32.ofInt df)), (8, .int (Int32.ofInt n8))]) (st' := [.int (Int32.ofInt df)]) 1 rfl ?_
  refine xr_if_eq rfl (by omega) (fun z31 => ?_) (fun z31 => ?_)
  · refine xr_steps (pc' := 150) (L' := [(0, .ref 165), (1, .int (Int32.ofInt b1)), (2, .int (Int32.ofInt (pe : Int))), (3, .int (Int32.ofInt (pa : Int))), (4, .int (Int32.ofInt (po : Int))), (5, .int (Int32.ofInt ((xv_p tt).length : Int))), (6, .int (Int32.ofInt ((xv_p uu).length : Int))), (7, .int (Int32.ofInt df)), (8, .int (Int32.ofInt n8))]) (st' := [.int (Int32.ofInt 0)]) 1 rfl ?_
    obtain rfl : df = 0 := by omega
    exact xr_retI2 rfl rfl hQ
  · refine xr_steps (pc' := 150) (L' := [(0, .ref 165), (1, .int (Int32.ofInt b1)), (2, .int (Int32.ofInt (pe : Int))), (3, .int (Int32.ofInt (pa : Int))), (4, .int (Int32.ofInt (po : Int))), (5, .int (Int32.ofInt ((xv_p tt).length : Int))), (6, .int (Int32.ofInt ((xv_p uu).length : Int))), (7, .int (Int32.ofInt df)), (8, .int (Int32.ofInt n8))]) (st' := [.int (Int32.ofInt 1)]) 2 rfl ?_
    obtain rfl : df = 1 := by omega
    exact xr_retI2 rfl rfl hQ
theorem mo_252 (hA : 194 ≤ A.1) (hE : ∀ j : Nat, 0 ≤ t0 166 j ∧ t0 166 j ≤ 127) (hm : m ≤ 5) (he : xV (t0 166) (m + 1) pe tt ze) (hu : xV (t0 166) (m + 1) pa uu za) (hze : ze ≤ pe + 100 ∧ ze < 3711) (hza : za ≤ pa + 100 ∧ za < 3711) (hdk : xdk (m + 1) tt) (hl : l.length + m = 5 ∧ xpl0 l) (h4 : xv_k tt = 4 ∧ xv_k uu = 4) (hb1 : (b1 = 1 ∧ lo = true) ∨ (b1 = 0 ∧ lo = false)) (hC : xCMS t0 s0 sl H st s t K pth js ms B) (hB : xjE (xjc H st m) (xv_p tt) lo l (xv_p uu) 0 ≤ B) (hpo : po < K ∧ pth po = l) (hp : xpst s t l) (hh : js.length + 1 + 50 * m ≤ 256) : xr_ok (xt_G w) (d + 1 + 1 + 1 + 1) 252 0 [(0, .ref 165), (1, .int (Int32.ofInt b1)), (2, .int (Int32.ofInt (pe : Int))), (3, .int (Int32.ofInt (pa : Int))), (4, .int (Int32.ofInt (po : Int)))] [] (ym A s t) (fun o A' => ∃ v0, o = .inl v0 ∧ ∃ (v : Int) (s' : Nat → Int) (t' : Nat → Nat → Int) (K' : Nat) (pth' : Nat → List Int) (js' : List xJ) (dl : List (Int × List Int)), (v0 = some (.int (Int32.ofInt v)) ∧ A' = ym A s' t') ∧ (v = (dl.length : Int) ∧ dl = if lo = false ∧ ¬ (xv_p tt).length = (xv_p uu).length then [(2, l)] else []) ∧ xCMS t0 s0 sl H st s' t' K' pth' js' (ms ++ dl) 0 ∧ xcost js' ≤ xcost js + xjE (xjc H st m) (xv_p tt) lo l (xv_p uu) 0 ∧ xout js' = xel (xcm sl H st m) (xv_p tt) lo l (xv_p uu) 0 ++ xout js) := by
  have e0 := xCMS_166 hC (x := 166) (by omega)
  have hE1 : ∀ j : Nat, 0 ≤ t 166 j ∧ t 166 j ≤ 127 := by rw [e0]; exact hE
  have he1 : xV (t 166) (m + 1) pe tt ze := by rw [e0]; exact he
  have hu1 : xV (t 166) (m + 1) pa uu za := by rw [e0]; exact hu
  have hl49 : (xv_p tt).length ≤ 49 ∧ (xv_p uu).length ≤ 49 := ⟨(xV_16 _ _ _ _ he hze.1).1.2, (xV_16 _ _ _ _ hu hza.1).1.2⟩
  refine xr_steps (pc' := 2) (L' := [(0, .ref 165), (1, .int (Int32.ofInt b1)), (2, .int (Int32.ofInt (pe : Int))), (3, .int (Int32.ofInt (pa : Int))), (4, .int (Int32.ofInt (po : Int)))]) (st' := [.int (Int32.ofInt (pe : Int)), .ref 165]) 2 rfl ?_
  refine xr_call (q := (.invokevirtual 135, 3, 221, 2)) (av := [.ref 165, .int (Int32.ofInt (pe : Int))]) (rest := []) rfl rfl (by decide) rfl (ym_rcv hA rfl) (Nat.le_of_ble_eq_true rfl) (mo_221 hA hE1 hm he1 (by omega) (by omega) hze.1) ?_
  rintro _ _ ⟨rfl, eA⟩
  rw [eA]
  clear eA
  refine xr_steps (pc' := 9) (L' := [(5, .int (Int32.ofInt ((xv_p tt).length : Int))), (0, .ref 165), (1, .int (Int32.ofInt b1)), (2, .int (Int32.ofInt (pe : Int))), (3, .int (Int32.ofInt (pa : Int))), (4, .int (Int32.ofInt (po : Int)))]) (st' := [.int (Int32.ofInt (pa : Int)), .ref 165]) 3 rfl ?_
  refine xr_call (q := (.invokevirtual 135, 3, 221, 2)) (av := [.ref 165, .int (Int32.ofInt (pa : Int))]) (rest := []) rfl rfl (by decide) rfl (ym_rcv hA rfl) (Nat.le_of_ble_eq_true rfl) (mo_221 hA hE1 hm hu1 (by omega) (by omega) hza.1) ?_
  rintro _ _ ⟨rfl, eA⟩
  rw [eA]
  clear eA
  refine xr_steps (pc' := 15) (L' := [(6, .int (Int32.ofInt ((xv_p uu).length : Int))), (5, .int (Int32.ofInt ((xv_p tt).length : Int))), (0, .ref 165), (1, .int (Int32.ofInt b1)), (2, .int (Int32.ofInt (pe : Int))), (3, .int (Int32.ofInt (pa : Int))), (4, .int (Int32.ofInt (po : Int)))]) (st' := [.int (Int32.ofInt b1)]) 2 rfl ?_
  refine xr_if_ne rfl (by omega) (fun z31 => ?_) (fun z31 => ?_)
  · refine xr_steps (pc' := 34) (L' := [(7, .int (Int32.ofInt 0)), (6, .int (Int32.ofInt ((xv_p uu).length : Int))), (5, .int (Int32.ofInt ((xv_p tt).length : Int))), (0, .ref 165), (1, .int (Int32.ofInt b1)), (2, .int (Int32.ofInt (pe : Int))), (3, .int (Int32.ofInt (pa : Int))), (4, .int (Int32.ofInt (po : Int)))]) (st' := [.int (Int32.ofInt 0)]) 3 rfl ?_
    refine xr_if_eq rfl (by omega) (fun z32 => ?_) (fun z32 => ?_)
    · refine xr_steps (pc' := 43) (L' := [(7, .int (Int32.ofInt 0)), (6, .int (Int32.ofInt ((xv_p uu).length : Int))), (5, .int (Int32.ofInt ((xv_p tt).length : Int))), (0, .ref 165), (1, .int (Int32.ofInt b1)), (2, .int (Int32.ofInt (pe : Int))), (3, .int (Int32.ofInt (pa : Int))), (4, .int (Int32.ofInt (po : Int)))]) (st' := [.int (Int32.ofInt b1)]) 1 rfl ?_
      refine xr_if_eq rfl (by omega) (fun z33 => ?_) (fun z33 => ?_)
      · refine xr_steps (pc' := 64) (L' := [(7, .int (Int32.ofInt 0)), (6, .int (Int32.ofInt ((xv_p uu).length : Int))), (5, .int (Int32.ofInt ((xv_p tt).length : Int))), (0, .ref 165), (1, .int (Int32.ofInt b1)), (2, .int (Int32.ofInt (pe : Int))), (3, .int (Int32.ofInt (pa : Int))), (4, .int (Int32.ofInt (po : Int)))]) (st' := [.int (Int32.ofInt ((xv_p uu).length : Int)), .int (Int32.ofInt ((xv_p tt).length : Int))]) 2 rfl ?_
        refine xr_icmp_ge rfl (by omega) (by omega) (fun z34 => ?_) (fun z34 => ?_)
        · refine xr_steps (pc' := 79) (L' := [(8, .int (Int32.ofInt ((xv_p uu).length : Int))), (7, .int (Int32.ofInt 0)), (6, .int (Int32.ofInt ((xv_p uu).length : Int))), (5, .int (Int32.ofInt ((xv_p tt).length : Int))), (0, .ref 165), (1, .int (Int32.ofInt b1)), (2, .int (Int32.ofInt (pe : Int))), (3, .int (Int32.ofInt (pa : Int))), (4, .int (Int32.ofInt (po : Int)))]) (st' := [.int (Int32.ofInt 1), .int (Int32.ofInt ((xv_p uu).length : Int))]) 4 rfl ?_
          refine xr_isub rfl ?_
          refine xr_steps (pc' := 82) (L' := [(9, .int (Int32.ofInt (((xv_p uu).length : Int) - 1))), (8, .int (Int32.ofInt ((xv_p uu).length : Int))), (7, .int (Int32.ofInt 0)), (6, .int (Int32.ofInt ((xv_p uu).length : Int))), (5, .int (Int32.ofInt ((xv_p tt).length : Int))), (0, .ref 165), (1, .int (Int32.ofInt b1)), (2, .int (Int32.ofInt (pe : Int))), (3, .int (Int32.ofInt (pa : Int))), (4, .int (Int32.ofInt (po : Int)))]) (st' := []) 1 rfl ?_
          refine xr_loc (L := [(9, .int (Int32.ofInt (((xv_p uu).length : Int) - 1))), (0, .ref 165), (1, .int (Int32.ofInt b1)), (2, .int (Int32.ofInt (pe : Int))), (3, .int (Int32.ofInt (pa : Int))), (4, .int (Int32.ofInt (po : Int))), (5, .int (Int32.ofInt ((xv_p tt).length : Int))), (6, .int (Int32.ofInt ((xv_p uu).length : Int))), (7, .int (Int32.ofInt 0)), (8, .int (Int32.ofInt ((xv_p uu).length : Int)))]) (show [9, 0, 1, 2, 3, 4, 5, 6, 7, 8].Nodup by decide) ⟨rfl, rfl, rfl, rfl, rfl, rfl, rfl, rfl, rfl, rfl, trivial⟩ ?_
          first
          | (exfalso; omega)
          | (have hN : (xv_p uu).length ≤ (xv_p uu).length := by omega
             have hE0 : xel (xcm sl H st m) (xv_p tt) lo l ((xv_p uu).drop (xv_p uu).length) (xv_p uu).length = [] := xel_end (by first | (exact Or.inl (Nat.le_refl _)) | (exact Or.inr (Or.inl (by omega))) | (exact Or.inr (Or.inr ⟨(hb1.resolve_left (by omega)).2, by omega⟩)))
             have hJ := xjk_le (g := xjc H st m) (ps := xv_p tt) (lo := lo) (l := l) hN
             refine mo_252l (n := (xv_p uu).length) (hb := js.length) (X := xout js) (C0 := xcost js + xjk (xjc H st m) (xv_p tt) lo l (xv_p uu) (xv_p uu).length) (B0 := 0) hA hE hm he hu hze hza hdk hl h4 ⟨hN, by omega, by first | (exact Or.inr (by omega)) | (exact Or.inl (hb1.resolve_right (by omega)).2)⟩ hh (xv_p uu).length _ _ K pth js (Nat.le_refl _) (xCMS_le hC (by omega)) hpo (by omega) rfl (by rw [hE0]; rfl) (fun s' t' K' pth' js' g1 g2 g3 g4 => ?_)
             refine mo_252e (by omega) ⟨_, rfl, 0, s', t', K', pth', js', [], ⟨rfl, rfl⟩, ⟨rfl, ?_⟩, (by rw [List.append_nil]; exact g1), by rw [g3]; omega, g4⟩
             exact (if_neg (fun h => hb1.elim (fun x => absurd (x.2.symm.trans h.1) (by decide)) (fun x => by omega))).symm)
        · refine xr_steps (pc' := 79) (L' := [(8, .int (Int32.ofInt ((xv_p tt).length : Int))), (7, .int (Int32.ofInt 0)), (6, .int (Int32.ofInt ((xv_p uu).length : Int))), (5, .int (Int32.ofInt ((xv_p tt).length : Int))), (0, .ref 165), (1, .int (Int32.ofInt b1)), (2, .int (Int32.ofInt (pe : Int))), (3, .int (Int32.ofInt (pa : Int))), (4, .int (Int32.ofInt (po : Int)))]) (st' := [.int (Int32.ofInt 1), .int (Int32.ofInt ((xv_p tt).length : Int))]) 5 rfl ?_
          refine xr_isub rfl ?_
          refine xr_steps (pc' := 82) (L' := [(9, .int (Int32.ofInt (((xv_p tt).length : Int) - 1))), (8, .int (Int32.ofInt ((xv_p tt).length : Int))), (7, .int (Int32.ofInt 0)), (6, .int (Int32.ofInt ((xv_p uu).length : Int))), (5, .int (Int32.ofInt ((xv_p tt).length : Int))), (0, .ref 165), (1, .int (Int32.ofInt b1)), (2, .int (Int32.ofInt (pe : Int))), (3, .int (Int32.ofInt (pa : Int))), (4, .int (Int32.ofInt (po : Int)))]) (st' := []) 1 rfl ?_
          refine xr_loc (L := [(9, .int (Int32.ofInt (((xv_p tt).length : Int) - 1))), (0, .ref 165), (1, .int (Int32.ofInt b1)), (2, .int (Int32.ofInt (pe : Int))), (3, .int (Int32.ofInt (pa : Int))), (4, .int (Int32.ofInt (po : Int))), (5, .int (Int32.ofInt ((xv_p tt).length : Int))), (6, .int (Int32.ofInt ((xv_p uu).length : Int))), (7, .int (Int32.ofInt 0)), (8, .int (Int32.ofInt ((xv_p tt).length : Int)))]) (show [9, 0, 1, 2, 3, 4, 5, 6, 7, 8].Nodup by decide) ⟨rfl, rfl, rfl, rfl, rfl, rfl, rfl, rfl, rfl, rfl, trivial⟩ ?_
          first
          | (exfalso; omega)
          | (have hN : (xv_p tt).length ≤ (xv_p uu).length := by omega
             have hE0 : xel (xcm sl H st m) (xv_p tt) lo l ((xv_p uu).drop (xv_p tt).length) (xv_p tt).length = [] := xel_end (by first | (exact Or.inl (Nat.le_refl _)) | (exact Or.inr (Or.inl (by omega))) | (exact Or.inr (Or.inr ⟨(hb1.resolve_left (by omega)).2, by omega⟩)))
             have hJ := xjk_le (g := xjc H st m) (ps := xv_p tt) (lo := lo) (l := l) hN
             refine mo_252l (n := (xv_p tt).length) (hb := js.length) (X := xout js) (C0 := xcost js + xjk (xjc H st m) (xv_p tt) lo l (xv_p uu) (xv_p tt).length) (B0 := 0) hA hE hm he hu hze hza hdk hl h4 ⟨hN, by omega, by first | (exact Or.inr (by omega)) | (exact Or.inl (hb1.resolve_right (by omega)).2)⟩ hh (xv_p tt).length _ _ K pth js (Nat.le_refl _) (xCMS_le hC (by omega)) hpo (by omega) rfl (by rw [hE0]; rfl) (fun s' t' K' pth' js' g1 g2 g3 g4 => ?_)
             refine mo_252e (by omega) ⟨_, rfl, 0, s', t', K', pth', js', [], ⟨rfl, rfl⟩, ⟨rfl, ?_⟩, (by rw [List.append_nil]; exact g1), by rw [g3]; omega, g4⟩
             exact (if_neg (fun h => hb1.elim (fun x => absurd (x.2.symm.trans h.1) (by decide)) (fun x => by omega))).symm)
      · refine xr_steps (pc' := 48) (L' := [(7, .int (Int32.ofInt 0)), (6, .int (Int32.ofInt ((xv_p uu).length : Int))), (5, .int (Int32.ofInt ((xv_p tt).length : Int))), (0, .ref 165), (1, .int (Int32.ofInt b1)), (2, .int (Int32.ofInt (pe : Int))), (3, .int (Int32.ofInt (pa : Int))), (4, .int (Int32.ofInt (po : Int)))]) (st' := [.int (Int32.ofInt ((xv_p tt).length : Int))]) 1 rfl ?_
        refine xr_if_ne rfl (by omega) (fun z35 => ?_) (fun z35 => ?_)
        · refine xr_steps (pc' := 79) (L' := [(8, .int (Int32.ofInt ((xv_p uu).length : Int))), (7, .int (Int32.ofInt 0)), (6, .int (Int32.ofInt ((xv_p uu).length : Int))), (5, .int (Int32.ofInt ((xv_p tt).length : Int))), (0, .ref 165), (1, .int (Int32.ofInt b1)), (2, .int (Int32.ofInt (pe : Int))), (3, .int (Int32.ofInt (pa : Int))), (4, .int (Int32.ofInt (po : Int)))]) (st' := [.int (Int32.ofInt 1), .int (Int32.ofInt ((xv_p uu).length : Int))]) 5 rfl ?_
          refine xr_isub rfl ?_
          refine xr_steps (pc' := 82) (L' := [(9, .int (Int32.ofInt (((xv_p uu).length : Int) - 1))), (8, .int (Int32.ofInt ((xv_p uu).length : Int))), (7, .int (Int32.ofInt 0)), (6, .int (Int32.ofInt ((xv_p uu).length : Int))), (5, .int (Int32.ofInt ((xv_p tt).length : Int))), (0, .ref 165), (1, .int (Int32.ofInt b1)), (2, .int (Int32.ofInt (pe : Int))), (3, .int (Int32.ofInt (pa : Int))), (4, .int (Int32.ofInt (po : Int)))]) (st' := []) 1 rfl ?_
          refine xr_loc (L := [(9, .int (Int32.ofInt (((xv_p uu).length : Int) - 1))), (0, .ref 165), (1, .int (Int32.ofInt b1)), (2, .int (Int32.ofInt (pe : Int))), (3, .int (Int32.ofInt (pa : Int))), (4, .int (Int32.ofInt (po : Int))), (5, .int (Int32.ofInt ((xv_p tt).length : Int))), (6, .int (Int32.ofInt ((xv_p uu).length : Int))), (7, .int (Int32.ofInt 0)), (8, .int (Int32.ofInt ((xv_p uu).length : Int)))]) (show [9, 0, 1, 2, 3, 4, 5, 6, 7, 8].Nodup by decide) ⟨rfl, rfl, rfl, rfl, rfl, rfl, rfl, rfl, rfl, rfl, trivial⟩ ?_
          first
          | (exfalso; omega)
          | (have hN : (xv_p uu).length ≤ (xv_p uu).length := by omega
             have hE0 : xel (xcm sl H st m) (xv_p tt) lo l ((xv_p uu).drop (xv_p uu).length) (xv_p uu).length = [] := xel_end (by first | (exact Or.inl (Nat.le_refl _)) | (exact Or.inr (Or.inl (by omega))) | (exact Or.inr (Or.inr ⟨(hb1.resolve_left (by omega)).2, by omega⟩)))
             have hJ := xjk_le (g := xjc H st m) (ps := xv_p tt) (lo := lo) (l := l) hN
             refine mo_252l (n := (xv_p uu).length) (hb := js.length) (X := xout js) (C0 := xcost js + xjk (xjc H st m) (xv_p tt) lo l (xv_p uu) (xv_p uu).length) (B0 := 0) hA hE hm he hu hze hza hdk hl h4 ⟨hN, by omega, by first | (exact Or.inr (by omega)) | (exact Or.inl (hb1.resolve_right (by omega)).2)⟩ hh (xv_p uu).length _ _ K pth js (Nat.le_refl _) (xCMS_le hC (by omega)) hpo (by omega) rfl (by rw [hE0]; rfl) (fun s' t' K' pth' js' g1 g2 g3 g4 => ?_)
             refine mo_252e (by omega) ⟨_, rfl, 0, s', t', K', pth', js', [], ⟨rfl, rfl⟩, ⟨rfl, ?_⟩, (by rw [List.append_nil]; exact g1), by rw [g3]; omega, g4⟩
             exact (if_neg (fun h => hb1.elim (fun x => absurd (x.2.symm.trans h.1) (by decide)) (fun x => by omega))).symm)
        · refine xr_steps (pc' := 79) (L' := [(8, .int (Int32.ofInt 0)), (7, .int (Int32.ofInt 0)), (6, .int (Int32.ofInt ((xv_p uu).length : Int))), (5, .int (Int32.ofInt ((xv_p tt).length : Int))), (0, .ref 165), (1, .int (Int32.ofInt b1)), (2, .int (Int32.ofInt (pe : Int))), (3, .int (Int32.ofInt (pa : Int))), (4, .int (Int32.ofInt (po : Int)))]) (st' := [.int (Int32.ofInt 1), .int (Int32.ofInt 0)]) 5 rfl ?_
          refine xr_isub rfl ?_
          refine xr_steps (pc' := 82) (L' := [(9, .int (Int32.ofInt (0 - 1))), (8, .int (Int32.ofInt 0)), (7, .int (Int32.ofInt 0)), (6, .int (Int32.ofInt ((xv_p uu).length : Int))), (5, .int (Int32.ofInt ((xv_p tt).length : Int))), (0, .ref 165), (1, .int (Int32.ofInt b1)), (2, .int (Int32.ofInt (pe : Int))), (3, .int (Int32.ofInt (pa : Int))), (4, .int (Int32.ofInt (po : Int)))]) (st' := []) 1 rfl ?_
          refine xr_loc (L := [(9, .int (Int32.ofInt (0 - 1))), (0, .ref 165), (1, .int (Int32.ofInt b1)), (2, .int (Int32.ofInt (pe : Int))), (3, .int (Int32.ofInt (pa : Int))), (4, .int (Int32.ofInt (po : Int))), (5, .int (Int32.ofInt ((xv_p tt).length : Int))), (6, .int (Int32.ofInt ((xv_p uu).length : Int))), (7, .int (Int32.ofInt 0)), (8, .int (Int32.ofInt 0))]) (show [9, 0, 1, 2, 3, 4, 5, 6, 7, 8].Nodup by decide) ⟨rfl, rfl, rfl, rfl, rfl, rfl, rfl, rfl, rfl, rfl, trivial⟩ ?_
          rw [show (0 : Int) - 1 = ((0 : Nat) : Int) - 1 from rfl]
          first
          | (exfalso; omega)
          | (have hN : 0 ≤ (xv_p uu).length := by omega
             have hE0 : xel (xcm sl H st m) (xv_p tt) lo l ((xv_p uu).drop 0) 0 = [] := xel_end (by first | (exact Or.inl (Nat.le_refl _)) | (exact Or.inr (Or.inl (by omega))) | (exact Or.inr (Or.inr ⟨(hb1.resolve_left (by omega)).2, by omega⟩)))
             have hJ := xjk_le (g := xjc H st m) (ps := xv_p tt) (lo := lo) (l := l) hN
             refine mo_252l (n := 0) (hb := js.length) (X := xout js) (C0 := xcost js + xjk (xjc H st m) (xv_p tt) lo l (xv_p uu) 0) (B0 := 0) hA hE hm he hu hze hza hdk hl h4 ⟨hN, by omega, by first | (exact Or.inr (by omega)) | (exact Or.inl (hb1.resolve_right (by omega)).2)⟩ hh 0 _ _ K pth js (Nat.le_refl _) (xCMS_le hC (by omega)) hpo (by omega) rfl (by rw [hE0]; rfl) (fun s' t' K' pth' js' g1 g2 g3 g4 => ?_)
             refine mo_252e (by omega) ⟨_, rfl, 0, s', t', K', pth', js', [], ⟨rfl, rfl⟩, ⟨rfl, ?_⟩, (by rw [List.append_nil]; exact g1), by rw [g3]; omega, g4⟩
             exact (if_neg (fun h => hb1.elim (fun x => absurd (x.2.symm.trans h.1) (by decide)) (fun x => by omega))).symm)
    · exfalso; omega
  · refine xr_steps (pc' := 22) (L' := [(6, .int (Int32.ofInt ((xv_p uu).length : Int))), (5, .int (Int32.ofInt ((xv_p tt).length : Int))), (0, .ref 165), (1, .int (Int32.ofInt b1)), (2, .int (Int32.ofInt (pe : Int))), (3, .int (Int32.ofInt (pa : Int))), (4, .int (Int32.ofInt (po : Int)))]) (st' := [.int (Int32.ofInt ((xv_p uu).length : Int)), .int (Int32.ofInt ((xv_p tt).length : Int))]) 2 rfl ?_
    refine xr_icmp_eq rfl (by omega) (by omega) (fun z36 => ?_) (fun z36 => ?_)
    · refine xr_steps (pc' := 34) (L' := [(7, .int (Int32.ofInt 0)), (6, .int (Int32.ofInt ((xv_p uu).length : Int))), (5, .int (Int32.ofInt ((xv_p tt).length : Int))), (0, .ref 165), (1, .int (Int32.ofInt b1)), (2, .int (Int32.ofInt (pe : Int))), (3, .int (Int32.ofInt (pa : Int))), (4, .int (Int32.ofInt (po : Int)))]) (st' := [.int (Int32.ofInt 0)]) 3 rfl ?_
      refine xr_if_eq rfl (by omega) (fun z37 => ?_) (fun z37 => ?_)
      · refine xr_steps (pc' := 43) (L' := [(7, .int (Int32.ofInt 0)), (6, .int (Int32.ofInt ((xv_p uu).length : Int))), (5, .int (Int32.ofInt ((xv_p tt).length : Int))), (0, .ref 165), (1, .int (Int32.ofInt b1)), (2, .int (Int32.ofInt (pe : Int))), (3, .int (Int32.ofInt (pa : Int))), (4, .int (Int32.ofInt (po : Int)))]) (st' := [.int (Int32.ofInt b1)]) 1 rfl ?_
        refine xr_if_eq rfl (by omega) (fun z38 => ?_) (fun z38 => ?_)
        · refine xr_steps (pc' := 64) (L' := [(7, .int (Int32.ofInt 0)), (6, .int (Int32.ofInt ((xv_p uu).length : Int))), (5, .int (Int32.ofInt ((xv_p tt).length : Int))), (0, .ref 165), (1, .int (Int32.ofInt b1)), (2, .int (Int32.ofInt (pe : Int))), (3, .int (Int32.ofInt (pa : Int))), (4, .int (Int32.ofInt (po : Int)))]) (st' := [.int (Int32.ofInt ((xv_p uu).length : Int)), .int (Int32.ofInt ((xv_p tt).length : Int))]) 2 rfl ?_
          refine xr_icmp_ge rfl (by omega) (by omega) (fun z39 => ?_) (fun z39 => ?_)
          · refine xr_steps (pc' := 79) (L' := [(8, .int (Int32.ofInt ((xv_p uu).length : Int))), (7, .int (Int32.ofInt 0)), (6, .int (Int32.ofInt ((xv_p uu).length : Int))), (5, .int (Int32.ofInt ((xv_p tt).length : Int))), (0, .ref 165), (1, .int (Int32.ofInt b1)), (2, .int (Int32.ofInt (pe : Int))), (3, .int (Int32.ofInt (pa : Int))), (4, .int (Int32.ofInt (po : Int)))]) (st' := [.int (Int32.ofInt 1), .int (Int32.ofInt ((xv_p uu).length : Int))]) 4 rfl ?_
            refine xr_isub rfl ?_
            refine xr_steps (pc' := 82) (L' := [(9, .int (Int32.ofInt (((xv_p uu).length : Int) - 1))), (8, .int (Int32.ofInt ((xv_p uu).length : Int))), (7, .int (Int32.ofInt 0)), (6, .int (Int32.ofInt ((xv_p uu).length : Int))), (5, .int (Int32.ofInt ((xv_p tt).length : Int))), (0, .ref 165), (1, .int (Int32.ofInt b1)), (2, .int (Int32.ofInt (pe : Int))), (3, .int (Int32.ofInt (pa : Int))), (4, .int (Int32.ofInt (po : Int)))]) (st' := []) 1 rfl ?_
            refine xr_loc (L := [(9, .int (Int32.ofInt (((xv_p uu).length : Int) - 1))), (0, .ref 165), (1, .int (Int32.ofInt b1)), (2, .int (Int32.ofInt (pe : Int))), (3, .int (Int32.ofInt (pa : Int))), (4, .int (Int32.ofInt (po : Int))), (5, .int (Int32.ofInt ((xv_p tt).length : Int))), (6, .int (Int32.ofInt ((xv_p uu).length : Int))), (7, .int (Int32.ofInt 0)), (8, .int (Int32.ofInt ((xv_p uu).length : Int)))]) (show [9, 0, 1, 2, 3, 4, 5, 6, 7, 8].Nodup by decide) ⟨rfl, rfl, rfl, rfl, rfl, rfl, rfl, rfl, rfl, rfl, trivial⟩ ?_
            first
            | (exfalso; omega)
            | (have hN : (xv_p uu).length ≤ (xv_p uu).length := by omega
               have hE0 : xel (xcm sl H st m) (xv_p tt) lo l ((xv_p uu).drop (xv_p uu).length) (xv_p uu).length = [] := xel_end (by first | (exact Or.inl (Nat.le_refl _)) | (exact Or.inr (Or.inl (by omega))) | (exact Or.inr (Or.inr ⟨(hb1.resolve_left (by omega)).2, by omega⟩)))
               have hJ := xjk_le (g := xjc H st m) (ps := xv_p tt) (lo := lo) (l := l) hN
               refine mo_252l (n := (xv_p uu).length) (hb := js.length) (X := xout js) (C0 := xcost js + xjk (xjc H st m) (xv_p tt) lo l (xv_p uu) (xv_p uu).length) (B0 := 0) hA hE hm he hu hze hza hdk hl h4 ⟨hN, by omega, by first | (exact Or.inr (by omega)) | (exact Or.inl (hb1.resolve_right (by omega)).2)⟩ hh (xv_p uu).length _ _ K pth js (Nat.le_refl _) (xCMS_le hC (by omega)) hpo (by omega) rfl (by rw [hE0]; rfl) (fun s' t' K' pth' js' g1 g2 g3 g4 => ?_)
               refine mo_252e (by omega) ⟨_, rfl, 0, s', t', K', pth', js', [], ⟨rfl, rfl⟩, ⟨rfl, ?_⟩, (by rw [List.append_nil]; exact g1), by rw [g3]; omega, g4⟩
               exact (if_neg (fun h => hb1.elim (fun x => absurd (x.2.symm.trans h.1) (by decide)) (fun x => by omega))).symm)
          · refine xr_steps (pc' := 79) (L' := [(8, .int (Int32.ofInt ((xv_p tt).length : Int))), (7, .int (Int32.ofInt 0)), (6, .int (Int32.ofInt ((xv_p uu).length : Int))), (5, .int (Int32.ofInt ((xv_p tt).length : Int))), (0, .ref 165), (1, .int (Int32.ofInt b1)), (2, .int (Int32.ofInt (pe : Int))), (3, .int (Int32.ofInt (pa : Int))), (4, .int (Int32.ofInt (po : Int)))]) (st' := [.int (Int32.ofInt 1), .int (Int32.ofInt ((xv_p tt).length : Int))]) 5 rfl ?_
            refine xr_isub rfl ?_
            refine xr_steps (pc' := 82) (L' := [(9, .int (Int32.ofInt (((xv_p tt).length : Int) - 1))), (8, .int (Int32.ofInt ((xv_p tt).length : Int))), (7, .int (Int32.ofInt 0)), (6, .int (Int32.ofInt ((xv_p uu).length : Int))), (5, .int (Int32.ofInt ((xv_p tt).length : Int))), (0, .ref 165), (1, .int (Int32.ofInt b1)), (2, .int (Int32.ofInt (pe : Int))), (3, .int (Int32.ofInt (pa : Int))), (4, .int (Int32.ofInt (po : Int)))]) (st' := []) 1 rfl ?_
            refine xr_loc (L := [(9, .int (Int32.ofInt (((xv_p tt).length : Int) - 1))), (0, .ref 165), (1, .int (Int32.ofInt b1)), (2, .int (Int32.ofInt (pe : Int))), (3, .int (Int32.ofInt (pa : Int))), (4, .int (Int32.ofInt (po : Int))), (5, .int (Int32.ofInt ((xv_p tt).length : Int))), (6, .int (Int32.ofInt ((xv_p uu).length : Int))), (7, .int (Int32.ofInt 0)), (8, .int (Int32.ofInt ((xv_p tt).length : Int)))]) (show [9, 0, 1, 2, 3, 4, 5, 6, 7, 8].Nodup by decide) ⟨rfl, rfl, rfl, rfl, rfl, rfl, rfl, rfl, rfl, rfl, trivial⟩ ?_
            first
            | (exfalso; omega)
            | (have hN : (xv_p tt).length ≤ (xv_p uu).length := by omega
               have hE0 : xel (xcm sl H st m) (xv_p tt) lo l ((xv_p uu).drop (xv_p tt).length) (xv_p tt).length = [] := xel_end (by first | (exact Or.inl (Nat.le_refl _)) | (exact Or.inr (Or.inl (by omega))) | (exact Or.inr (Or.inr ⟨(hb1.resolve_left (by omega)).2, by omega⟩)))
               have hJ := xjk_le (g := xjc H st m) (ps := xv_p tt) (lo := lo) (l := l) hN
               refine mo_252l (n := (xv_p tt).length) (hb := js.length) (X := xout js) (C0 := xcost js + xjk (xjc H st m) (xv_p tt) lo l (xv_p uu) (xv_p tt).length) (B0 := 0) hA hE hm he hu hze hza hdk hl h4 ⟨hN, by omega, by first | (exact Or.inr (by omega)) | (exact Or.inl (hb1.resolve_right (by omega)).2)⟩ hh (xv_p tt).length _ _ K pth js (Nat.le_refl _) (xCMS_le hC (by omega)) hpo (by omega) rfl (by rw [hE0]; rfl) (fun s' t' K' pth' js' g1 g2 g3 g4 => ?_)
               refine mo_252e (by omega) ⟨_, rfl, 0, s', t', K', pth', js', [], ⟨rfl, rfl⟩, ⟨rfl, ?_⟩, (by rw [List.append_nil]; exact g1), by rw [g3]; omega, g4⟩
               exact (if_neg (fun h => hb1.elim (fun x => absurd (x.2.symm.trans h.1) (by decide)) (fun x => by omega))).symm)
        · refine xr_steps (pc' := 48) (L' := [(7, .int (Int32.ofInt 0)), (6, .int (Int32.ofInt ((xv_p uu).length : Int))), (5, .int (Int32.ofInt ((xv_p tt).length : Int))), (0, .ref 165), (1, .int (Int32.ofInt b1)), (2, .int (Int32.ofInt (pe : Int))), (3, .int (Int32.ofInt (pa : Int))), (4, .int (Int32.ofInt (po : Int)))]) (st' := [.int (Int32.ofInt ((xv_p tt).length : Int))]) 1 rfl ?_
          refine xr_if_ne rfl (by omega) (fun z40 => ?_) (fun z40 => ?_)
          · refine xr_steps (pc' := 79) (L' := [(8, .int (Int32.ofInt ((xv_p uu).length : Int))), (7, .int (Int32.ofInt 0)), (6, .int (Int32.ofInt ((xv_p uu).length : Int))), (5, .int (Int32.ofInt ((xv_p tt).length : Int))), (0, .ref 165), (1, .int (Int32.ofInt b1)), (2, .int (Int32.ofInt (pe : Int))), (3, .int (Int32.ofInt (pa : Int))), (4, .int (Int32.ofInt (po : Int)))]) (st' := [.int (Int32.ofInt 1), .int (Int32.ofInt ((xv_p uu).length : Int))]) 5 rfl ?_
            refine xr_isub rfl ?_
            refine xr_steps (pc' := 82) (L' := [(9, .int (Int32.ofInt (((xv_p uu).length : Int) - 1))), (8, .int (Int32.ofInt ((xv_p uu).length : Int))), (7, .int (Int32.ofInt 0)), (6, .int (Int32.ofInt ((xv_p uu).length : Int))), (5, .int (Int32.ofInt ((xv_p tt).length : Int))), (0, .ref 165), (1, .int (Int32.ofInt b1)), (2, .int (Int32.ofInt (pe : Int))), (3, .int (Int32.ofInt (pa : Int))), (4, .int (Int32.ofInt (po : Int)))]) (st' := []) 1 rfl ?_
            refine xr_loc (L := [(9, .int (Int32.ofInt (((xv_p uu).length : Int) - 1))), (0, .ref 165), (1, .int (Int32.ofInt b1)), (2, .int (Int32.ofInt (pe : Int))), (3, .int (Int32.ofInt (pa : Int))), (4, .int (Int32.ofInt (po : Int))), (5, .int (Int32.ofInt ((xv_p tt).length : Int))), (6, .int (Int32.ofInt ((xv_p uu).length : Int))), (7, .int (Int32.ofInt 0)), (8, .int (Int32.ofInt ((xv_p uu).length : Int)))]) (show [9, 0, 1, 2, 3, 4, 5, 6, 7, 8].Nodup by decide) ⟨rfl, rfl, rfl, rfl, rfl, rfl, rfl, rfl, rfl, rfl, trivial⟩ ?_
            first
            | (exfalso; omega)
            | (have hN : (xv_p uu).length ≤ (xv_p uu).length := by omega
               have hE0 : xel (xcm sl H st m) (xv_p tt) lo l ((xv_p uu).drop (xv_p uu).length) (xv_p uu).length = [] := xel_end (by first | (exact Or.inl (Nat.le_refl _)) | (exact Or.inr (Or.inl (by omega))) | (exact Or.inr (Or.inr ⟨(hb1.resolve_left (by omega)).2, by omega⟩)))
               have hJ := xjk_le (g := xjc H st m) (ps := xv_p tt) (lo := lo) (l := l) hN
               refine mo_252l (n := (xv_p uu).length) (hb := js.length) (X := xout js) (C0 := xcost js + xjk (xjc H st m) (xv_p tt) lo l (xv_p uu) (xv_p uu).length) (B0 := 0) hA hE hm he hu hze hza hdk hl h4 ⟨hN, by omega, by first | (exact Or.inr (by omega)) | (exact Or.inl (hb1.resolve_right (by omega)).2)⟩ hh (xv_p uu).length _ _ K pth js (Nat.le_refl _) (xCMS_le hC (by omega)) hpo (by omega) rfl (by rw [hE0]; rfl) (fun s' t' K' pth' js' g1 g2 g3 g4 => ?_)
               refine mo_252e (by omega) ⟨_, rfl, 0, s', t', K', pth', js', [], ⟨rfl, rfl⟩, ⟨rfl, ?_⟩, (by rw [List.append_nil]; exact g1), by rw [g3]; omega, g4⟩
               exact (if_neg (fun h => hb1.elim (fun x => absurd (x.2.symm.trans h.1) (by decide)) (fun x => by omega))).symm)
          · refine xr_steps (pc' := 79) (L' := [(8, .int (Int32.ofInt 0)), (7, .int (Int32.ofInt 0)), (6, .int (Int32.ofInt ((xv_p uu).length : Int))), (5, .int (Int32.ofInt ((xv_p tt).length : Int))), (0, .ref 165), (1, .int (Int32.ofInt b1)), (2, .int (Int32.ofInt (pe : Int))), (3, .int (Int32.ofInt (pa : Int))), (4, .int (Int32.ofInt (po : Int)))]) (st' := [.int (Int32.ofInt 1), .int (Int32.ofInt 0)]) 5 rfl ?_
            refine xr_isub rfl ?_
            refine xr_steps (pc' := 82) (L' := [(9, .int (Int32.ofInt (0 - 1))), (8, .int (Int32.ofInt 0)), (7, .int (Int32.ofInt 0)), (6, .int (Int32.ofInt ((xv_p uu).length : Int))), (5, .int (Int32.ofInt ((xv_p tt).length : Int))), (0, .ref 165), (1, .int (Int32.ofInt b1)), (2, .int (Int32.ofInt (pe : Int))), (3, .int (Int32.ofInt (pa : Int))), (4, .int (Int32.ofInt (po : Int)))]) (st' := []) 1 rfl ?_
            refine xr_loc (L := [(9, .int (Int32.ofInt (0 - 1))), (0, .ref 165), (1, .int (Int32.ofInt b1)), (2, .int (Int32.ofInt (pe : Int))), (3, .int (Int32.ofInt (pa : Int))), (4, .int (Int32.ofInt (po : Int))), (5, .int (Int32.ofInt ((xv_p tt).length : Int))), (6, .int (Int32.ofInt ((xv_p uu).length : Int))), (7, .int (Int32.ofInt 0)), (8, .int (Int32.ofInt 0))]) (show [9, 0, 1, 2, 3, 4, 5, 6, 7, 8].Nodup by decide) ⟨rfl, rfl, rfl, rfl, rfl, rfl, rfl, rfl, rfl, rfl, trivial⟩ ?_
            rw [show (0 : Int) - 1 = ((0 : Nat) : Int) - 1 from rfl]
            first
            | (exfalso; omega)
            | (have hN : 0 ≤ (xv_p uu).length := by omega
               have hE0 : xel (xcm sl H st m) (xv_p tt) lo l ((xv_p uu).drop 0) 0 = [] := xel_end (by first | (exact Or.inl (Nat.le_refl _)) | (exact Or.inr (Or.inl (by omega))) | (exact Or.inr (Or.inr ⟨(hb1.resolve_left (by omega)).2, by omega⟩)))
               have hJ := xjk_le (g := xjc H st m) (ps := xv_p tt) (lo := lo) (l := l) hN
               refine mo_252l (n := 0) (hb := js.length) (X := xout js) (C0 := xcost js + xjk (xjc H st m) (xv_p tt) lo l (xv_p uu) 0) (B0 := 0) hA hE hm he hu hze hza hdk hl h4 ⟨hN, by omega, by first | (exact Or.inr (by omega)) | (exact Or.inl (hb1.resolve_right (by omega)).2)⟩ hh 0 _ _ K pth js (Nat.le_refl _) (xCMS_le hC (by omega)) hpo (by omega) rfl (by rw [hE0]; rfl) (fun s' t' K' pth' js' g1 g2 g3 g4 => ?_)
               refine mo_252e (by omega) ⟨_, rfl, 0, s', t', K', pth', js', [], ⟨rfl, rfl⟩, ⟨rfl, ?_⟩, (by rw [List.append_nil]; exact g1), by rw [g3]; omega, g4⟩
               exact (if_neg (fun h => hb1.elim (fun x => absurd (x.2.symm.trans h.1) (by decide)) (fun x => by omega))).symm)
      · exfalso; omega
    · refine xr_steps (pc' := 34) (L' := [(7, .int (Int32.ofInt 1)), (6, .int (Int32.ofInt ((xv_p uu).length : Int))), (5, .int (Int32.ofInt ((xv_p tt).length : Int))), (0, .ref 165), (1, .int (Int32.ofInt b1)), (2, .int (Int32.ofInt (pe : Int))), (3, .int (Int32.ofInt (pa : Int))), (4, .int (Int32.ofInt (po : Int)))]) (st' := [.int (Int32.ofInt 1)]) 4 rfl ?_
      refine xr_if_eq rfl (by omega) (fun z41 => ?_) (fun z41 => ?_)
      · exfalso; omega
      · refine xr_steps (pc' := 39) (L' := [(7, .int (Int32.ofInt 1)), (6, .int (Int32.ofInt ((xv_p uu).length : Int))), (5, .int (Int32.ofInt ((xv_p tt).length : Int))), (0, .ref 165), (1, .int (Int32.ofInt b1)), (2, .int (Int32.ofInt (pe : Int))), (3, .int (Int32.ofInt (pa : Int))), (4, .int (Int32.ofInt (po : Int)))]) (st' := [.int (Int32.ofInt 2), .ref 165]) 2 rfl ?_
        refine xr_call (q := (.invokevirtual 226, 3, 243, 2)) (av := [.ref 165, .int (Int32.ofInt 2)]) (rest := []) rfl rfl (by decide) rfl (ym_rcv hA rfl) (Nat.le_of_ble_eq_true rfl) (mo_243 (l := l) (ms := ms) hA hC.2.2.2.2.2.1 hp (by omega)) ?_
        rintro _ _ ⟨rfl, s1, t1, eA, i1, i2, i3⟩
        rw [eA]
        clear eA
        refine xr_steps (pc' := 43) (L' := [(7, .int (Int32.ofInt 1)), (6, .int (Int32.ofInt ((xv_p uu).length : Int))), (5, .int (Int32.ofInt ((xv_p tt).length : Int))), (0, .ref 165), (1, .int (Int32.ofInt b1)), (2, .int (Int32.ofInt (pe : Int))), (3, .int (Int32.ofInt (pa : Int))), (4, .int (Int32.ofInt (po : Int)))]) (st' := [.int (Int32.ofInt b1)]) 1 rfl ?_
        refine xr_if_eq rfl (by omega) (fun z42 => ?_) (fun z42 => ?_)
        · refine xr_steps (pc' := 64) (L' := [(7, .int (Int32.ofInt 1)), (6, .int (Int32.ofInt ((xv_p uu).length : Int))), (5, .int (Int32.ofInt ((xv_p tt).length : Int))), (0, .ref 165), (1, .int (Int32.ofInt b1)), (2, .int (Int32.ofInt (pe : Int))), (3, .int (Int32.ofInt (pa : Int))), (4, .int (Int32.ofInt (po : Int)))]) (st' := [.int (Int32.ofInt ((xv_p uu).length : Int)), .int (Int32.ofInt ((xv_p tt).length : Int))]) 2 rfl ?_
          refine xr_icmp_ge rfl (by omega) (by omega) (fun z43 => ?_) (fun z43 => ?_)
          · refine xr_steps (pc' := 79) (L' := [(8, .int (Int32.ofInt ((xv_p uu).length : Int))), (7, .int (Int32.ofInt 1)), (6, .int (Int32.ofInt ((xv_p uu).length : Int))), (5, .int (Int32.ofInt ((xv_p tt).length : Int))), (0, .ref 165), (1, .int (Int32.ofInt b1)), (2, .int (Int32.ofInt (pe : Int))), (3, .int (Int32.ofInt (pa : Int))), (4, .int (Int32.ofInt (po : Int)))]) (st' := [.int (Int32.ofInt 1), .int (Int32.ofInt ((xv_p uu).length : Int))]) 4 rfl ?_
            refine xr_isub rfl ?_
            refine xr_steps (pc' := 82) (L' := [(9, .int (Int32.ofInt (((xv_p uu).length : Int) - 1))), (8, .int (Int32.ofInt ((xv_p uu).length : Int))), (7, .int (Int32.ofInt 1)), (6, .int (Int32.ofInt ((xv_p uu).length : Int))), (5, .int (Int32.ofInt ((xv_p tt).length : Int))), (0, .ref 165), (1, .int (Int32.ofInt b1)), (2, .int (Int32.ofInt (pe : Int))), (3, .int (Int32.ofInt (pa : Int))), (4, .int (Int32.ofInt (po : Int)))]) (st' := []) 1 rfl ?_
            refine xr_loc (L := [(9, .int (Int32.ofInt (((xv_p uu).length : Int) - 1))), (0, .ref 165), (1, .int (Int32.ofInt b1)), (2, .int (Int32.ofInt (pe : Int))), (3, .int (Int32.ofInt (pa : Int))), (4, .int (Int32.ofInt (po : Int))), (5, .int (Int32.ofInt ((xv_p tt).length : Int))), (6, .int (Int32.ofInt ((xv_p uu).length : Int))), (7, .int (Int32.ofInt 1)), (8, .int (Int32.ofInt ((xv_p uu).length : Int)))]) (show [9, 0, 1, 2, 3, 4, 5, 6, 7, 8].Nodup by decide) ⟨rfl, rfl, rfl, rfl, rfl, rfl, rfl, rfl, rfl, rfl, trivial⟩ ?_
            first
            | (exfalso; omega)
            | (have hN : (xv_p uu).length ≤ (xv_p uu).length := by omega
               have hE0 : xel (xcm sl H st m) (xv_p tt) lo l ((xv_p uu).drop (xv_p uu).length) (xv_p uu).length = [] := xel_end (by first | (exact Or.inl (Nat.le_refl _)) | (exact Or.inr (Or.inl (by omega))) | (exact Or.inr (Or.inr ⟨(hb1.resolve_left (by omega)).2, by omega⟩)))
               have hJ := xjk_le (g := xjc H st m) (ps := xv_p tt) (lo := lo) (l := l) hN
               refine mo_252l (n := (xv_p uu).length) (hb := js.length) (X := xout js) (C0 := xcost js + xjk (xjc H st m) (xv_p tt) lo l (xv_p uu) (xv_p uu).length) (B0 := 0) hA hE hm he hu hze hza hdk hl h4 ⟨hN, by omega, by first | (exact Or.inr (by omega)) | (exact Or.inl (hb1.resolve_right (by omega)).2)⟩ hh (xv_p uu).length _ _ K pth js (Nat.le_refl _) (xCMS_le (xCMS_ls hC i1 i2 i3) (by omega)) hpo (by omega) rfl (by rw [hE0]; rfl) (fun s' t' K' pth' js' g1 g2 g3 g4 => ?_)
               refine mo_252e (by omega) ⟨_, rfl, 1, s', t', K', pth', js', [(2, l)], ⟨rfl, rfl⟩, ⟨rfl, ?_⟩, g1, by rw [g3]; omega, g4⟩
               exact (if_pos ⟨(hb1.resolve_left (by omega)).2, by omega⟩).symm)
          · refine xr_steps (pc' := 79) (L' := [(8, .int (Int32.ofInt ((xv_p tt).length : Int))), (7, .int (Int32.ofInt 1)), (6, .int (Int32.ofInt ((xv_p uu).length : Int))), (5, .int (Int32.ofInt ((xv_p tt).length : Int))), (0, .ref 165), (1, .int (Int32.ofInt b1)), (2, .int (Int32.ofInt (pe : Int))), (3, .int (Int32.ofInt (pa : Int))), (4, .int (Int32.ofInt (po : Int)))]) (st' := [.int (Int32.ofInt 1), .int (Int32.ofInt ((xv_p tt).length : Int))]) 5 rfl ?_
            refine xr_isub rfl ?_
            refine xr_steps (pc' := 82) (L' := [(9, .int (Int32.ofInt (((xv_p tt).length : Int) - 1))), (8, .int (Int32.ofInt ((xv_p tt).length : Int))), (7, .int (Int32.ofInt 1)), (6, .int (Int32.ofInt ((xv_p uu).length : Int))), (5, .int (Int32.ofInt ((xv_p tt).length : Int))), (0, .ref 165), (1, .int (Int32.ofInt b1)), (2, .int (Int32.ofInt (pe : Int))), (3, .int (Int32.ofInt (pa : Int))), (4, .int (Int32.ofInt (po : Int)))]) (st' := []) 1 rfl ?_
            refine xr_loc (L := [(9, .int (Int32.ofInt (((xv_p tt).length : Int) - 1))), (0, .ref 165), (1, .int (Int32.ofInt b1)), (2, .int (Int32.ofInt (pe : Int))), (3, .int (Int32.ofInt (pa : Int))), (4, .int (Int32.ofInt (po : Int))), (5, .int (Int32.ofInt ((xv_p tt).length : Int))), (6, .int (Int32.ofInt ((xv_p uu).length : Int))), (7, .int (Int32.ofInt 1)), (8, .int (Int32.ofInt ((xv_p tt).length : Int)))]) (show [9, 0, 1, 2, 3, 4, 5, 6, 7, 8].Nodup by decide) ⟨rfl, rfl, rfl, rfl, rfl, rfl, rfl, rfl, rfl, rfl, trivial⟩ ?_
            first
            | (exfalso; omega)
            | (have hN : (xv_p tt).length ≤ (xv_p uu).length := by omega
               have hE0 : xel (xcm sl H st m) (xv_p tt) lo l ((xv_p uu).drop (xv_p tt).length) (xv_p tt).length = [] := xel_end (by first | (exact Or.inl (Nat.le_refl _)) | (exact Or.inr (Or.inl (by omega))) | (exact Or.inr (Or.inr ⟨(hb1.resolve_left (by omega)).2, by omega⟩)))
               have hJ := xjk_le (g := xjc H st m) (ps := xv_p tt) (lo := lo) (l := l) hN
               refine mo_252l (n := (xv_p tt).length) (hb := js.length) (X := xout js) (C0 := xcost js + xjk (xjc H st m) (xv_p tt) lo l (xv_p uu) (xv_p tt).length) (B0 := 0) hA hE hm he hu hze hza hdk hl h4 ⟨hN, by omega, by first | (exact Or.inr (by omega)) | (exact Or.inl (hb1.resolve_right (by omega)).2)⟩ hh (xv_p tt).length _ _ K pth js (Nat.le_refl _) (xCMS_le (xCMS_ls hC i1 i2 i3) (by omega)) hpo (by omega) rfl (by rw [hE0]; rfl) (fun s' t' K' pth' js' g1 g2 g3 g4 => ?_)
               refine mo_252e (by omega) ⟨_, rfl, 1, s', t', K', pth', js', [(2, l)], ⟨rfl, rfl⟩, ⟨rfl, ?_⟩, g1, by rw [g3]; omega, g4⟩
               exact (if_pos ⟨(hb1.resolve_left (by omega)).2, by omega⟩).symm)
        · refine xr_steps (pc' := 48) (L' := [(7, .int (Int32.ofInt 1)), (6, .int (Int32.ofInt ((xv_p uu).length : Int))), (5, .int (Int32.ofInt ((xv_p tt).length : Int))), (0, .ref 165), (1, .int (Int32.ofInt b1)), (2, .int (Int32.ofInt (pe : Int))), (3, .int (Int32.ofInt (pa : Int))), (4, .int (Int32.ofInt (po : Int)))]) (st' := [.int (Int32.ofInt ((xv_p tt).length : Int))]) 1 rfl ?_
          refine xr_if_ne rfl (by omega) (fun z44 => ?_) (fun z44 => ?_)
          · refine xr_steps (pc' := 79) (L' := [(8, .int (Int32.ofInt ((xv_p uu).length : Int))), (7, .int (Int32.ofInt 1)), (6, .int (Int32.ofInt ((xv_p uu).length : Int))), (5, .int (Int32.ofInt ((xv_p tt).length : Int))), (0, .ref 165), (1, .int (Int32.ofInt b1)), (2, .int (Int32.ofInt (pe : Int))), (3, .int (Int32.ofInt (pa : Int))), (4, .int (Int32.ofInt (po : Int)))]) (st' := [.int (Int32.ofInt 1), .int (Int32.ofInt ((xv_p uu).length : Int))]) 5 rfl ?_
            refine xr_isub rfl ?_
            refine xr_steps (pc' := 82) (L' := [(9, .int (Int32.ofInt (((xv_p uu).length : Int) - 1))), (8, .int (Int32.ofInt ((xv_p uu).length : Int))), (7, .int (Int32.ofInt 1)), (6, .int (Int32.ofInt ((xv_p uu).length : Int))), (5, .int (Int32.ofInt ((xv_p tt).length : Int))), (0, .ref 165), (1, .int (Int32.ofInt b1)), (2, .int (Int32.ofInt (pe : Int))), (3, .int (Int32.ofInt (pa : Int))), (4, .int (Int32.ofInt (po : Int)))]) (st' := []) 1 rfl ?_
            refine xr_loc (L := [(9, .int (Int32.ofInt (((xv_p uu).length : Int) - 1))), (0, .ref 165), (1, .int (Int32.ofInt b1)), (2, .int (Int32.ofInt (pe : Int))), (3, .int (Int32.ofInt (pa : Int))), (4, .int (Int32.ofInt (po : Int))), (5, .int (Int32.ofInt ((xv_p tt).length : Int))), (6, .int (Int32.ofInt ((xv_p uu).length : Int))), (7, .int (Int32.ofInt 1)), (8, .int (Int32.ofInt ((xv_p uu).length : Int)))]) (show [9, 0, 1, 2, 3, 4, 5, 6, 7, 8].Nodup by decide) ⟨rfl, rfl, rfl, rfl, rfl, rfl, rfl, rfl, rfl, rfl, trivial⟩ ?_
            first
            | (exfalso; omega)
            | (have hN : (xv_p uu).length ≤ (xv_p uu).length := by omega
               have hE0 : xel (xcm sl H st m) (xv_p tt) lo l ((xv_p uu).drop (xv_p uu).length) (xv_p uu).length = [] := xel_end (by first | (exact Or.inl (Nat.le_refl _)) | (exact Or.inr (Or.inl (by omega))) | (exact Or.inr (Or.inr ⟨(hb1.resolve_left (by omega)).2, by omega⟩)))
               have hJ := xjk_le (g := xjc H st m) (ps := xv_p tt) (lo := lo) (l := l) hN
               refine mo_252l (n := (xv_p uu).length) (hb := js.length) (X := xout js) (C0 := xcost js + xjk (xjc H st m) (xv_p tt) lo l (xv_p uu) (xv_p uu).length) (B0 := 0) hA hE hm he hu hze hza hdk hl h4 ⟨hN, by omega, by first | (exact Or.inr (by omega)) | (exact Or.inl (hb1.resolve_right (by omega)).2)⟩ hh (xv_p uu).length _ _ K pth js (Nat.le_refl _) (xCMS_le (xCMS_ls hC i1 i2 i3) (by omega)) hpo (by omega) rfl (by rw [hE0]; rfl) (fun s' t' K' pth' js' g1 g2 g3 g4 => ?_)
               refine mo_252e (by omega) ⟨_, rfl, 1, s', t', K', pth', js', [(2, l)], ⟨rfl, rfl⟩, ⟨rfl, ?_⟩, g1, by rw [g3]; omega, g4⟩
               exact (if_pos ⟨(hb1.resolve_left (by omega)).2, by omega⟩).symm)
          · refine xr_steps (pc' := 79) (L' := [(8, .int (Int32.ofInt 0)), (7, .int (Int32.ofInt 1)), (6, .int (Int32.ofInt ((xv_p uu).length : Int))), (5, .int (Int32.ofInt ((xv_p tt).length : Int))), (0, .ref 165), (1, .int (Int32.ofInt b1)), (2, .int (Int32.ofInt (pe : Int))), (3, .int (Int32.ofInt (pa : Int))), (4, .int (Int32.ofInt (po : Int)))]) (st' := [.int (Int32.ofInt 1), .int (Int32.ofInt 0)]) 5 rfl ?_
            refine xr_isub rfl ?_
            refine xr_steps (pc' := 82) (L' := [(9, .int (Int32.ofInt (0 - 1))), (8, .int (Int32.ofInt 0)), (7, .int (Int32.ofInt 1)), (6, .int (Int32.ofInt ((xv_p uu).length : Int))), (5, .int (Int32.ofInt ((xv_p tt).length : Int))), (0, .ref 165), (1, .int (Int32.ofInt b1)), (2, .int (Int32.ofInt (pe : Int))), (3, .int (Int32.ofInt (pa : Int))), (4, .int (Int32.ofInt (po : Int)))]) (st' := []) 1 rfl ?_
            refine xr_loc (L := [(9, .int (Int32.ofInt (0 - 1))), (0, .ref 165), (1, .int (Int32.ofInt b1)), (2, .int (Int32.ofInt (pe : Int))), (3, .int (Int32.ofInt (pa : Int))), (4, .int (Int32.ofInt (po : Int))), (5, .int (Int32.ofInt ((xv_p tt).length : Int))), (6, .int (Int32.ofInt ((xv_p uu).length : Int))), (7, .int (Int32.ofInt 1)), (8, .int (Int32.ofInt 0))]) (show [9, 0, 1, 2, 3, 4, 5, 6, 7, 8].Nodup by decide) ⟨rfl, rfl, rfl, rfl, rfl, rfl, rfl, rfl, rfl, rfl, trivial⟩ ?_
            rw [show (0 : Int) - 1 = ((0 : Nat) : Int) - 1 from rfl]
            first
            | (exfalso; omega)
            | (have hN : 0 ≤ (xv_p uu).length := by omega
               have hE0 : xel (xcm sl H st m) (xv_p tt) lo l ((xv_p uu).drop 0) 0 = [] := xel_end (by first | (exact Or.inl (Nat.le_refl _)) | (exact Or.inr (Or.inl (by omega))) | (exact Or.inr (Or.inr ⟨(hb1.resolve_left (by omega)).2, by omega⟩)))
               have hJ := xjk_le (g := xjc H st m) (ps := xv_p tt) (lo := lo) (l := l) hN
               refine mo_252l (n := 0) (hb := js.length) (X := xout js) (C0 := xcost js + xjk (xjc H st m) (xv_p tt) lo l (xv_p uu) 0) (B0 := 0) hA hE hm he hu hze hza hdk hl h4 ⟨hN, by omega, by first | (exact Or.inr (by omega)) | (exact Or.inl (hb1.resolve_right (by omega)).2)⟩ hh 0 _ _ K pth js (Nat.le_refl _) (xCMS_le (xCMS_ls hC i1 i2 i3) (by omega)) hpo (by omega) rfl (by rw [hE0]; rfl) (fun s' t' K' pth' js' g1 g2 g3 g4 => ?_)
               refine mo_252e (by omega) ⟨_, rfl, 1, s', t', K', pth', js', [(2, l)], ⟨rfl, rfl⟩, ⟨rfl, ?_⟩, g1, by rw [g3]; omega, g4⟩
               exact (if_pos ⟨(hb1.resolve_left (by omega)).2, by omega⟩).symm)
end EM
