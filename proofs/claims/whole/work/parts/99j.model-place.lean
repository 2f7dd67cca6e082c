/-! The reference reads a place -/
/-- a step as the reference has it -/
def xcv (s : Int) : Int := if 1000 ≤ s then s - 1000 else -1 - s
/-- the steps l stand in the row g -/
def xrow (g : Nat → Int) (l : List Int) : Prop := ∀ j : Nat, j < l.length → g j = xcv (l.getD j 0)
theorem xrow_app {g : Nat → Int} {l : List Int} {s v : Int} (h : xrow g l) (hv : v = xcv s) : xrow (va_up g l.length v) (l ++ [s]) := by
  intro j hj
  rw [xl_snoc l s j hj]
  by_cases e : j = l.length
  · rw [if_pos e, e, ya_up_same, hv]
  · rw [if_neg e, ya_up_ne _ _ e]
    rw [List.length_append, List.length_singleton] at hj
    exact h j (by omega)
section X0
variable {e : Nat → Int} {i : Nat}
theorem xsk0_yes (h : 97 ≤ e i ∧ e i ≤ 122) : xsk 0 e i = some (1000 + e i, i + 1) := by
  unfold xsk
  rw [if_neg (fun h => absurd h.1 (by omega)), if_pos h]
theorem xsk0_no (h : ¬ (97 ≤ e i ∧ e i ≤ 122)) : xsk 0 e i = none := by
  unfold xsk
  rw [if_neg (fun h => absurd h.1 (by omega)), if_neg h]
theorem xsn0_two (h1 : 48 ≤ e i ∧ e i ≤ 57) (h2 : ¬ e i = 48) (h3 : 48 ≤ e (i + 1) ∧ e (i + 1) ≤ 57) (h4 : e (i + 2) = 93) : xsn 0 e i = some (10 * (e i - 48) + (e (i + 1) - 48), i + 3) := by
  unfold xsn
  rw [if_neg (fun h => absurd h.1 (by omega)), if_pos h1, if_pos ⟨by omega, h2, h3⟩, if_pos h4]
theorem xsn0_one (h1 : 48 ≤ e i ∧ e i ≤ 57) (h2 : ¬ (¬ e i = 48 ∧ 48 ≤ e (i + 1) ∧ e (i + 1) ≤ 57)) (h4 : e (i + 1) = 93) : xsn 0 e i = some (e i - 48, i + 2) := by
  unfold xsn
  rw [if_neg (fun h => absurd h.1 (by omega)), if_pos h1, if_neg (fun h => h2 h.2), if_pos h4]
theorem xsn0_no (h : ¬ (48 ≤ e i ∧ e i ≤ 57) ∨ ((¬ e i = 48 ∧ 48 ≤ e (i + 1) ∧ e (i + 1) ≤ 57) ∧ ¬ e (i + 2) = 93) ∨ (¬ (¬ e i = 48 ∧ 48 ≤ e (i + 1) ∧ e (i + 1) ≤ 57) ∧ ¬ e (i + 1) = 93)) : xsn 0 e i = none := by
  unfold xsn
  rw [if_neg (fun h => absurd h.1 (by omega))]
  by_cases h1 : 48 ≤ e i ∧ e i ≤ 57
  · rw [if_pos h1]
    by_cases h2 : ¬ e i = 48 ∧ 48 ≤ e (i + 1) ∧ e (i + 1) ≤ 57
    · rw [if_pos ⟨by omega, h2⟩, if_neg (by omega)]
    · rw [if_neg (fun h => h2 h.2), if_neg (by omega)]
  · rw [if_neg h1]
theorem xsn0p_two {p : Nat} (h1 : 48 ≤ e (p + 1) ∧ e (p + 1) ≤ 57) (h2 : ¬ e (p + 1) = 48) (h3 : 48 ≤ e (p + 2) ∧ e (p + 2) ≤ 57) (h4 : e (p + 3) = 93) : xsn 0 e (p + 1) = some (10 * (e (p + 1) - 48) + (e (p + 2) - 48), p + 4) := xsn0_two (i := p + 1) h1 h2 h3 h4
theorem xsn0p_one {p : Nat} (h1 : 48 ≤ e (p + 1) ∧ e (p + 1) ≤ 57) (h2 : ¬ (¬ e (p + 1) = 48 ∧ 48 ≤ e (p + 2) ∧ e (p + 2) ≤ 57)) (h4 : e (p + 2) = 93) : xsn 0 e (p + 1) = some (e (p + 1) - 48, p + 3) := xsn0_one (i := p + 1) h1 h2 h4
theorem xsn0p_no {p : Nat} (h : ¬ (48 ≤ e (p + 1) ∧ e (p + 1) ≤ 57) ∨ ((¬ e (p + 1) = 48 ∧ 48 ≤ e (p + 2) ∧ e (p + 2) ≤ 57) ∧ ¬ e (p + 3) = 93) ∨ (¬ (¬ e (p + 1) = 48 ∧ 48 ≤ e (p + 2) ∧ e (p + 2) ≤ 57) ∧ ¬ e (p + 2) = 93)) : xsn 0 e (p + 1) = none := xsn0_no (i := p + 1) h
/-- a place from p on, k steps at most, up to the end n -/
def xPL0 (n : Nat) (e : Nat → Int) (k p : Nat) (l : List Int) : Prop := xsp 0 e k p = some (l, n)
theorem xPL_step {n k p q1 : Nat} {s : Int} {l : List Int} (hs : (e p = 46 ∧ xsk 0 e (p + 1) = some (s, q1)) ∨ (e p = 91 ∧ xsn 0 e (p + 1) = some (s, q1))) (h : xPL0 n e k q1 l) : xPL0 n e (k + 1) p (s :: l) := by
  unfold xPL0 at *
  rcases hs with ⟨h1, h2⟩ | ⟨h1, h2⟩
  · rw [xsp_key h1 h2, h]
  · rw [xsp_num h1 h2, h]
theorem xPL_back {n k p q1 : Nat} {s : Int} {l : List Int} (hs : (e p = 46 ∧ xsk 0 e (p + 1) = some (s, q1)) ∨ (e p = 91 ∧ xsn 0 e (p + 1) = some (s, q1))) (h : xPL0 n e (k + 1) p l) : ∃ l', xPL0 n e k q1 l' := by
  unfold xPL0 at *
  have e2 : xsp 0 e (k + 1) p = (match xsp 0 e k q1 with
    | none => none
    | some (l, r) => some (s :: l, r)) := by
    rcases hs with ⟨h3, h4⟩ | ⟨h3, h4⟩
    · exact xsp_key h3 h4
    · exact xsp_num h3 h4
  rw [e2] at h
  cases h5 : xsp 0 e k q1 with
  | none => rw [h5] at h; cases h
  | some z =>
    obtain ⟨l', r⟩ := z
    rw [h5] at h
    cases h
    exact ⟨l', rfl⟩
theorem xPL_no {n k p : Nat} {l : List Int} (hp : ¬ p = n) (h1 : e p = 46 → xsk 0 e (p + 1) = none) (h2 : e p = 91 → xsn 0 e (p + 1) = none) : ¬ xPL0 n e k p l := by
  intro h
  unfold xPL0 at h
  cases k with
  | zero => cases h; exact hp rfl
  | succ k =>
    rw [xsp] at h
    by_cases c1 : e p = 46
    · rw [if_pos c1, h1 c1] at h; cases h
    · rw [if_neg c1] at h
      by_cases c2 : e p = 91
      · rw [if_pos c2, h2 c2] at h; cases h
      · rw [if_neg c2] at h; cases h; exact hp rfl
theorem xPL_end {n k : Nat} (h : ¬ e n = 46 ∧ ¬ e n = 91) : xPL0 n e k n [] := by
  unfold xPL0
  cases k with
  | zero => rfl
  | succ k => rw [xsp, if_neg h.1, if_neg h.2]
theorem xPL_end' {n k : Nat} {l : List Int} (h : ¬ e n = 46 ∧ ¬ e n = 91) (hl : xPL0 n e k n l) : l = [] := by
  have := xPL_end (k := k) h
  unfold xPL0 at *
  rw [hl] at this
  cases this
  rfl
end X0
theorem mo_233n {w : Value} {d : Nat} {A : xb_H} {s : Nat → Int} {t : Nat → Nat → Int} {n p : Nat} {f : Nat → Int} {Q : xb_R → xb_H → Prop} (hA : 194 ≤ A.1) (hx : xtx s t n f) (hp : p < n) (h1 : ∀ (q : Nat) (val : Int), ye n f p = 91 → xsn 0 (ye n f) (p + 1) = some (val, q + 1) → q < n ∧ p < q → 0 ≤ val ∧ val ≤ 99 → xr_ok (xt_G w) (d + 1) 233 165 [(4, .int (Int32.ofInt val)), (3, .int (Int32.ofInt (400 + (q : Int)))), (1, .int (Int32.ofInt (400 + (p : Int)))), (2, .int (Int32.ofInt (400 + (n : Int)))), (0, .ref 165)] [] (ym A s t) Q) (h2 : (ye n f p = 91 → xsn 0 (ye n f) (p + 1) = none) → Q (.inl (some (.int (Int32.ofInt 0)))) (ym A s t)) : xr_ok (xt_G w) (d + 1) 233 70 [(1, .int (Int32.ofInt (400 + (p : Int)))), (2, .int (Int32.ofInt (400 + (n : Int)))), (0, .ref 165)] [] (ym A s t) Q := by
  have hn100 := hx.2.1
  refine xr_steps (pc' := 72) (L' := [(1, .int (Int32.ofInt (400 + (p : Int)))), (2, .int (Int32.ofInt (400 + (n : Int)))), (0, .ref 165)]) (st' := [.int (Int32.ofInt 1), .int (Int32.ofInt (400 + (p : Int)))]) 2 rfl ?_
  refine xr_iadd rfl ?_
  refine xr_steps (pc' := 79) (L' := [(4, .int (Int32.ofInt 0)), (3, .int (Int32.ofInt ((400 + (p : Int)) + 1))), (1, .int (Int32.ofInt (400 + (p : Int)))), (2, .int (Int32.ofInt (400 + (n : Int)))), (0, .ref 165)]) (st' := [.int (Int32.ofInt ((400 + (p : Int)) + 1)), .ref 165]) 5 rfl ?_
  refine xr_call (q := (.invokevirtual 103, 3, 209, 2)) (av := [.ref 165, .int (Int32.ofInt ((400 + (p : Int)) + 1))]) (rest := []) rfl rfl (by decide) rfl (ym_rcv hA rfl) (Nat.le_of_ble_eq_true rfl) (mo_209t (i := (p + 1)) hA hx (by omega) (by omega)) ?_
  rintro _ _ ⟨rfl, eA⟩
  rw [eA]
  clear eA
  have hx31 := xtx_ye hx (p + 1)
  obtain ⟨b32, hb32⟩ := mo_bool (48 ≤ (xat n f (p + 1)) ∧ (xat n f (p + 1)) ≤ 57)
  refine xr_call (q := (.invokestatic 115, 3, 213, 1)) (av := [.int (Int32.ofInt (xat n f (p + 1)))]) (rest := []) rfl rfl (by decide) rfl rfl (Nat.le_of_ble_eq_true rfl) (mo_213 (by omega) hb32) ?_
  rintro _ _ ⟨rfl, eA⟩
  rw [eA]
  clear eA
  refine xr_if_eq rfl (by omega) (fun z33 => ?_) (fun z33 => ?_)
  · refine xr_steps (pc' := 119) (L' := [(4, .int (Int32.ofInt 0)), (3, .int (Int32.ofInt ((400 + (p : Int)) + 1))), (1, .int (Int32.ofInt (400 + (p : Int)))), (2, .int (Int32.ofInt (400 + (n : Int)))), (0, .ref 165)]) (st' := [.int (Int32.ofInt (400 + (p : Int))), .ref 165]) 2 rfl ?_
    refine xr_call (q := (.invokevirtual 103, 3, 209, 2)) (av := [.ref 165, .int (Int32.ofInt (400 + (p : Int)))]) (rest := []) rfl rfl (by decide) rfl (ym_rcv hA rfl) (Nat.le_of_ble_eq_true rfl) (mo_209t (i := p) hA hx (by omega) (by omega)) ?_
    rintro _ _ ⟨rfl, eA⟩
    rw [eA]
    clear eA
    have hx34 := xtx_ye hx p
    refine xr_steps (pc' := 124) (L' := [(4, .int (Int32.ofInt 0)), (3, .int (Int32.ofInt ((400 + (p : Int)) + 1))), (1, .int (Int32.ofInt (400 + (p : Int)))), (2, .int (Int32.ofInt (400 + (n : Int)))), (0, .ref 165)]) (st' := [.int (Int32.ofInt 91), .int (Int32.ofInt (xat n f p))]) 1 rfl ?_
    refine xr_icmp_ne rfl (by omega) (by omega) (fun z35 => ?_) (fun z35 => ?_)
    · refine xr_steps (pc' := 164) (L' := [(4, .int (Int32.ofInt 0)), (3, .int (Int32.ofInt ((400 + (p : Int)) + 1))), (1, .int (Int32.ofInt (400 + (p : Int)))), (2, .int (Int32.ofInt (400 + (n : Int)))), (0, .ref 165)]) (st' := [.int (Int32.ofInt 0)]) 1 rfl ?_
      exact xr_retZ rfl rfl (by omega) (h2 (fun _ => xsn0p_no (by omega)))
    · refine xr_steps (pc' := 130) (L' := [(4, .int (Int32.ofInt 0)), (3, .int (Int32.ofInt ((400 + (p : Int)) + 1))), (1, .int (Int32.ofInt (400 + (p : Int)))), (2, .int (Int32.ofInt (400 + (n : Int)))), (0, .ref 165)]) (st' := [.int (Int32.ofInt 1), .int (Int32.ofInt (400 + (p : Int))), .int (Int32.ofInt ((400 + (p : Int)) + 1))]) 3 rfl ?_
      refine xr_iadd rfl ?_
      refine xr_icmp_eq rfl (by omega) (by omega) (fun z36 => ?_) (fun z36 => ?_)
      · refine xr_steps (pc' := 164) (L' := [(4, .int (Int32.ofInt 0)), (3, .int (Int32.ofInt ((400 + (p : Int)) + 1))), (1, .int (Int32.ofInt (400 + (p : Int)))), (2, .int (Int32.ofInt (400 + (n : Int)))), (0, .ref 165)]) (st' := [.int (Int32.ofInt 0)]) 1 rfl ?_
        exact xr_retZ rfl rfl (by omega) (h2 (fun _ => xsn0p_no (by omega)))
      · refine xr_steps (pc' := 136) (L' := [(4, .int (Int32.ofInt 0)), (3, .int (Int32.ofInt ((400 + (p : Int)) + 1))), (1, .int (Int32.ofInt (400 + (p : Int)))), (2, .int (Int32.ofInt (400 + (n : Int)))), (0, .ref 165)]) (st' := [.int (Int32.ofInt ((400 + (p : Int)) + 1)), .ref 165]) 2 rfl ?_
        refine xr_call (q := (.invokevirtual 103, 3, 209, 2)) (av := [.ref 165, .int (Int32.ofInt ((400 + (p : Int)) + 1))]) (rest := []) rfl rfl (by decide) rfl (ym_rcv hA rfl) (Nat.le_of_ble_eq_true rfl) (mo_209t (i := (p + 1)) hA hx (by omega) (by omega)) ?_
        rintro _ _ ⟨rfl, eA⟩
        rw [eA]
        clear eA
        have hx37 := xtx_ye hx (p + 1)
        refine xr_steps (pc' := 141) (L' := [(4, .int (Int32.ofInt 0)), (3, .int (Int32.ofInt ((400 + (p : Int)) + 1))), (1, .int (Int32.ofInt (400 + (p : Int)))), (2, .int (Int32.ofInt (400 + (n : Int)))), (0, .ref 165)]) (st' := [.int (Int32.ofInt 93), .int (Int32.ofInt (xat n f (p + 1)))]) 1 rfl ?_
        refine xr_icmp_ne rfl (by omega) (by omega) (fun z38 => ?_) (fun z38 => ?_)
        · refine xr_steps (pc' := 164) (L' := [(4, .int (Int32.ofInt 0)), (3, .int (Int32.ofInt ((400 + (p : Int)) + 1))), (1, .int (Int32.ofInt (400 + (p : Int)))), (2, .int (Int32.ofInt (400 + (n : Int)))), (0, .ref 165)]) (st' := [.int (Int32.ofInt 0)]) 1 rfl ?_
          exact xr_retZ rfl rfl (by omega) (h2 (fun _ => xsn0p_no (by omega)))
        · refine xr_steps (pc' := 147) (L' := [(4, .int (Int32.ofInt 0)), (3, .int (Int32.ofInt ((400 + (p : Int)) + 1))), (1, .int (Int32.ofInt (400 + (p : Int)))), (2, .int (Int32.ofInt (400 + (n : Int)))), (0, .ref 165)]) (st' := [.int (Int32.ofInt 3), .int (Int32.ofInt (400 + (p : Int))), .int (Int32.ofInt ((400 + (p : Int)) + 1))]) 3 rfl ?_
          refine xr_iadd rfl ?_
          refine xr_icmp_ne rfl (by omega) (by omega) (fun z39 => ?_) (fun z39 => ?_)
          · refine xr_loc (L := [(4, .int (Int32.ofInt 0)), (3, .int (Int32.ofInt ((400 + (p : Int)) + 1))), (1, .int (Int32.ofInt (400 + (p : Int)))), (2, .int (Int32.ofInt (400 + (n : Int)))), (0, .ref 165)]) (show [4, 3, 1, 2, 0].Nodup by decide) ⟨rfl, rfl, rfl, rfl, rfl, trivial⟩ ?_
            exfalso; omega
          · refine xr_steps (pc' := 154) (L' := [(4, .int (Int32.ofInt 0)), (3, .int (Int32.ofInt ((400 + (p : Int)) + 1))), (1, .int (Int32.ofInt (400 + (p : Int)))), (2, .int (Int32.ofInt (400 + (n : Int)))), (0, .ref 165)]) (st' := [.int (Int32.ofInt 1), .int (Int32.ofInt (400 + (p : Int))), .ref 165]) 3 rfl ?_
            refine xr_iadd rfl ?_
            refine xr_call (q := (.invokevirtual 103, 3, 209, 2)) (av := [.ref 165, .int (Int32.ofInt ((400 + (p : Int)) + 1))]) (rest := []) rfl rfl (by decide) rfl (ym_rcv hA rfl) (Nat.le_of_ble_eq_true rfl) (mo_209t (i := (p + 1)) hA hx (by omega) (by omega)) ?_
            rintro _ _ ⟨rfl, eA⟩
            rw [eA]
            clear eA
            have hx40 := xtx_ye hx (p + 1)
            refine xr_steps (pc' := 160) (L' := [(4, .int (Int32.ofInt 0)), (3, .int (Int32.ofInt ((400 + (p : Int)) + 1))), (1, .int (Int32.ofInt (400 + (p : Int)))), (2, .int (Int32.ofInt (400 + (n : Int)))), (0, .ref 165)]) (st' := [.int (Int32.ofInt 48), .int (Int32.ofInt (xat n f (p + 1)))]) 1 rfl ?_
            refine xr_icmp_ne rfl (by omega) (by omega) (fun z41 => ?_) (fun z41 => ?_)
            · refine xr_loc (L := [(4, .int (Int32.ofInt 0)), (3, .int (Int32.ofInt ((400 + (p : Int)) + 1))), (1, .int (Int32.ofInt (400 + (p : Int)))), (2, .int (Int32.ofInt (400 + (n : Int)))), (0, .ref 165)]) (show [4, 3, 1, 2, 0].Nodup by decide) ⟨rfl, rfl, rfl, rfl, rfl, trivial⟩ ?_
              exfalso; omega
            · refine xr_steps (pc' := 164) (L' := [(4, .int (Int32.ofInt 0)), (3, .int (Int32.ofInt ((400 + (p : Int)) + 1))), (1, .int (Int32.ofInt (400 + (p : Int)))), (2, .int (Int32.ofInt (400 + (n : Int)))), (0, .ref 165)]) (st' := [.int (Int32.ofInt 0)]) 1 rfl ?_
              exact xr_retZ rfl rfl (by omega) (h2 (fun _ => xsn0p_no (by omega)))
  · refine xr_steps (pc' := 91) (L' := [(4, .int (Int32.ofInt 0)), (3, .int (Int32.ofInt ((400 + (p : Int)) + 1))), (1, .int (Int32.ofInt (400 + (p : Int)))), (2, .int (Int32.ofInt (400 + (n : Int)))), (0, .ref 165)]) (st' := [.int (Int32.ofInt 3), .int (Int32.ofInt (400 + (p : Int))), .int (Int32.ofInt ((400 + (p : Int)) + 1))]) 3 rfl ?_
    refine xr_iadd rfl ?_
    refine xr_icmp_ge rfl (by omega) (by omega) (fun z42 => ?_) (fun z42 => ?_)
    · refine xr_steps (pc' := 119) (L' := [(4, .int (Int32.ofInt 0)), (3, .int (Int32.ofInt ((400 + (p : Int)) + 1))), (1, .int (Int32.ofInt (400 + (p : Int)))), (2, .int (Int32.ofInt (400 + (n : Int)))), (0, .ref 165)]) (st' := [.int (Int32.ofInt (400 + (p : Int))), .ref 165]) 2 rfl ?_
      refine xr_call (q := (.invokevirtual 103, 3, 209, 2)) (av := [.ref 165, .int (Int32.ofInt (400 + (p : Int)))]) (rest := []) rfl rfl (by decide) rfl (ym_rcv hA rfl) (Nat.le_of_ble_eq_true rfl) (mo_209t (i := p) hA hx (by omega) (by omega)) ?_
      rintro _ _ ⟨rfl, eA⟩
      rw [eA]
      clear eA
      have hx43 := xtx_ye hx p
      refine xr_steps (pc' := 124) (L' := [(4, .int (Int32.ofInt 0)), (3, .int (Int32.ofInt ((400 + (p : Int)) + 1))), (1, .int (Int32.ofInt (400 + (p : Int)))), (2, .int (Int32.ofInt (400 + (n : Int)))), (0, .ref 165)]) (st' := [.int (Int32.ofInt 91), .int (Int32.ofInt (xat n f p))]) 1 rfl ?_
      refine xr_icmp_ne rfl (by omega) (by omega) (fun z44 => ?_) (fun z44 => ?_)
      · refine xr_steps (pc' := 164) (L' := [(4, .int (Int32.ofInt 0)), (3, .int (Int32.ofInt ((400 + (p : Int)) + 1))), (1, .int (Int32.ofInt (400 + (p : Int)))), (2, .int (Int32.ofInt (400 + (n : Int)))), (0, .ref 165)]) (st' := [.int (Int32.ofInt 0)]) 1 rfl ?_
        exact xr_retZ rfl rfl (by omega) (h2 (fun _ => xsn0p_no (by omega)))
      · refine xr_steps (pc' := 130) (L' := [(4, .int (Int32.ofInt 0)), (3, .int (Int32.ofInt ((400 + (p : Int)) + 1))), (1, .int (Int32.ofInt (400 + (p : Int)))), (2, .int (Int32.ofInt (400 + (n : Int)))), (0, .ref 165)]) (st' := [.int (Int32.ofInt 1), .int (Int32.ofInt (400 + (p : Int))), .int (Int32.ofInt ((400 + (p : Int)) + 1))]) 3 rfl ?_
        refine xr_iadd rfl ?_
        refine xr_icmp_eq rfl (by omega) (by omega) (fun z45 => ?_) (fun z45 => ?_)
        · refine xr_steps (pc' := 164) (L' := [(4, .int (Int32.ofInt 0)), (3, .int (Int32.ofInt ((400 + (p : Int)) + 1))), (1, .int (Int32.ofInt (400 + (p : Int)))), (2, .int (Int32.ofInt (400 + (n : Int)))), (0, .ref 165)]) (st' := [.int (Int32.ofInt 0)]) 1 rfl ?_
          exact xr_retZ rfl rfl (by omega) (h2 (fun _ => xsn0p_no (by omega)))
        · refine xr_steps (pc' := 136) (L' := [(4, .int (Int32.ofInt 0)), (3, .int (Int32.ofInt ((400 + (p : Int)) + 1))), (1, .int (Int32.ofInt (400 + (p : Int)))), (2, .int (Int32.ofInt (400 + (n : Int)))), (0, .ref 165)]) (st' := [.int (Int32.ofInt ((400 + (p : Int)) + 1)), .ref 165]) 2 rfl ?_
          refine xr_call (q := (.invokevirtual 103, 3, 209, 2)) (av := [.ref 165, .int (Int32.ofInt ((400 + (p : Int)) + 1))]) (rest := []) rfl rfl (by decide) rfl (ym_rcv hA rfl) (Nat.le_of_ble_eq_true rfl) (mo_209t (i := (p + 1)) hA hx (by omega) (by omega)) ?_
          rintro _ _ ⟨rfl, eA⟩
          rw [eA]
          clear eA
          have hx46 := xtx_ye hx (p + 1)
          refine xr_steps (pc' := 141) (L' := [(4, .int (Int32.ofInt 0)), (3, .int (Int32.ofInt ((400 + (p : Int)) + 1))), (1, .int (Int32.ofInt (400 + (p : Int)))), (2, .int (Int32.ofInt (400 + (n : Int)))), (0, .ref 165)]) (st' := [.int (Int32.ofInt 93), .int (Int32.ofInt (xat n f (p + 1)))]) 1 rfl ?_
          refine xr_icmp_ne rfl (by omega) (by omega) (fun z47 => ?_) (fun z47 => ?_)
          · refine xr_steps (pc' := 164) (L' := [(4, .int (Int32.ofInt 0)), (3, .int (Int32.ofInt ((400 + (p : Int)) + 1))), (1, .int (Int32.ofInt (400 + (p : Int)))), (2, .int (Int32.ofInt (400 + (n : Int)))), (0, .ref 165)]) (st' := [.int (Int32.ofInt 0)]) 1 rfl ?_
            exact xr_retZ rfl rfl (by omega) (h2 (fun _ => xsn0p_no (by omega)))
          · refine xr_steps (pc' := 147) (L' := [(4, .int (Int32.ofInt 0)), (3, .int (Int32.ofInt ((400 + (p : Int)) + 1))), (1, .int (Int32.ofInt (400 + (p : Int)))), (2, .int (Int32.ofInt (400 + (n : Int)))), (0, .ref 165)]) (st' := [.int (Int32.ofInt 3), .int (Int32.ofInt (400 + (p : Int))), .int (Int32.ofInt ((400 + (p : Int)) + 1))]) 3 rfl ?_
            refine xr_iadd rfl ?_
            refine xr_icmp_ne rfl (by omega) (by omega) (fun z48 => ?_) (fun z48 => ?_)
            · refine xr_loc (L := [(4, .int (Int32.ofInt 0)), (3, .int (Int32.ofInt ((400 + (p : Int)) + 1))), (1, .int (Int32.ofInt (400 + (p : Int)))), (2, .int (Int32.ofInt (400 + (n : Int)))), (0, .ref 165)]) (show [4, 3, 1, 2, 0].Nodup by decide) ⟨rfl, rfl, rfl, rfl, rfl, trivial⟩ ?_
              exfalso; omega
            · refine xr_steps (pc' := 154) (L' := [(4, .int (Int32.ofInt 0)), (3, .int (Int32.ofInt ((400 + (p : Int)) + 1))), (1, .int (Int32.ofInt (400 + (p : Int)))), (2, .int (Int32.ofInt (400 + (n : Int)))), (0, .ref 165)]) (st' := [.int (Int32.ofInt 1), .int (Int32.ofInt (400 + (p : Int))), .ref 165]) 3 rfl ?_
              refine xr_iadd rfl ?_
              refine xr_call (q := (.invokevirtual 103, 3, 209, 2)) (av := [.ref 165, .int (Int32.ofInt ((400 + (p : Int)) + 1))]) (rest := []) rfl rfl (by decide) rfl (ym_rcv hA rfl) (Nat.le_of_ble_eq_true rfl) (mo_209t (i := (p + 1)) hA hx (by omega) (by omega)) ?_
              rintro _ _ ⟨rfl, eA⟩
              rw [eA]
              clear eA
              have hx49 := xtx_ye hx (p + 1)
              refine xr_steps (pc' := 160) (L' := [(4, .int (Int32.ofInt 0)), (3, .int (Int32.ofInt ((400 + (p : Int)) + 1))), (1, .int (Int32.ofInt (400 + (p : Int)))), (2, .int (Int32.ofInt (400 + (n : Int)))), (0, .ref 165)]) (st' := [.int (Int32.ofInt 48), .int (Int32.ofInt (xat n f (p + 1)))]) 1 rfl ?_
              refine xr_icmp_ne rfl (by omega) (by omega) (fun z50 => ?_) (fun z50 => ?_)
              · refine xr_loc (L := [(4, .int (Int32.ofInt 0)), (3, .int (Int32.ofInt ((400 + (p : Int)) + 1))), (1, .int (Int32.ofInt (400 + (p : Int)))), (2, .int (Int32.ofInt (400 + (n : Int)))), (0, .ref 165)]) (show [4, 3, 1, 2, 0].Nodup by decide) ⟨rfl, rfl, rfl, rfl, rfl, trivial⟩ ?_
                exfalso; omega
              · refine xr_steps (pc' := 164) (L' := [(4, .int (Int32.ofInt 0)), (3, .int (Int32.ofInt ((400 + (p : Int)) + 1))), (1, .int (Int32.ofInt (400 + (p : Int)))), (2, .int (Int32.ofInt (400 + (n : Int)))), (0, .ref 165)]) (st' := [.int (Int32.ofInt 0)]) 1 rfl ?_
                exact xr_retZ rfl rfl (by omega) (h2 (fun _ => xsn0p_no (by omega)))
    · refine xr_steps (pc' := 99) (L' := [(4, .int (Int32.ofInt 0)), (3, .int (Int32.ofInt ((400 + (p : Int)) + 1))), (1, .int (Int32.ofInt (400 + (p : Int)))), (2, .int (Int32.ofInt (400 + (n : Int)))), (0, .ref 165)]) (st' := [.int (Int32.ofInt 0), .int (Int32.ofInt 10)]) 2 rfl ?_
      refine xr_imul rfl ?_
      refine xr_steps (pc' := 102) (L' := [(4, .int (Int32.ofInt 0)), (3, .int (Int32.ofInt ((400 + (p : Int)) + 1))), (1, .int (Int32.ofInt (400 + (p : Int)))), (2, .int (Int32.ofInt (400 + (n : Int)))), (0, .ref 165)]) (st' := [.int (Int32.ofInt ((400 + (p : Int)) + 1)), .ref 165, .int (Int32.ofInt (10 * 0))]) 2 rfl ?_
      refine xr_call (q := (.invokevirtual 103, 3, 209, 2)) (av := [.ref 165, .int (Int32.ofInt ((400 + (p : Int)) + 1))]) (rest := [.int (Int32.ofInt (10 * 0))]) rfl rfl (by decide) rfl (ym_rcv hA rfl) (Nat.le_of_ble_eq_true rfl) (mo_209t (i := (p + 1)) hA hx (by omega) (by omega)) ?_
      rintro _ _ ⟨rfl, eA⟩
      rw [eA]
      clear eA
      have hx51 := xtx_ye hx (p + 1)
      refine xr_iadd rfl ?_
      refine xr_steps (pc' := 108) (L' := [(4, .int (Int32.ofInt 0)), (3, .int (Int32.ofInt ((400 + (p : Int)) + 1))), (1, .int (Int32.ofInt (400 + (p : Int)))), (2, .int (Int32.ofInt (400 + (n : Int)))), (0, .ref 165)]) (st' := [.int (Int32.ofInt 48), .int (Int32.ofInt ((10 * 0) + (xat n f (p + 1))))]) 1 rfl ?_
      refine xr_isub rfl ?_
      refine xr_steps (pc' := 111) (L' := [(4, .int (Int32.ofInt (((10 * 0) + (xat n f (p + 1))) - 48))), (3, .int (Int32.ofInt ((400 + (p : Int)) + 1))), (1, .int (Int32.ofInt (400 + (p : Int)))), (2, .int (Int32.ofInt (400 + (n : Int)))), (0, .ref 165)]) (st' := []) 1 rfl ?_
      refine xr_iinc (L' := [(3, .int (Int32.ofInt (((400 + (p : Int)) + 1) + 1))), (4, .int (Int32.ofInt (((10 * 0) + (xat n f (p + 1))) - 48))), (1, .int (Int32.ofInt (400 + (p : Int)))), (2, .int (Int32.ofInt (400 + (n : Int)))), (0, .ref 165)]) rfl rfl rfl ?_
      refine xr_steps (pc' := 79) (L' := [(3, .int (Int32.ofInt (((400 + (p : Int)) + 1) + 1))), (4, .int (Int32.ofInt (((10 * 0) + (xat n f (p + 1))) - 48))), (1, .int (Int32.ofInt (400 + (p : Int)))), (2, .int (Int32.ofInt (400 + (n : Int)))), (0, .ref 165)]) (st' := [.int (Int32.ofInt (((400 + (p : Int)) + 1) + 1)), .ref 165]) 3 rfl ?_
      refine xr_call (q := (.invokevirtual 103, 3, 209, 2)) (av := [.ref 165, .int (Int32.ofInt (((400 + (p : Int)) + 1) + 1))]) (rest := []) rfl rfl (by decide) rfl (ym_rcv hA rfl) (Nat.le_of_ble_eq_true rfl) (mo_209t (i := (p + 2)) hA hx (by omega) (by omega)) ?_
      rintro _ _ ⟨rfl, eA⟩
      rw [eA]
      clear eA
      have hx52 := xtx_ye hx (p + 2)
      obtain ⟨b53, hb53⟩ := mo_bool (48 ≤ (xat n f (p + 2)) ∧ (xat n f (p + 2)) ≤ 57)
      refine xr_call (q := (.invokestatic 115, 3, 213, 1)) (av := [.int (Int32.ofInt (xat n f (p + 2)))]) (rest := []) rfl rfl (by decide) rfl rfl (Nat.le_of_ble_eq_true rfl) (mo_213 (by omega) hb53) ?_
      rintro _ _ ⟨rfl, eA⟩
      rw [eA]
      clear eA
      refine xr_if_eq rfl (by omega) (fun z54 => ?_) (fun z54 => ?_)
      · refine xr_steps (pc' := 119) (L' := [(3, .int (Int32.ofInt (((400 + (p : Int)) + 1) + 1))), (4, .int (Int32.ofInt (((10 * 0) + (xat n f (p + 1))) - 48))), (1, .int (Int32.ofInt (400 + (p : Int)))), (2, .int (Int32.ofInt (400 + (n : Int)))), (0, .ref 165)]) (st' := [.int (Int32.ofInt (400 + (p : Int))), .ref 165]) 2 rfl ?_
        refine xr_call (q := (.invokevirtual 103, 3, 209, 2)) (av := [.ref 165, .int (Int32.ofInt (400 + (p : Int)))]) (rest := []) rfl rfl (by decide) rfl (ym_rcv hA rfl) (Nat.le_of_ble_eq_true rfl) (mo_209t (i := p) hA hx (by omega) (by omega)) ?_
        rintro _ _ ⟨rfl, eA⟩
        rw [eA]
        clear eA
        have hx55 := xtx_ye hx p
        refine xr_steps (pc' := 124) (L' := [(3, .int (Int32.ofInt (((400 + (p : Int)) + 1) + 1))), (4, .int (Int32.ofInt (((10 * 0) + (xat n f (p + 1))) - 48))), (1, .int (Int32.ofInt (400 + (p : Int)))), (2, .int (Int32.ofInt (400 + (n : Int)))), (0, .ref 165)]) (st' := [.int (Int32.ofInt 91), .int (Int32.ofInt (xat n f p))]) 1 rfl ?_
        refine xr_icmp_ne rfl (by omega) (by omega) (fun z56 => ?_) (fun z56 => ?_)
        · refine xr_steps (pc' := 164) (L' := [(3, .int (Int32.ofInt (((400 + (p : Int)) + 1) + 1))), (4, .int (Int32.ofInt (((10 * 0) + (xat n f (p + 1))) - 48))), (1, .int (Int32.ofInt (400 + (p : Int)))), (2, .int (Int32.ofInt (400 + (n : Int)))), (0, .ref 165)]) (st' := [.int (Int32.ofInt 0)]) 1 rfl ?_
          exact xr_retZ rfl rfl (by omega) (h2 (fun _ => xsn0p_no (by omega)))
        · refine xr_steps (pc' := 130) (L' := [(3, .int (Int32.ofInt (((400 + (p : Int)) + 1) + 1))), (4, .int (Int32.ofInt (((10 * 0) + (xat n f (p + 1))) - 48))), (1, .int (Int32.ofInt (400 + (p : Int)))), (2, .int (Int32.ofInt (400 + (n : Int)))), (0, .ref 165)]) (st' := [.int (Int32.ofInt 1), .int (Int32.ofInt (400 + (p : Int))), .int (Int32.ofInt (((400 + (p : Int)) + 1) + 1))]) 3 rfl ?_
          refine xr_iadd rfl ?_
          refine xr_icmp_eq rfl (by omega) (by omega) (fun z57 => ?_) (fun z57 => ?_)
          · refine xr_steps (pc' := 164) (L' := [(3, .int (Int32.ofInt (((400 + (p : Int)) + 1) + 1))), (4, .int (Int32.ofInt (((10 * 0) + (xat n f (p + 1))) - 48))), (1, .int (Int32.ofInt (400 + (p : Int)))), (2, .int (Int32.ofInt (400 + (n : Int)))), (0, .ref 165)]) (st' := [.int (Int32.ofInt 0)]) 1 rfl ?_
            exact xr_retZ rfl rfl (by omega) (h2 (fun _ => xsn0p_no (by omega)))
          · refine xr_steps (pc' := 136) (L' := [(3, .int (Int32.ofInt (((400 + (p : Int)) + 1) + 1))), (4, .int (Int32.ofInt (((10 * 0) + (xat n f (p + 1))) - 48))), (1, .int (Int32.ofInt (400 + (p : Int)))), (2, .int (Int32.ofInt (400 + (n : Int)))), (0, .ref 165)]) (st' := [.int (Int32.ofInt (((400 + (p : Int)) + 1) + 1)), .ref 165]) 2 rfl ?_
            refine xr_call (q := (.invokevirtual 103, 3, 209, 2)) (av := [.ref 165, .int (Int32.ofInt (((400 + (p : Int)) + 1) + 1))]) (rest := []) rfl rfl (by decide) rfl (ym_rcv hA rfl) (Nat.le_of_ble_eq_true rfl) (mo_209t (i := (p + 2)) hA hx (by omega) (by omega)) ?_
            rintro _ _ ⟨rfl, eA⟩
            rw [eA]
            clear eA
            have hx58 := xtx_ye hx (p + 2)
            refine xr_steps (pc' := 141) (L' := [(3, .int (Int32.ofInt (((400 + (p : Int)) + 1) + 1))), (4, .int (Int32.ofInt (((10 * 0) + (xat n f (p + 1))) - 48))), (1, .int (Int32.ofInt (400 + (p : Int)))), (2, .int (Int32.ofInt (400 + (n : Int)))), (0, .ref 165)]) (st' := [.int (Int32.ofInt 93), .int (Int32.ofInt (xat n f (p + 2)))]) 1 rfl ?_
            refine xr_icmp_ne rfl (by omega) (by omega) (fun z59 => ?_) (fun z59 => ?_)
            · refine xr_steps (pc' := 164) (L' := [(3, .int (Int32.ofInt (((400 + (p : Int)) + 1) + 1))), (4, .int (Int32.ofInt (((10 * 0) + (xat n f (p + 1))) - 48))), (1, .int (Int32.ofInt (400 + (p : Int)))), (2, .int (Int32.ofInt (400 + (n : Int)))), (0, .ref 165)]) (st' := [.int (Int32.ofInt 0)]) 1 rfl ?_
              exact xr_retZ rfl rfl (by omega) (h2 (fun _ => xsn0p_no (by omega)))
            · refine xr_steps (pc' := 147) (L' := [(3, .int (Int32.ofInt (((400 + (p : Int)) + 1) + 1))), (4, .int (Int32.ofInt (((10 * 0) + (xat n f (p + 1))) - 48))), (1, .int (Int32.ofInt (400 + (p : Int)))), (2, .int (Int32.ofInt (400 + (n : Int)))), (0, .ref 165)]) (st' := [.int (Int32.ofInt 3), .int (Int32.ofInt (400 + (p : Int))), .int (Int32.ofInt (((400 + (p : Int)) + 1) + 1))]) 3 rfl ?_
              refine xr_iadd rfl ?_
              refine xr_icmp_ne rfl (by omega) (by omega) (fun z60 => ?_) (fun z60 => ?_)
              · refine xr_loc (L := [(4, .int (Int32.ofInt (((10 * 0) + (xat n f (p + 1))) - 48))), (3, .int (Int32.ofInt (((400 + (p : Int)) + 1) + 1))), (1, .int (Int32.ofInt (400 + (p : Int)))), (2, .int (Int32.ofInt (400 + (n : Int)))), (0, .ref 165)]) (show [4, 3, 1, 2, 0].Nodup by decide) ⟨rfl, rfl, rfl, rfl, rfl, trivial⟩ ?_
                rw [show ((400 + (p : Int)) + 1) + 1 = 400 + ((p + 2 : Nat) : Int) by omega, show ((10 * 0) + (xat n f (p + 1))) - 48 = (ye n f (p + 1) - 48) by omega]
                exact h1 (p + 2) (ye n f (p + 1) - 48) (by omega) (xsn0p_one (by omega) (by omega) (by omega)) (by omega) (by omega)
              · refine xr_steps (pc' := 154) (L' := [(3, .int (Int32.ofInt (((400 + (p : Int)) + 1) + 1))), (4, .int (Int32.ofInt (((10 * 0) + (xat n f (p + 1))) - 48))), (1, .int (Int32.ofInt (400 + (p : Int)))), (2, .int (Int32.ofInt (400 + (n : Int)))), (0, .ref 165)]) (st' := [.int (Int32.ofInt 1), .int (Int32.ofInt (400 + (p : Int))), .ref 165]) 3 rfl ?_
                refine xr_iadd rfl ?_
                refine xr_call (q := (.invokevirtual 103, 3, 209, 2)) (av := [.ref 165, .int (Int32.ofInt ((400 + (p : Int)) + 1))]) (rest := []) rfl rfl (by decide) rfl (ym_rcv hA rfl) (Nat.le_of_ble_eq_true rfl) (mo_209t (i := (p + 1)) hA hx (by omega) (by omega)) ?_
                rintro _ _ ⟨rfl, eA⟩
                rw [eA]
                clear eA
                have hx61 := xtx_ye hx (p + 1)
                refine xr_steps (pc' := 160) (L' := [(3, .int (Int32.ofInt (((400 + (p : Int)) + 1) + 1))), (4, .int (Int32.ofInt (((10 * 0) + (xat n f (p + 1))) - 48))), (1, .int (Int32.ofInt (400 + (p : Int)))), (2, .int (Int32.ofInt (400 + (n : Int)))), (0, .ref 165)]) (st' := [.int (Int32.ofInt 48), .int (Int32.ofInt (xat n f (p + 1)))]) 1 rfl ?_
                refine xr_icmp_ne rfl (by omega) (by omega) (fun z62 => ?_) (fun z62 => ?_)
                · refine xr_loc (L := [(4, .int (Int32.ofInt (((10 * 0) + (xat n f (p + 1))) - 48))), (3, .int (Int32.ofInt (((400 + (p : Int)) + 1) + 1))), (1, .int (Int32.ofInt (400 + (p : Int)))), (2, .int (Int32.ofInt (400 + (n : Int)))), (0, .ref 165)]) (show [4, 3, 1, 2, 0].Nodup by decide) ⟨rfl, rfl, rfl, rfl, rfl, trivial⟩ ?_
                  rw [show ((400 + (p : Int)) + 1) + 1 = 400 + ((p + 2 : Nat) : Int) by omega, show ((10 * 0) + (xat n f (p + 1))) - 48 = (ye n f (p + 1) - 48) by omega]
                  exact h1 (p + 2) (ye n f (p + 1) - 48) (by omega) (xsn0p_one (by omega) (by omega) (by omega)) (by omega) (by omega)
                · refine xr_steps (pc' := 164) (L' := [(3, .int (Int32.ofInt (((400 + (p : Int)) + 1) + 1))), (4, .int (Int32.ofInt (((10 * 0) + (xat n f (p + 1))) - 48))), (1, .int (Int32.ofInt (400 + (p : Int)))), (2, .int (Int32.ofInt (400 + (n : Int)))), (0, .ref 165)]) (st' := [.int (Int32.ofInt 0)]) 1 rfl ?_
                  exact xr_retZ rfl rfl (by omega) (h2 (fun _ => xsn0p_no (by omega)))
      · refine xr_steps (pc' := 91) (L' := [(3, .int (Int32.ofInt (((400 + (p : Int)) + 1) + 1))), (4, .int (Int32.ofInt (((10 * 0) + (xat n f (p + 1))) - 48))), (1, .int (Int32.ofInt (400 + (p : Int)))), (2, .int (Int32.ofInt (400 + (n : Int)))), (0, .ref 165)]) (st' := [.int (Int32.ofInt 3), .int (Int32.ofInt (400 + (p : Int))), .int (Int32.ofInt (((400 + (p : Int)) + 1) + 1))]) 3 rfl ?_
        refine xr_iadd rfl ?_
        refine xr_icmp_ge rfl (by omega) (by omega) (fun z63 => ?_) (fun z63 => ?_)
        · refine xr_steps (pc' := 119) (L' := [(3, .int (Int32.ofInt (((400 + (p : Int)) + 1) + 1))), (4, .int (Int32.ofInt (((10 * 0) + (xat n f (p + 1))) - 48))), (1, .int (Int32.ofInt (400 + (p : Int)))), (2, .int (Int32.ofInt (400 + (n : Int)))), (0, .ref 165)]) (st' := [.int (Int32.ofInt (400 + (p : Int))), .ref 165]) 2 rfl ?_
          refine xr_call (q := (.invokevirtual 103, 3, 209, 2)) (av := [.ref 165, .int (Int32.ofInt (400 + (p : Int)))]) (rest := []) rfl rfl (by decide) rfl (ym_rcv hA rfl) (Nat.le_of_ble_eq_true rfl) (mo_209t (i := p) hA hx (by omega) (by omega)) ?_
          rintro _ _ ⟨rfl, eA⟩
          rw [eA]
          clear eA
          have hx64 := xtx_ye hx p
          refine xr_steps (pc' := 124) (L' := [(3, .int (Int32.ofInt (((400 + (p : Int)) + 1) + 1))), (4, .int (Int32.ofInt (((10 * 0) + (xat n f (p + 1))) - 48))), (1, .int (Int32.ofInt (400 + (p : Int)))), (2, .int (Int32.ofInt (400 + (n : Int)))), (0, .ref 165)]) (st' := [.int (Int32.ofInt 91), .int (Int32.ofInt (xat n f p))]) 1 rfl ?_
          refine xr_icmp_ne rfl (by omega) (by omega) (fun z65 => ?_) (fun z65 => ?_)
          · refine xr_steps (pc' := 164) (L' := [(3, .int (Int32.ofInt (((400 + (p : Int)) + 1) + 1))), (4, .int (Int32.ofInt (((10 * 0) + (xat n f (p + 1))) - 48))), (1, .int (Int32.ofInt (400 + (p : Int)))), (2, .int (Int32.ofInt (400 + (n : Int)))), (0, .ref 165)]) (st' := [.int (Int32.ofInt 0)]) 1 rfl ?_
            exact xr_retZ rfl rfl (by omega) (h2 (fun _ => xsn0p_no (by omega)))
          · refine xr_steps (pc' := 130) (L' := [(3, .int (Int32.ofInt (((400 + (p : Int)) + 1) + 1))), (4, .int (Int32.ofInt (((10 * 0) + (xat n f (p + 1))) - 48))), (1, .int (Int32.ofInt (400 + (p : Int)))), (2, .int (Int32.ofInt (400 + (n : Int)))), (0, .ref 165)]) (st' := [.int (Int32.ofInt 1), .int (Int32.ofInt (400 + (p : Int))), .int (Int32.ofInt (((400 + (p : Int)) + 1) + 1))]) 3 rfl ?_
            refine xr_iadd rfl ?_
            refine xr_icmp_eq rfl (by omega) (by omega) (fun z66 => ?_) (fun z66 => ?_)
            · refine xr_steps (pc' := 164) (L' := [(3, .int (Int32.ofInt (((400 + (p : Int)) + 1) + 1))), (4, .int (Int32.ofInt (((10 * 0) + (xat n f (p + 1))) - 48))), (1, .int (Int32.ofInt (400 + (p : Int)))), (2, .int (Int32.ofInt (400 + (n : Int)))), (0, .ref 165)]) (st' := [.int (Int32.ofInt 0)]) 1 rfl ?_
              exact xr_retZ rfl rfl (by omega) (h2 (fun _ => xsn0p_no (by omega)))
            · refine xr_steps (pc' := 136) (L' := [(3, .int (Int32.ofInt (((400 + (p : Int)) + 1) + 1))), (4, .int (Int32.ofInt (((10 * 0) + (xat n f (p + 1))) - 48))), (1, .int (Int32.ofInt (400 + (p : Int)))), (2, .int (Int32.ofInt (400 + (n : Int)))), (0, .ref 165)]) (st' := [.int (Int32.ofInt (((400 + (p : Int)) + 1) + 1)), .ref 165]) 2 rfl ?_
              refine xr_call (q := (.invokevirtual 103, 3, 209, 2)) (av := [.ref 165, .int (Int32.ofInt (((400 + (p : Int)) + 1) + 1))]) (rest := []) rfl rfl (by decide) rfl (ym_rcv hA rfl) (Nat.le_of_ble_eq_true rfl) (mo_209t (i := (p + 2)) hA hx (by omega) (by omega)) ?_
              rintro _ _ ⟨rfl, eA⟩
              rw [eA]
              clear eA
              have hx67 := xtx_ye hx (p + 2)
              refine xr_steps (pc' := 141) (L' := [(3, .int (Int32.ofInt (((400 + (p : Int)) + 1) + 1))), (4, .int (Int32.ofInt (((10 * 0) + (xat n f (p + 1))) - 48))), (1, .int (Int32.ofInt (400 + (p : Int)))), (2, .int (Int32.ofInt (400 + (n : Int)))), (0, .ref 165)]) (st' := [.int (Int32.ofInt 93), .int (Int32.ofInt (xat n f (p + 2)))]) 1 rfl ?_
              refine xr_icmp_ne rfl (by omega) (by omega) (fun z68 => ?_) (fun z68 => ?_)
              · refine xr_steps (pc' := 164) (L' := [(3, .int (Int32.ofInt (((400 + (p : Int)) + 1) + 1))), (4, .int (Int32.ofInt (((10 * 0) + (xat n f (p + 1))) - 48))), (1, .int (Int32.ofInt (400 + (p : Int)))), (2, .int (Int32.ofInt (400 + (n : Int)))), (0, .ref 165)]) (st' := [.int (Int32.ofInt 0)]) 1 rfl ?_
                exact xr_retZ rfl rfl (by omega) (h2 (fun _ => xsn0p_no (by omega)))
              · refine xr_steps (pc' := 147) (L' := [(3, .int (Int32.ofInt (((400 + (p : Int)) + 1) + 1))), (4, .int (Int32.ofInt (((10 * 0) + (xat n f (p + 1))) - 48))), (1, .int (Int32.ofInt (400 + (p : Int)))), (2, .int (Int32.ofInt (400 + (n : Int)))), (0, .ref 165)]) (st' := [.int (Int32.ofInt 3), .int (Int32.ofInt (400 + (p : Int))), .int (Int32.ofInt (((400 + (p : Int)) + 1) + 1))]) 3 rfl ?_
                refine xr_iadd rfl ?_
                refine xr_icmp_ne rfl (by omega) (by omega) (fun z69 => ?_) (fun z69 => ?_)
                · refine xr_loc (L := [(4, .int (Int32.ofInt (((10 * 0) + (xat n f (p + 1))) - 48))), (3, .int (Int32.ofInt (((400 + (p : Int)) + 1) + 1))), (1, .int (Int32.ofInt (400 + (p : Int)))), (2, .int (Int32.ofInt (400 + (n : Int)))), (0, .ref 165)]) (show [4, 3, 1, 2, 0].Nodup by decide) ⟨rfl, rfl, rfl, rfl, rfl, trivial⟩ ?_
                  rw [show ((400 + (p : Int)) + 1) + 1 = 400 + ((p + 2 : Nat) : Int) by omega, show ((10 * 0) + (xat n f (p + 1))) - 48 = (ye n f (p + 1) - 48) by omega]
                  exact h1 (p + 2) (ye n f (p + 1) - 48) (by omega) (xsn0p_one (by omega) (by omega) (by omega)) (by omega) (by omega)
                · refine xr_steps (pc' := 154) (L' := [(3, .int (Int32.ofInt (((400 + (p : Int)) + 1) + 1))), (4, .int (Int32.ofInt (((10 * 0) + (xat n f (p + 1))) - 48))), (1, .int (Int32.ofInt (400 + (p : Int)))), (2, .int (Int32.ofInt (400 + (n : Int)))), (0, .ref 165)]) (st' := [.int (Int32.ofInt 1), .int (Int32.ofInt (400 + (p : Int))), .ref 165]) 3 rfl ?_
                  refine xr_iadd rfl ?_
                  refine xr_call (q := (.invokevirtual 103, 3, 209, 2)) (av := [.ref 165, .int (Int32.ofInt ((400 + (p : Int)) + 1))]) (rest := []) rfl rfl (by decide) rfl (ym_rcv hA rfl) (Nat.le_of_ble_eq_true rfl) (mo_209t (i := (p + 1)) hA hx (by omega) (by omega)) ?_
                  rintro _ _ ⟨rfl, eA⟩
                  rw [eA]
                  clear eA
                  have hx70 := xtx_ye hx (p + 1)
                  refine xr_steps (pc' := 160) (L' := [(3, .int (Int32.ofInt (((400 + (p : Int)) + 1) + 1))), (4, .int (Int32.ofInt (((10 * 0) + (xat n f (p + 1))) - 48))), (1, .int (Int32.ofInt (400 + (p : Int)))), (2, .int (Int32.ofInt (400 + (n : Int)))), (0, .ref 165)]) (st' := [.int (Int32.ofInt 48), .int (Int32.ofInt (xat n f (p + 1)))]) 1 rfl ?_
                  refine xr_icmp_ne rfl (by omega) (by omega) (fun z71 => ?_) (fun z71 => ?_)
                  · refine xr_loc (L := [(4, .int (Int32.ofInt (((10 * 0) + (xat n f (p + 1))) - 48))), (3, .int (Int32.ofInt (((400 + (p : Int)) + 1) + 1))), (1, .int (Int32.ofInt (400 + (p : Int)))), (2, .int (Int32.ofInt (400 + (n : Int)))), (0, .ref 165)]) (show [4, 3, 1, 2, 0].Nodup by decide) ⟨rfl, rfl, rfl, rfl, rfl, trivial⟩ ?_
                    rw [show ((400 + (p : Int)) + 1) + 1 = 400 + ((p + 2 : Nat) : Int) by omega, show ((10 * 0) + (xat n f (p + 1))) - 48 = (ye n f (p + 1) - 48) by omega]
                    exact h1 (p + 2) (ye n f (p + 1) - 48) (by omega) (xsn0p_one (by omega) (by omega) (by omega)) (by omega) (by omega)
                  · refine xr_steps (pc' := 164) (L' := [(3, .int (Int32.ofInt (((400 + (p : Int)) + 1) + 1))), (4, .int (Int32.ofInt (((10 * 0) + (xat n f (p + 1))) - 48))), (1, .int (Int32.ofInt (400 + (p : Int)))), (2, .int (Int32.ofInt (400 + (n : Int)))), (0, .ref 165)]) (st' := [.int (Int32.ofInt 0)]) 1 rfl ?_
                    exact xr_retZ rfl rfl (by omega) (h2 (fun _ => xsn0p_no (by omega)))
        · refine xr_steps (pc' := 99) (L' := [(3, .int (Int32.ofInt (((400 + (p : Int)) + 1) + 1))), (4, .int (Int32.ofInt (((10 * 0) + (xat n f (p + 1))) - 48))), (1, .int (Int32.ofInt (400 + (p : Int)))), (2, .int (Int32.ofInt (400 + (n : Int)))), (0, .ref 165)]) (st' := [.int (Int32.ofInt (((10 * 0) + (xat n f (p + 1))) - 48)), .int (Int32.ofInt 10)]) 2 rfl ?_
          refine xr_imul rfl ?_
          refine xr_steps (pc' := 102) (L' := [(3, .int (Int32.ofInt (((400 + (p : Int)) + 1) + 1))), (4, .int (Int32.ofInt (((10 * 0) + (xat n f (p + 1))) - 48))), (1, .int (Int32.ofInt (400 + (p : Int)))), (2, .int (Int32.ofInt (400 + (n : Int)))), (0, .ref 165)]) (st' := [.int (Int32.ofInt (((400 + (p : Int)) + 1) + 1)), .ref 165, .int (Int32.ofInt (10 * (((10 * 0) + (xat n f (p + 1))) - 48)))]) 2 rfl ?_
          refine xr_call (q := (.invokevirtual 103, 3, 209, 2)) (av := [.ref 165, .int (Int32.ofInt (((400 + (p : Int)) + 1) + 1))]) (rest := [.int (Int32.ofInt (10 * (((10 * 0) + (xat n f (p + 1))) - 48)))]) rfl rfl (by decide) rfl (ym_rcv hA rfl) (Nat.le_of_ble_eq_true rfl) (mo_209t (i := (p + 2)) hA hx (by omega) (by omega)) ?_
          rintro _ _ ⟨rfl, eA⟩
          rw [eA]
          clear eA
          have hx72 := xtx_ye hx (p + 2)
          refine xr_iadd rfl ?_
          refine xr_steps (pc' := 108) (L' := [(3, .int (Int32.ofInt (((400 + (p : Int)) + 1) + 1))), (4, .int (Int32.ofInt (((10 * 0) + (xat n f (p + 1))) - 48))), (1, .int (Int32.ofInt (400 + (p : Int)))), (2, .int (Int32.ofInt (400 + (n : Int)))), (0, .ref 165)]) (st' := [.int (Int32.ofInt 48), .int (Int32.ofInt ((10 * (((10 * 0) + (xat n f (p + 1))) - 48)) + (xat n f (p + 2))))]) 1 rfl ?_
          refine xr_isub rfl ?_
          refine xr_steps (pc' := 111) (L' := [(4, .int (Int32.ofInt (((10 * (((10 * 0) + (xat n f (p + 1))) - 48)) + (xat n f (p + 2))) - 48))), (3, .int (Int32.ofInt (((400 + (p : Int)) + 1) + 1))), (1, .int (Int32.ofInt (400 + (p : Int)))), (2, .int (Int32.ofInt (400 + (n : Int)))), (0, .ref 165)]) (st' := []) 1 rfl ?_
          refine xr_iinc (L' := [(3, .int (Int32.ofInt ((((400 + (p : Int)) + 1) + 1) + 1))), (4, .int (Int32.ofInt (((10 * (((10 * 0) + (xat n f (p + 1))) - 48)) + (xat n f (p + 2))) - 48))), (1, .int (Int32.ofInt (400 + (p : Int)))), (2, .int (Int32.ofInt (400 + (n : Int)))), (0, .ref 165)]) rfl rfl rfl ?_
          refine xr_steps (pc' := 79) (L' := [(3, .int (Int32.ofInt ((((400 + (p : Int)) + 1) + 1) + 1))), (4, .int (Int32.ofInt (((10 * (((10 * 0) + (xat n f (p + 1))) - 48)) + (xat n f (p + 2))) - 48))), (1, .int (Int32.ofInt (400 + (p : Int)))), (2, .int (Int32.ofInt (400 + (n : Int)))), (0, .ref 165)]) (st' := [.int (Int32.ofInt ((((400 + (p : Int)) + 1) + 1) + 1)), .ref 165]) 3 rfl ?_
          refine xr_call (q := (.invokevirtual 103, 3, 209, 2)) (av := [.ref 165, .int (Int32.ofInt ((((400 + (p : Int)) + 1) + 1) + 1))]) (rest := []) rfl rfl (by decide) rfl (ym_rcv hA rfl) (Nat.le_of_ble_eq_true rfl) (mo_209t (i := (p + 3)) hA hx (by omega) (by omega)) ?_
          rintro _ _ ⟨rfl, eA⟩
          rw [eA]
          clear eA
          have hx73 := xtx_ye hx (p + 3)
          obtain ⟨b74, hb74⟩ := mo_bool (48 ≤ (xat n f (p + 3)) ∧ (xat n f (p + 3)) ≤ 57)
          refine xr_call (q := (.invokestatic 115, 3, 213, 1)) (av := [.int (Int32.ofInt (xat n f (p + 3)))]) (rest := []) rfl rfl (by decide) rfl rfl (Nat.le_of_ble_eq_true rfl) (mo_213 (by omega) hb74) ?_
          rintro _ _ ⟨rfl, eA⟩
          rw [eA]
          clear eA
          refine xr_if_eq rfl (by omega) (fun z75 => ?_) (fun z75 => ?_)
          · refine xr_steps (pc' := 119) (L' := [(3, .int (Int32.ofInt ((((400 + (p : Int)) + 1) + 1) + 1))), (4, .int (Int32.ofInt (((10 * (((10 * 0) + (xat n f (p + 1))) - 48)) + (xat n f (p + 2))) - 48))), (1, .int (Int32.ofInt (400 + (p : Int)))), (2, .int (Int32.ofInt (400 + (n : Int)))), (0, .ref 165)]) (st' := [.int (Int32.ofInt (400 + (p : Int))), .ref 165]) 2 rfl ?_
            refine xr_call (q := (.invokevirtual 103, 3, 209, 2)) (av := [.ref 165, .int (Int32.ofInt (400 + (p : Int)))]) (rest := []) rfl rfl (by decide) rfl (ym_rcv hA rfl) (Nat.le_of_ble_eq_true rfl) (mo_209t (i := p) hA hx (by omega) (by omega)) ?_
            rintro _ _ ⟨rfl, eA⟩
            rw [eA]
            clear eA
            have hx76 := xtx_ye hx p
            refine xr_steps (pc' := 124) (L' := [(3, .int (Int32.ofInt ((((400 + (p : Int)) + 1) + 1) + 1))), (4, .int (Int32.ofInt (((10 * (((10 * 0) + (xat n f (p + 1))) - 48)) + (xat n f (p + 2))) - 48))), (1, .int (Int32.ofInt (400 + (p : Int)))), (2, .int (Int32.ofInt (400 + (n : Int)))), (0, .ref 165)]) (st' := [.int (Int32.ofInt 91), .int (Int32.ofInt (xat n f p))]) 1 rfl ?_
            refine xr_icmp_ne rfl (by omega) (by omega) (fun z77 => ?_) (fun z77 => ?_)
            · refine xr_steps (pc' := 164) (L' := [(3, .int (Int32.ofInt ((((400 + (p : Int)) + 1) + 1) + 1))), (4, .int (Int32.ofInt (((10 * (((10 * 0) + (xat n f (p + 1))) - 48)) + (xat n f (p + 2))) - 48))), (1, .int (Int32.ofInt (400 + (p : Int)))), (2, .int (Int32.ofInt (400 + (n : Int)))), (0, .ref 165)]) (st' := [.int (Int32.ofInt 0)]) 1 rfl ?_
              exact xr_retZ rfl rfl (by omega) (h2 (fun _ => xsn0p_no (by omega)))
            · refine xr_steps (pc' := 130) (L' := [(3, .int (Int32.ofInt ((((400 + (p : Int)) + 1) + 1) + 1))), (4, .int (Int32.ofInt (((10 * (((10 * 0) + (xat n f (p + 1))) - 48)) + (xat n f (p + 2))) - 48))), (1, .int (Int32.ofInt (400 + (p : Int)))), (2, .int (Int32.ofInt (400 + (n : Int)))), (0, .ref 165)]) (st' := [.int (Int32.ofInt 1), .int (Int32.ofInt (400 + (p : Int))), .int (Int32.ofInt ((((400 + (p : Int)) + 1) + 1) + 1))]) 3 rfl ?_
              refine xr_iadd rfl ?_
              refine xr_icmp_eq rfl (by omega) (by omega) (fun z78 => ?_) (fun z78 => ?_)
              · refine xr_steps (pc' := 164) (L' := [(3, .int (Int32.ofInt ((((400 + (p : Int)) + 1) + 1) + 1))), (4, .int (Int32.ofInt (((10 * (((10 * 0) + (xat n f (p + 1))) - 48)) + (xat n f (p + 2))) - 48))), (1, .int (Int32.ofInt (400 + (p : Int)))), (2, .int (Int32.ofInt (400 + (n : Int)))), (0, .ref 165)]) (st' := [.int (Int32.ofInt 0)]) 1 rfl ?_
                exact xr_retZ rfl rfl (by omega) (h2 (fun _ => xsn0p_no (by omega)))
              · refine xr_steps (pc' := 136) (L' := [(3, .int (Int32.ofInt ((((400 + (p : Int)) + 1) + 1) + 1))), (4, .int (Int32.ofInt (((10 * (((10 * 0) + (xat n f (p + 1))) - 48)) + (xat n f (p + 2))) - 48))), (1, .int (Int32.ofInt (400 + (p : Int)))), (2, .int (Int32.ofInt (400 + (n : Int)))), (0, .ref 165)]) (st' := [.int (Int32.ofInt ((((400 + (p : Int)) + 1) + 1) + 1)), .ref 165]) 2 rfl ?_
                refine xr_call (q := (.invokevirtual 103, 3, 209, 2)) (av := [.ref 165, .int (Int32.ofInt ((((400 + (p : Int)) + 1) + 1) + 1))]) (rest := []) rfl rfl (by decide) rfl (ym_rcv hA rfl) (Nat.le_of_ble_eq_true rfl) (mo_209t (i := (p + 3)) hA hx (by omega) (by omega)) ?_
                rintro _ _ ⟨rfl, eA⟩
                rw [eA]
                clear eA
                have hx79 := xtx_ye hx (p + 3)
                refine xr_steps (pc' := 141) (L' := [(3, .int (Int32.ofInt ((((400 + (p : Int)) + 1) + 1) + 1))), (4, .int (Int32.ofInt (((10 * (((10 * 0) + (xat n f (p + 1))) - 48)) + (xat n f (p + 2))) - 48))), (1, .int (Int32.ofInt (400 + (p : Int)))), (2, .int (Int32.ofInt (400 + (n : Int)))), (0, .ref 165)]) (st' := [.int (Int32.ofInt 93), .int (Int32.ofInt (xat n f (p + 3)))]) 1 rfl ?_
                refine xr_icmp_ne rfl (by omega) (by omega) (fun z80 => ?_) (fun z80 => ?_)
                · refine xr_steps (pc' := 164) (L' := [(3, .int (Int32.ofInt ((((400 + (p : Int)) + 1) + 1) + 1))), (4, .int (Int32.ofInt (((10 * (((10 * 0) + (xat n f (p + 1))) - 48)) + (xat n f (p + 2))) - 48))), (1, .int (Int32.ofInt (400 + (p : Int)))), (2, .int (Int32.ofInt (400 + (n : Int)))), (0, .ref 165)]) (st' := [.int (Int32.ofInt 0)]) 1 rfl ?_
                  exact xr_retZ rfl rfl (by omega) (h2 (fun _ => xsn0p_no (by omega)))
                · refine xr_steps (pc' := 147) (L' := [(3, .int (Int32.ofInt ((((400 + (p : Int)) + 1) + 1) + 1))), (4, .int (Int32.ofInt (((10 * (((10 * 0) + (xat n f (p + 1))) - 48)) + (xat n f (p + 2))) - 48))), (1, .int (Int32.ofInt (400 + (p : Int)))), (2, .int (Int32.ofInt (400 + (n : Int)))), (0, .ref 165)]) (st' := [.int (Int32.ofInt 3), .int (Int32.ofInt (400 + (p : Int))), .int (Int32.ofInt ((((400 + (p : Int)) + 1) + 1) + 1))]) 3 rfl ?_
                  refine xr_iadd rfl ?_
                  refine xr_icmp_ne rfl (by omega) (by omega) (fun z81 => ?_) (fun z81 => ?_)
                  · refine xr_loc (L := [(4, .int (Int32.ofInt (((10 * (((10 * 0) + (xat n f (p + 1))) - 48)) + (xat n f (p + 2))) - 48))), (3, .int (Int32.ofInt ((((400 + (p : Int)) + 1) + 1) + 1))), (1, .int (Int32.ofInt (400 + (p : Int)))), (2, .int (Int32.ofInt (400 + (n : Int)))), (0, .ref 165)]) (show [4, 3, 1, 2, 0].Nodup by decide) ⟨rfl, rfl, rfl, rfl, rfl, trivial⟩ ?_
                    rw [show (((400 + (p : Int)) + 1) + 1) + 1 = 400 + ((p + 3 : Nat) : Int) by omega, show ((10 * (((10 * 0) + (xat n f (p + 1))) - 48)) + (xat n f (p + 2))) - 48 = (10 * (ye n f (p + 1) - 48) + (ye n f (p + 2) - 48)) by omega]
                    exact h1 (p + 3) (10 * (ye n f (p + 1) - 48) + (ye n f (p + 2) - 48)) (by omega) (xsn0p_two (by omega) (by omega) (by omega) (by omega)) (by omega) (by omega)
                  · refine xr_steps (pc' := 154) (L' := [(3, .int (Int32.ofInt ((((400 + (p : Int)) + 1) + 1) + 1))), (4, .int (Int32.ofInt (((10 * (((10 * 0) + (xat n f (p + 1))) - 48)) + (xat n f (p + 2))) - 48))), (1, .int (Int32.ofInt (400 + (p : Int)))), (2, .int (Int32.ofInt (400 + (n : Int)))), (0, .ref 165)]) (st' := [.int (Int32.ofInt 1), .int (Int32.ofInt (400 + (p : Int))), .ref 165]) 3 rfl ?_
                    refine xr_iadd rfl ?_
                    refine xr_call (q := (.invokevirtual 103, 3, 209, 2)) (av := [.ref 165, .int (Int32.ofInt ((400 + (p : Int)) + 1))]) (rest := []) rfl rfl (by decide) rfl (ym_rcv hA rfl) (Nat.le_of_ble_eq_true rfl) (mo_209t (i := (p + 1)) hA hx (by omega) (by omega)) ?_
                    rintro _ _ ⟨rfl, eA⟩
                    rw [eA]
                    clear eA
                    have hx82 := xtx_ye hx (p + 1)
                    refine xr_steps (pc' := 160) (L' := [(3, .int (Int32.ofInt ((((400 + (p : Int)) + 1) + 1) + 1))), (4, .int (Int32.ofInt (((10 * (((10 * 0) + (xat n f (p + 1))) - 48)) + (xat n f (p + 2))) - 48))), (1, .int (Int32.ofInt (400 + (p : Int)))), (2, .int (Int32.ofInt (400 + (n : Int)))), (0, .ref 165)]) (st' := [.int (Int32.ofInt 48), .int (Int32.ofInt (xat n f (p + 1)))]) 1 rfl ?_
                    refine xr_icmp_ne rfl (by omega) (by omega) (fun z83 => ?_) (fun z83 => ?_)
                    · refine xr_loc (L := [(4, .int (Int32.ofInt (((10 * (((10 * 0) + (xat n f (p + 1))) - 48)) + (xat n f (p + 2))) - 48))), (3, .int (Int32.ofInt ((((400 + (p : Int)) + 1) + 1) + 1))), (1, .int (Int32.ofInt (400 + (p : Int)))), (2, .int (Int32.ofInt (400 + (n : Int)))), (0, .ref 165)]) (show [4, 3, 1, 2, 0].Nodup by decide) ⟨rfl, rfl, rfl, rfl, rfl, trivial⟩ ?_
                      rw [show (((400 + (p : Int)) + 1) + 1) + 1 = 400 + ((p + 3 : Nat) : Int) by omega, show ((10 * (((10 * 0) + (xat n f (p + 1))) - 48)) + (xat n f (p + 2))) - 48 = (10 * (ye n f (p + 1) - 48) + (ye n f (p + 2) - 48)) by omega]
                      exact h1 (p + 3) (10 * (ye n f (p + 1) - 48) + (ye n f (p + 2) - 48)) (by omega) (xsn0p_two (by omega) (by omega) (by omega) (by omega)) (by omega) (by omega)
                    · refine xr_steps (pc' := 164) (L' := [(3, .int (Int32.ofInt ((((400 + (p : Int)) + 1) + 1) + 1))), (4, .int (Int32.ofInt (((10 * (((10 * 0) + (xat n f (p + 1))) - 48)) + (xat n f (p + 2))) - 48))), (1, .int (Int32.ofInt (400 + (p : Int)))), (2, .int (Int32.ofInt (400 + (n : Int)))), (0, .ref 165)]) (st' := [.int (Int32.ofInt 0)]) 1 rfl ?_
                      exact xr_retZ rfl rfl (by omega) (h2 (fun _ => xsn0p_no (by omega)))
          · refine xr_steps (pc' := 91) (L' := [(3, .int (Int32.ofInt ((((400 + (p : Int)) + 1) + 1) + 1))), (4, .int (Int32.ofInt (((10 * (((10 * 0) + (xat n f (p + 1))) - 48)) + (xat n f (p + 2))) - 48))), (1, .int (Int32.ofInt (400 + (p : Int)))), (2, .int (Int32.ofInt (400 + (n : Int)))), (0, .ref 165)]) (st' := [.int (Int32.ofInt 3), .int (Int32.ofInt (400 + (p : Int))), .int (Int32.ofInt ((((400 + (p : Int)) + 1) + 1) + 1))]) 3 rfl ?_
            refine xr_iadd rfl ?_
            refine xr_icmp_ge rfl (by omega) (by omega) (fun z84 => ?_) (fun z84 => ?_)
            · refine xr_steps (pc' := 119) (L' := [(3, .int (Int32.ofInt ((((400 + (p : Int)) + 1) + 1) + 1))), (4, .int (Int32.ofInt (((10 * (((10 * 0) + (xat n f (p + 1))) - 48)) + (xat n f (p + 2))) - 48))), (1, .int (Int32.ofInt (400 + (p : Int)))), (2, .int (Int32.ofInt (400 + (n : Int)))), (0, .ref 165)]) (st' := [.int (Int32.ofInt (400 + (p : Int))), .ref 165]) 2 rfl ?_
              refine xr_call (q := (.invokevirtual 103, 3, 209, 2)) (av := [.ref 165, .int (Int32.ofInt (400 + (p : Int)))]) (rest := []) rfl rfl (by decide) rfl (ym_rcv hA rfl) (Nat.le_of_ble_eq_true rfl) (mo_209t (i := p) hA hx (by omega) (by omega)) ?_
              rintro _ _ ⟨rfl, eA⟩
              rw [eA]
              clear eA
              have hx85 := xtx_ye hx p
              refine xr_steps (pc' := 124) (L' := [(3, .int (Int32.ofInt ((((400 + (p : Int)) + 1) + 1) + 1))), (4, .int (Int32.ofInt (((10 * (((10 * 0) + (xat n f (p + 1))) - 48)) + (xat n f (p + 2))) - 48))), (1, .int (Int32.ofInt (400 + (p : Int)))), (2, .int (Int32.ofInt (400 + (n : Int)))), (0, .ref 165)]) (st' := [.int (Int32.ofInt 91), .int (Int32.ofInt (xat n f p))]) 1 rfl ?_
              refine xr_icmp_ne rfl (by omega) (by omega) (fun z86 => ?_) (fun z86 => ?_)
              · refine xr_steps (pc' := 164) (L' := [(3, .int (Int32.ofInt ((((400 + (p : Int)) + 1) + 1) + 1))), (4, .int (Int32.ofInt (((10 * (((10 * 0) + (xat n f (p + 1))) - 48)) + (xat n f (p + 2))) - 48))), (1, .int (Int32.ofInt (400 + (p : Int)))), (2, .int (Int32.ofInt (400 + (n : Int)))), (0, .ref 165)]) (st' := [.int (Int32.ofInt 0)]) 1 rfl ?_
                exact xr_retZ rfl rfl (by omega) (h2 (fun _ => xsn0p_no (by omega)))
              · refine xr_steps (pc' := 130) (L' := [(3, .int (Int32.ofInt ((((400 + (p : Int)) + 1) + 1) + 1))), (4, .int (Int32.ofInt (((10 * (((10 * 0) + (xat n f (p + 1))) - 48)) + (xat n f (p + 2))) - 48))), (1, .int (Int32.ofInt (400 + (p : Int)))), (2, .int (Int32.ofInt (400 + (n : Int)))), (0, .ref 165)]) (st' := [.int (Int32.ofInt 1), .int (Int32.ofInt (400 + (p : Int))), .int (Int32.ofInt ((((400 + (p : Int)) + 1) + 1) + 1))]) 3 rfl ?_
                refine xr_iadd rfl ?_
                refine xr_icmp_eq rfl (by omega) (by omega) (fun z87 => ?_) (fun z87 => ?_)
                · refine xr_steps (pc' := 164) (L' := [(3, .int (Int32.ofInt ((((400 + (p : Int)) + 1) + 1) + 1))), (4, .int (Int32.ofInt (((10 * (((10 * 0) + (xat n f (p + 1))) - 48)) + (xat n f (p + 2))) - 48))), (1, .int (Int32.ofInt (400 + (p : Int)))), (2, .int (Int32.ofInt (400 + (n : Int)))), (0, .ref 165)]) (st' := [.int (Int32.ofInt 0)]) 1 rfl ?_
                  exact xr_retZ rfl rfl (by omega) (h2 (fun _ => xsn0p_no (by omega)))
                · refine xr_steps (pc' := 136) (L' := [(3, .int (Int32.ofInt ((((400 + (p : Int)) + 1) + 1) + 1))), (4, .int (Int32.ofInt (((10 * (((10 * 0) + (xat n f (p + 1))) - 48)) + (xat n f (p + 2))) - 48))), (1, .int (Int32.ofInt (400 + (p : Int)))), (2, .int (Int32.ofInt (400 + (n : Int)))), (0, .ref 165)]) (st' := [.int (Int32.ofInt ((((400 + (p : Int)) + 1) + 1) + 1)), .ref 165]) 2 rfl ?_
                  refine xr_call (q := (.invokevirtual 103, 3, 209, 2)) (av := [.ref 165, .int (Int32.ofInt ((((400 + (p : Int)) + 1) + 1) + 1))]) (rest := []) rfl rfl (by decide) rfl (ym_rcv hA rfl) (Nat.le_of_ble_eq_true rfl) (mo_209t (i := (p + 3)) hA hx (by omega) (by omega)) ?_
                  rintro _ _ ⟨rfl, eA⟩
                  rw [eA]
                  clear eA
                  have hx88 := xtx_ye hx (p + 3)
                  refine xr_steps (pc' := 141) (L' := [(3, .int (Int32.ofInt ((((400 + (p : Int)) + 1) + 1) + 1))), (4, .int (Int32.ofInt (((10 * (((10 * 0) + (xat n f (p + 1))) - 48)) + (xat n f (p + 2))) - 48))), (1, .int (Int32.ofInt (400 + (p : Int)))), (2, .int (Int32.ofInt (400 + (n : Int)))), (0, .ref 165)]) (st' := [.int (Int32.ofInt 93), .int (Int32.ofInt (xat n f (p + 3)))]) 1 rfl ?_
                  refine xr_icmp_ne rfl (by omega) (by omega) (fun z89 => ?_) (fun z89 => ?_)
                  · refine xr_steps (pc' := 164) (L' := [(3, .int (Int32.ofInt ((((400 + (p : Int)) + 1) + 1) + 1))), (4, .int (Int32.ofInt (((10 * (((10 * 0) + (xat n f (p + 1))) - 48)) + (xat n f (p + 2))) - 48))), (1, .int (Int32.ofInt (400 + (p : Int)))), (2, .int (Int32.ofInt (400 + (n : Int)))), (0, .ref 165)]) (st' := [.int (Int32.ofInt 0)]) 1 rfl ?_
                    exact xr_retZ rfl rfl (by omega) (h2 (fun _ => xsn0p_no (by omega)))
                  · refine xr_steps (pc' := 147) (L' := [(3, .int (Int32.ofInt ((((400 + (p : Int)) + 1) + 1) + 1))), (4, .int (Int32.ofInt (((10 * (((10 * 0) + (xat n f (p + 1))) - 48)) + (xat n f (p + 2))) - 48))), (1, .int (Int32.ofInt (400 + (p : Int)))), (2, .int (Int32.ofInt (400 + (n : Int)))), (0, .ref 165)]) (st' := [.int (Int32.ofInt 3), .int (Int32.ofInt (400 + (p : Int))), .int (Int32.ofInt ((((400 + (p : Int)) + 1) + 1) + 1))]) 3 rfl ?_
                    refine xr_iadd rfl ?_
                    refine xr_icmp_ne rfl (by omega) (by omega) (fun z90 => ?_) (fun z90 => ?_)
                    · refine xr_loc (L := [(4, .int (Int32.ofInt (((10 * (((10 * 0) + (xat n f (p + 1))) - 48)) + (xat n f (p + 2))) - 48))), (3, .int (Int32.ofInt ((((400 + (p : Int)) + 1) + 1) + 1))), (1, .int (Int32.ofInt (400 + (p : Int)))), (2, .int (Int32.ofInt (400 + (n : Int)))), (0, .ref 165)]) (show [4, 3, 1, 2, 0].Nodup by decide) ⟨rfl, rfl, rfl, rfl, rfl, trivial⟩ ?_
                      rw [show (((400 + (p : Int)) + 1) + 1) + 1 = 400 + ((p + 3 : Nat) : Int) by omega, show ((10 * (((10 * 0) + (xat n f (p + 1))) - 48)) + (xat n f (p + 2))) - 48 = (10 * (ye n f (p + 1) - 48) + (ye n f (p + 2) - 48)) by omega]
                      exact h1 (p + 3) (10 * (ye n f (p + 1) - 48) + (ye n f (p + 2) - 48)) (by omega) (xsn0p_two (by omega) (by omega) (by omega) (by omega)) (by omega) (by omega)
                    · refine xr_steps (pc' := 154) (L' := [(3, .int (Int32.ofInt ((((400 + (p : Int)) + 1) + 1) + 1))), (4, .int (Int32.ofInt (((10 * (((10 * 0) + (xat n f (p + 1))) - 48)) + (xat n f (p + 2))) - 48))), (1, .int (Int32.ofInt (400 + (p : Int)))), (2, .int (Int32.ofInt (400 + (n : Int)))), (0, .ref 165)]) (st' := [.int (Int32.ofInt 1), .int (Int32.ofInt (400 + (p : Int))), .ref 165]) 3 rfl ?_
                      refine xr_iadd rfl ?_
                      refine xr_call (q := (.invokevirtual 103, 3, 209, 2)) (av := [.ref 165, .int (Int32.ofInt ((400 + (p : Int)) + 1))]) (rest := []) rfl rfl (by decide) rfl (ym_rcv hA rfl) (Nat.le_of_ble_eq_true rfl) (mo_209t (i := (p + 1)) hA hx (by omega) (by omega)) ?_
                      rintro _ _ ⟨rfl, eA⟩
                      rw [eA]
                      clear eA
                      have hx91 := xtx_ye hx (p + 1)
                      refine xr_steps (pc' := 160) (L' := [(3, .int (Int32.ofInt ((((400 + (p : Int)) + 1) + 1) + 1))), (4, .int (Int32.ofInt (((10 * (((10 * 0) + (xat n f (p + 1))) - 48)) + (xat n f (p + 2))) - 48))), (1, .int (Int32.ofInt (400 + (p : Int)))), (2, .int (Int32.ofInt (400 + (n : Int)))), (0, .ref 165)]) (st' := [.int (Int32.ofInt 48), .int (Int32.ofInt (xat n f (p + 1)))]) 1 rfl ?_
                      refine xr_icmp_ne rfl (by omega) (by omega) (fun z92 => ?_) (fun z92 => ?_)
                      · refine xr_loc (L := [(4, .int (Int32.ofInt (((10 * (((10 * 0) + (xat n f (p + 1))) - 48)) + (xat n f (p + 2))) - 48))), (3, .int (Int32.ofInt ((((400 + (p : Int)) + 1) + 1) + 1))), (1, .int (Int32.ofInt (400 + (p : Int)))), (2, .int (Int32.ofInt (400 + (n : Int)))), (0, .ref 165)]) (show [4, 3, 1, 2, 0].Nodup by decide) ⟨rfl, rfl, rfl, rfl, rfl, trivial⟩ ?_
                        rw [show (((400 + (p : Int)) + 1) + 1) + 1 = 400 + ((p + 3 : Nat) : Int) by omega, show ((10 * (((10 * 0) + (xat n f (p + 1))) - 48)) + (xat n f (p + 2))) - 48 = (10 * (ye n f (p + 1) - 48) + (ye n f (p + 2) - 48)) by omega]
                        exact h1 (p + 3) (10 * (ye n f (p + 1) - 48) + (ye n f (p + 2) - 48)) (by omega) (xsn0p_two (by omega) (by omega) (by omega) (by omega)) (by omega) (by omega)
                      · refine xr_steps (pc' := 164) (L' := [(3, .int (Int32.ofInt ((((400 + (p : Int)) + 1) + 1) + 1))), (4, .int (Int32.ofInt (((10 * (((10 * 0) + (xat n f (p + 1))) - 48)) + (xat n f (p + 2))) - 48))), (1, .int (Int32.ofInt (400 + (p : Int)))), (2, .int (Int32.ofInt (400 + (n : Int)))), (0, .ref 165)]) (st' := [.int (Int32.ofInt 0)]) 1 rfl ?_
                        exact xr_retZ rfl rfl (by omega) (h2 (fun _ => xsn0p_no (by omega)))
            · exfalso; omega
theorem mo_233l {w : Value} {d : Nat} {A : xb_H} {s : Nat → Int} {t : Nat → Nat → Int} {n : Nat} {f : Nat → Int} {Q : xb_R → xb_H → Prop} (hA : 194 ≤ A.1) (hx : xtx s t n f) : ∀ (k p c : Nat) (g : Nat → Int) (l0 : List Int), p ≤ n → n ≤ p + 2 * k → c = l0.length → 2 * c + 1 ≤ p → xrow g l0 → (∀ (b : Int) (c' : Nat) (g' : Nat → Int), ((b = 1 ∧ ye n f 0 = 36 ∧ ∃ l, xPL0 n (ye n f) k p l ∧ c' = (l0 ++ l).length ∧ xrow g' (l0 ++ l)) ∨ (b = 0 ∧ ¬ (ye n f 0 = 36 ∧ ∃ l, xPL0 n (ye n f) k p l))) → Q (.inl (some (.int (Int32.ofInt b)))) (ym A (va_up s 27 (c' : Int)) (va_up t 186 g'))) → xr_ok (xt_G w) (d + 1) 233 18 [(1, .int (Int32.ofInt (400 + (p : Int)))), (2, .int (Int32.ofInt (400 + (n : Int)))), (0, .ref 165)] [] (ym A (va_up s 27 (c : Int)) (va_up t 186 g)) Q := by
  intro k
  induction k using Nat.strongRecOn with
  | _ k ih =>
    intro p c g l0 hpn hk hc hp hg hQ
    have hn100 := hx.2.1
    have hs2 := hx.1
    refine xr_steps (pc' := 20) (L' := [(1, .int (Int32.ofInt (400 + (p : Int)))), (2, .int (Int32.ofInt (400 + (n : Int)))), (0, .ref 165)]) (st' := [.int (Int32.ofInt (400 + (n : Int))), .int (Int32.ofInt (400 + (p : Int)))]) 2 rfl ?_
    refine xr_icmp_ge rfl (by omega) (by omega) (fun z31 => ?_) (fun z31 => ?_)
    · refine xr_steps (pc' := 199) (L' := [(1, .int (Int32.ofInt (400 + (p : Int)))), (2, .int (Int32.ofInt (400 + (n : Int)))), (0, .ref 165)]) (st' := [.int (Int32.ofInt 400), .ref 165]) 2 rfl ?_
      refine xr_call (q := (.invokevirtual 103, 3, 209, 2)) (av := [.ref 165, .int (Int32.ofInt 400)]) (rest := []) rfl rfl (by decide) rfl (ym_rcv hA rfl) (Nat.le_of_ble_eq_true rfl) (mo_209t (i := 0) hA (show xtx (va_up s 27 (c : Int)) (va_up t 186 g) n f from hx) (by omega) (by omega)) ?_
      rintro _ _ ⟨rfl, eA⟩
      rw [eA]
      clear eA
      have hx32 := xtx_ye hx 0
      refine xr_steps (pc' := 204) (L' := [(1, .int (Int32.ofInt (400 + (p : Int)))), (2, .int (Int32.ofInt (400 + (n : Int)))), (0, .ref 165)]) (st' := [.int (Int32.ofInt 36), .int (Int32.ofInt (xat n f 0))]) 1 rfl ?_
      refine xr_icmp_ne rfl (by omega) (by omega) (fun z33 => ?_) (fun z33 => ?_)
      · refine xr_steps (pc' := 212) (L' := [(1, .int (Int32.ofInt (400 + (p : Int)))), (2, .int (Int32.ofInt (400 + (n : Int)))), (0, .ref 165)]) (st' := [.int (Int32.ofInt 0)]) 1 rfl ?_
        obtain rfl : p = n := by omega
        have hen : ye p f p = 0 := by unfold ye; rw [if_neg (by omega)]
        exact xr_retZ rfl rfl (by omega) (hQ 0 c g (Or.inr ⟨rfl, fun h => absurd h.1 (by omega)⟩))
      · refine xr_steps (pc' := 212) (L' := [(1, .int (Int32.ofInt (400 + (p : Int)))), (2, .int (Int32.ofInt (400 + (n : Int)))), (0, .ref 165)]) (st' := [.int (Int32.ofInt 1)]) 2 rfl ?_
        obtain rfl : p = n := by omega
        have hen : ye p f p = 0 := by unfold ye; rw [if_neg (by omega)]
        exact xr_retZ rfl rfl (by omega) (hQ 1 c g (Or.inl ⟨rfl, by omega, [], xPL_end (by omega), by rw [List.append_nil]; exact hc, by rw [List.append_nil]; exact hg⟩))
    · refine xr_steps (pc' := 25) (L' := [(1, .int (Int32.ofInt (400 + (p : Int)))), (2, .int (Int32.ofInt (400 + (n : Int)))), (0, .ref 165)]) (st' := [.int (Int32.ofInt (400 + (p : Int))), .ref 165]) 2 rfl ?_
      refine xr_call (q := (.invokevirtual 103, 3, 209, 2)) (av := [.ref 165, .int (Int32.ofInt (400 + (p : Int)))]) (rest := []) rfl rfl (by decide) rfl (ym_rcv hA rfl) (Nat.le_of_ble_eq_true rfl) (mo_209t (i := p) hA (show xtx (va_up s 27 (c : Int)) (va_up t 186 g) n f from hx) (by omega) (by omega)) ?_
      rintro _ _ ⟨rfl, eA⟩
      rw [eA]
      clear eA
      have hx34 := xtx_ye hx p
      refine xr_steps (pc' := 30) (L' := [(1, .int (Int32.ofInt (400 + (p : Int)))), (2, .int (Int32.ofInt (400 + (n : Int)))), (0, .ref 165)]) (st' := [.int (Int32.ofInt 46), .int (Int32.ofInt (xat n f p))]) 1 rfl ?_
      refine xr_icmp_ne rfl (by omega) (by omega) (fun z35 => ?_) (fun z35 => ?_)
      · refine mo_233n (s := va_up s 27 (c : Int)) (t := va_up t 186 g) hA (show xtx (va_up s 27 (c : Int)) (va_up t 186 g) n f from hx) (by omega) (fun q1 val y91 ysn yq yv => ?_) (fun hno => hQ 0 c g (Or.inr ⟨rfl, fun ⟨_, l, hp⟩ => xPL_no (by omega) (fun h => absurd h (by omega)) hno hp⟩))
        refine xr_steps (pc' := 166) (L' := [(4, .int (Int32.ofInt val)), (3, .int (Int32.ofInt (400 + (q1 : Int)))), (1, .int (Int32.ofInt (400 + (p : Int)))), (2, .int (Int32.ofInt (400 + (n : Int)))), (0, .ref 165)]) (st' := [.ref 165]) 1 rfl ?_
        refine xr_getf (v := .ref 186) rfl (ym_165 hA) rfl ?_
        refine xr_steps (pc' := 170) (L' := [(4, .int (Int32.ofInt val)), (3, .int (Int32.ofInt (400 + (q1 : Int)))), (1, .int (Int32.ofInt (400 + (p : Int)))), (2, .int (Int32.ofInt (400 + (n : Int)))), (0, .ref 165)]) (st' := [.ref 165, .ref 186]) 1 rfl ?_
        refine xr_getf (v := .int (Int32.ofInt (c : Int))) rfl (ym_165 hA) rfl ?_
        refine xr_steps (pc' := 176) (L' := [(4, .int (Int32.ofInt val)), (3, .int (Int32.ofInt (400 + (q1 : Int)))), (1, .int (Int32.ofInt (400 + (p : Int)))), (2, .int (Int32.ofInt (400 + (n : Int)))), (0, .ref 165)]) (st' := [.int (Int32.ofInt val), .int (Int32.ofInt (-1)), .int (Int32.ofInt (c : Int)), .ref 186]) 2 rfl ?_
        refine xr_isub rfl ?_
        refine ym_iastore hA rfl rfl (by decide) (by omega) (by omega) ?_
        rw [show (c : Int).toNat = c by omega]
        refine xr_steps (pc' := 180) (L' := [(4, .int (Int32.ofInt val)), (3, .int (Int32.ofInt (400 + (q1 : Int)))), (1, .int (Int32.ofInt (400 + (p : Int)))), (2, .int (Int32.ofInt (400 + (n : Int)))), (0, .ref 165)]) (st' := [.int (Int32.ofInt 1), .int (Int32.ofInt (400 + (q1 : Int)))]) 2 rfl ?_
        refine xr_iadd rfl ?_
        refine xr_steps (pc' := 184) (L' := [(1, .int (Int32.ofInt ((400 + (q1 : Int)) + 1))), (4, .int (Int32.ofInt val)), (3, .int (Int32.ofInt (400 + (q1 : Int)))), (2, .int (Int32.ofInt (400 + (n : Int)))), (0, .ref 165)]) (st' := [.ref 165, .ref 165]) 3 rfl ?_
        refine xr_getf (v := .int (Int32.ofInt (c : Int))) rfl (ym_165 hA) rfl ?_
        refine xr_steps (pc' := 188) (L' := [(1, .int (Int32.ofInt ((400 + (q1 : Int)) + 1))), (4, .int (Int32.ofInt val)), (3, .int (Int32.ofInt (400 + (q1 : Int)))), (2, .int (Int32.ofInt (400 + (n : Int)))), (0, .ref 165)]) (st' := [.int (Int32.ofInt 1), .int (Int32.ofInt (c : Int)), .ref 165]) 1 rfl ?_
        refine xr_iadd rfl ?_
        refine ym_putI hA rfl rfl rfl ?_
        refine xr_steps (pc' := 18) (L' := [(1, .int (Int32.ofInt ((400 + (q1 : Int)) + 1))), (4, .int (Int32.ofInt val)), (3, .int (Int32.ofInt (400 + (q1 : Int)))), (2, .int (Int32.ofInt (400 + (n : Int)))), (0, .ref 165)]) (st' := []) 1 rfl ?_
        refine xr_loc (L := [(1, .int (Int32.ofInt ((400 + (q1 : Int)) + 1))), (2, .int (Int32.ofInt (400 + (n : Int)))), (0, .ref 165)]) (show [1, 2, 0].Nodup by decide) ⟨rfl, rfl, rfl, trivial⟩ ?_
        obtain ⟨k, rfl⟩ : ∃ k0, k = k0 + 1 := ⟨k - 1, by omega⟩
        rw [show (400 + (q1 : Int)) + 1 = 400 + ((q1 + 1 : Nat) : Int) by omega, show (c : Int) + 1 = ((c + 1 : Nat) : Int) by omega, ya_up_same, xup2, xup2]
        have hst : (ye n f p = 46 ∧ xsk 0 (ye n f) (p + 1) = some (val, q1 + 1)) ∨ (ye n f p = 91 ∧ xsn 0 (ye n f) (p + 1) = some (val, q1 + 1)) := Or.inr ⟨y91, ysn⟩
        have hle : q1 + 1 ≤ n := by omega
        refine ih k (by omega) (q1 + 1) (c + 1) (va_up g c _) (l0 ++ [val]) hle (by omega) (by rw [List.length_append, List.length_singleton]; omega) (by omega) (by rw [hc]; exact xrow_app hg (by unfold xcv; first | (rw [if_pos (by omega)]; omega) | (rw [if_neg (by omega)]))) (fun b c' g' h => hQ b c' g' ?_)
        rcases h with ⟨h1, h0, l, h2, h3, h4⟩ | ⟨h1, h2⟩
        · exact Or.inl ⟨h1, h0, val :: l, xPL_step hst h2, by rw [h3, List.append_assoc]; rfl, by rw [List.append_assoc] at h4; exact h4⟩
        · refine Or.inr ⟨h1, fun ⟨h0, l, hp⟩ => ?_⟩
          obtain ⟨l', hp'⟩ := xPL_back hst hp
          exact h2 ⟨h0, l', hp'⟩
      · refine xr_steps (pc' := 34) (L' := [(1, .int (Int32.ofInt (400 + (p : Int)))), (2, .int (Int32.ofInt (400 + (n : Int)))), (0, .ref 165)]) (st' := [.ref 165]) 1 rfl ?_
        refine xr_getf (v := .ref 186) rfl (ym_165 hA) rfl ?_
        refine xr_steps (pc' := 38) (L' := [(1, .int (Int32.ofInt (400 + (p : Int)))), (2, .int (Int32.ofInt (400 + (n : Int)))), (0, .ref 165)]) (st' := [.ref 165, .ref 186]) 1 rfl ?_
        refine xr_getf (v := .int (Int32.ofInt (c : Int))) rfl (ym_165 hA) rfl ?_
        refine xr_steps (pc' := 44) (L' := [(1, .int (Int32.ofInt (400 + (p : Int)))), (2, .int (Int32.ofInt (400 + (n : Int)))), (0, .ref 165)]) (st' := [.int (Int32.ofInt 1), .int (Int32.ofInt (400 + (p : Int))), .ref 165, .int (Int32.ofInt (c : Int)), .ref 186]) 3 rfl ?_
        refine xr_iadd rfl ?_
        refine xr_call (q := (.invokevirtual 103, 3, 209, 2)) (av := [.ref 165, .int (Int32.ofInt ((400 + (p : Int)) + 1))]) (rest := [.int (Int32.ofInt (c : Int)), .ref 186]) rfl rfl (by decide) rfl (ym_rcv hA rfl) (Nat.le_of_ble_eq_true rfl) (mo_209t (i := (p + 1)) hA (show xtx (va_up s 27 (c : Int)) (va_up t 186 g) n f from hx) (by omega) (by omega)) ?_
        rintro _ _ ⟨rfl, eA⟩
        rw [eA]
        clear eA
        have hx36 := xtx_ye hx (p + 1)
        refine ym_iastore hA rfl rfl (by decide) (by omega) (by omega) ?_
        rw [show (c : Int).toNat = c by omega]
        refine xr_steps (pc' := 52) (L' := [(1, .int (Int32.ofInt (400 + (p : Int)))), (2, .int (Int32.ofInt (400 + (n : Int)))), (0, .ref 165)]) (st' := [.int (Int32.ofInt 1), .int (Int32.ofInt (400 + (p : Int))), .ref 165]) 3 rfl ?_
        refine xr_iadd rfl ?_
        refine xr_call (q := (.invokevirtual 103, 3, 209, 2)) (av := [.ref 165, .int (Int32.ofInt ((400 + (p : Int)) + 1))]) (rest := []) rfl rfl (by decide) rfl (ym_rcv hA rfl) (Nat.le_of_ble_eq_true rfl) (mo_209t (i := (p + 1)) hA (show xtx (va_up s 27 (c : Int)) (va_up (va_up t 186 g) 186 (va_up ((va_up t 186 g) 186) c (xat n f (p + 1)))) n f from hx) (by omega) (by omega)) ?_
        rintro _ _ ⟨rfl, eA⟩
        rw [eA]
        clear eA
        have hx37 := xtx_ye hx (p + 1)
        obtain ⟨b38, hb38⟩ := mo_bool (97 ≤ (xat n f (p + 1)) ∧ (xat n f (p + 1)) ≤ 122)
        refine xr_call (q := (.invokestatic 111, 3, 210, 1)) (av := [.int (Int32.ofInt (xat n f (p + 1)))]) (rest := []) rfl rfl (by decide) rfl rfl (Nat.le_of_ble_eq_true rfl) (mo_210 (by omega) hb38) ?_
        rintro _ _ ⟨rfl, eA⟩
        rw [eA]
        clear eA
        refine xr_if_ne rfl (by omega) (fun z39 => ?_) (fun z39 => ?_)
        · refine xr_iinc (L' := [(1, .int (Int32.ofInt ((400 + (p : Int)) + 2))), (2, .int (Int32.ofInt (400 + (n : Int)))), (0, .ref 165)]) rfl rfl rfl ?_
          refine xr_steps (pc' := 184) (L' := [(1, .int (Int32.ofInt ((400 + (p : Int)) + 2))), (2, .int (Int32.ofInt (400 + (n : Int)))), (0, .ref 165)]) (st' := [.ref 165, .ref 165]) 3 rfl ?_
          refine xr_getf (v := .int (Int32.ofInt (c : Int))) rfl (ym_165 hA) rfl ?_
          refine xr_steps (pc' := 188) (L' := [(1, .int (Int32.ofInt ((400 + (p : Int)) + 2))), (2, .int (Int32.ofInt (400 + (n : Int)))), (0, .ref 165)]) (st' := [.int (Int32.ofInt 1), .int (Int32.ofInt (c : Int)), .ref 165]) 1 rfl ?_
          refine xr_iadd rfl ?_
          refine ym_putI hA rfl rfl rfl ?_
          refine xr_steps (pc' := 18) (L' := [(1, .int (Int32.ofInt ((400 + (p : Int)) + 2))), (2, .int (Int32.ofInt (400 + (n : Int)))), (0, .ref 165)]) (st' := []) 1 rfl ?_
          refine xr_loc (L := [(1, .int (Int32.ofInt ((400 + (p : Int)) + 2))), (2, .int (Int32.ofInt (400 + (n : Int)))), (0, .ref 165)]) (show [1, 2, 0].Nodup by decide) ⟨rfl, rfl, rfl, trivial⟩ ?_
          obtain ⟨k, rfl⟩ : ∃ k0, k = k0 + 1 := ⟨k - 1, by omega⟩
          rw [show (400 + (p : Int)) + 2 = 400 + ((p + 2 : Nat) : Int) by omega, show (c : Int) + 1 = ((c + 1 : Nat) : Int) by omega, ya_up_same, xup2, xup2]
          have hst : (ye n f p = 46 ∧ xsk 0 (ye n f) (p + 1) = some ((1000 + ye n f (p + 1)), p + 2)) ∨ (ye n f p = 91 ∧ xsn 0 (ye n f) (p + 1) = some ((1000 + ye n f (p + 1)), p + 2)) := Or.inl ⟨by omega, xsk0_yes (by omega)⟩
          have hle : p + 2 ≤ n := by omega
          refine ih k (by omega) (p + 2) (c + 1) (va_up g c _) (l0 ++ [(1000 + ye n f (p + 1))]) hle (by omega) (by rw [List.length_append, List.length_singleton]; omega) (by omega) (by rw [hc]; exact xrow_app hg (by unfold xcv; first | (rw [if_pos (by omega)]; omega) | (rw [if_neg (by omega)]))) (fun b c' g' h => hQ b c' g' ?_)
          rcases h with ⟨h1, h0, l, h2, h3, h4⟩ | ⟨h1, h2⟩
          · exact Or.inl ⟨h1, h0, (1000 + ye n f (p + 1)) :: l, xPL_step hst h2, by rw [h3, List.append_assoc]; rfl, by rw [List.append_assoc] at h4; exact h4⟩
          · refine Or.inr ⟨h1, fun ⟨h0, l, hp⟩ => ?_⟩
            obtain ⟨l', hp'⟩ := xPL_back hst hp
            exact h2 ⟨h0, l', hp'⟩
        · refine xr_steps (pc' := 63) (L' := [(1, .int (Int32.ofInt (400 + (p : Int)))), (2, .int (Int32.ofInt (400 + (n : Int)))), (0, .ref 165)]) (st' := [.int (Int32.ofInt 0)]) 1 rfl ?_
          rw [ya_up_same, xup2]
          exact xr_retZ rfl rfl (by omega) (hQ 0 c _ (Or.inr ⟨rfl, fun ⟨_, l, hp⟩ => xPL_no (by omega) (fun _ => xsk0_no (by omega)) (fun h => absurd h (by omega)) hp⟩))
theorem mo_233z0 {w : Value} {d : Nat} {A : xb_H} {s : Nat → Int} {t : Nat → Nat → Int} {f : Nat → Int} (hA : 194 ≤ A.1) (hx : xtx s t 0 f) (hn : (0 : Nat) ≤ 100) : xr_ok (xt_G w) (d + 1) 233 18 [(1, .int (Int32.ofInt 401)), (2, .int (Int32.ofInt (400 + ((0 : Nat) : Int)))), (0, .ref 165)] [] (ym A (va_up s 27 0) t) (fun o A' => ∃ v0, o = .inl v0 ∧ ∃ (b : Int) (c : Nat) (g : Nat → Int), v0 = some (.int (Int32.ofInt b)) ∧ A' = ym A (va_up s 27 (c : Int)) (va_up t 186 g) ∧ ((b = 1 ∧ ∃ l, xpc0 0 f l ∧ c = l.length ∧ xrow g l) ∨ (b = 0 ∧ ¬ ∃ l, xpc0 0 f l))) := by
  refine xr_steps (pc' := 20) (L' := [(1, .int (Int32.ofInt 401)), (2, .int (Int32.ofInt (400 + ((0 : Nat) : Int)))), (0, .ref 165)]) (st' := [.int (Int32.ofInt (400 + ((0 : Nat) : Int))), .int (Int32.ofInt 401)]) 2 rfl ?_
  refine xr_icmp_ge rfl (by omega) (by omega) (fun z31 => ?_) (fun z31 => ?_)
  · refine xr_steps (pc' := 199) (L' := [(1, .int (Int32.ofInt 401)), (2, .int (Int32.ofInt (400 + ((0 : Nat) : Int)))), (0, .ref 165)]) (st' := [.int (Int32.ofInt 400), .ref 165]) 2 rfl ?_
    refine xr_call (q := (.invokevirtual 103, 3, 209, 2)) (av := [.ref 165, .int (Int32.ofInt 400)]) (rest := []) rfl rfl (by decide) rfl (ym_rcv hA rfl) (Nat.le_of_ble_eq_true rfl) (mo_209t (i := 0) hA (show xtx (va_up s 27 0) t 0 f from hx) (by omega) (by omega)) ?_
    rintro _ _ ⟨rfl, eA⟩
    rw [eA]
    clear eA
    have hx0 := xtx_ye hx 0
    refine xr_steps (pc' := 204) (L' := [(1, .int (Int32.ofInt 401)), (2, .int (Int32.ofInt (400 + ((0 : Nat) : Int)))), (0, .ref 165)]) (st' := [.int (Int32.ofInt 36), .int (Int32.ofInt (xat 0 f 0))]) 1 rfl ?_
    refine xr_icmp_ne rfl (by omega) (by omega) (fun z32 => ?_) (fun z32 => ?_)
    · refine xr_steps (pc' := 212) (L' := [(1, .int (Int32.ofInt 401)), (2, .int (Int32.ofInt (400 + ((0 : Nat) : Int)))), (0, .ref 165)]) (st' := [.int (Int32.ofInt 0)]) 1 rfl ?_
      refine xr_retZ rfl rfl (by omega) ⟨_, rfl, 0, 0, t 186, rfl, by rw [xup_id]; rfl, Or.inr ⟨rfl, fun ⟨l, hl⟩ => ?_⟩⟩
      have := hl.1
      omega
    · refine xr_steps (pc' := 212) (L' := [(1, .int (Int32.ofInt 401)), (2, .int (Int32.ofInt (400 + ((0 : Nat) : Int)))), (0, .ref 165)]) (st' := [.int (Int32.ofInt 1)]) 2 rfl ?_
      exfalso; omega
  · exfalso; omega
theorem mo_233 {w : Value} {d : Nat} {A : xb_H} {s : Nat → Int} {t : Nat → Nat → Int} {n : Nat} {f : Nat → Int} (hA : 194 ≤ A.1) (hx : xtx s t n f) : xr_ok (xt_G w) (d + 1) 233 0 [(0, .ref 165)] [] (ym A s t) (fun o A' => ∃ v0, o = .inl v0 ∧ ∃ (b : Int) (c : Nat) (g : Nat → Int), v0 = some (.int (Int32.ofInt b)) ∧ A' = ym A (va_up s 27 (c : Int)) (va_up t 186 g) ∧ ((b = 1 ∧ ∃ l, xpc0 n f l ∧ c = l.length ∧ xrow g l) ∨ (b = 0 ∧ ¬ ∃ l, xpc0 n f l))) := by
  have hn100 := hx.2.1
  have hs2 := hx.1
  refine xr_steps (pc' := 2) (L' := [(0, .ref 165)]) (st' := [.int (Int32.ofInt 0), .ref 165]) 2 rfl ?_
  refine ym_putI hA rfl rfl rfl ?_
  refine xr_steps (pc' := 13) (L' := [(1, .int (Int32.ofInt 401)), (0, .ref 165)]) (st' := [.ref 165, .int (Int32.ofInt 400)]) 4 rfl ?_
  refine xr_getf (v := .int (Int32.ofInt (s 2))) rfl (ym_165 hA) rfl ?_
  refine xr_iadd rfl ?_
  refine xr_steps (pc' := 18) (L' := [(2, .int (Int32.ofInt (400 + (s 2)))), (1, .int (Int32.ofInt 401)), (0, .ref 165)]) (st' := []) 1 rfl ?_
  refine xr_loc (L := [(1, .int (Int32.ofInt 401)), (2, .int (Int32.ofInt (400 + (s 2)))), (0, .ref 165)]) (show [1, 2, 0].Nodup by decide) ⟨rfl, rfl, rfl, trivial⟩ ?_
  rw [hs2]
  by_cases hn0 : n = 0
  · subst hn0
    exact mo_233z0 hA hx (by omega)
  have hL : xr_ok (xt_G w) (d + 1) 233 18 [(1, .int (Int32.ofInt (400 + ((1 : Nat) : Int)))), (2, .int (Int32.ofInt (400 + (n : Int)))), (0, .ref 165)] [] (ym A (va_up s 27 ((0 : Nat) : Int)) (va_up t 186 (t 186))) (fun o A' => ∃ v0, o = .inl v0 ∧ ∃ (b : Int) (c : Nat) (g : Nat → Int), v0 = some (.int (Int32.ofInt b)) ∧ A' = ym A (va_up s 27 (c : Int)) (va_up t 186 g) ∧ ((b = 1 ∧ ∃ l, xpc0 n f l ∧ c = l.length ∧ xrow g l) ∨ (b = 0 ∧ ¬ ∃ l, xpc0 n f l))) := ?_
  · rw [xup_id] at hL; exact hL
  refine mo_233l hA hx 50 1 0 (t 186) [] (by omega) (by omega) rfl (by omega) (fun j hj => absurd hj (Nat.not_lt_zero _)) (fun b c g h => ⟨_, rfl, b, c, g, rfl, rfl, ?_⟩)
  rcases h with ⟨h1, h0, l, h2, h3, h4⟩ | ⟨h1, h2⟩
  · exact Or.inl ⟨h1, l, ⟨h0, h2⟩, h3, h4⟩
  · exact Or.inr ⟨h1, fun ⟨l, hl⟩ => h2 ⟨hl.1, l, hl.2⟩⟩
