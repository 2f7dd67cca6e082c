/-! The reference: which rule is selected -/
theorem xPC_ne {e : Nat → Int} : ∀ (k i : Nat) (l : List Int) (q : Nat), xPC e k i l q → i ≤ q ∧ q ≤ i + 3 * k ∧ ∀ j : Nat, i ≤ j → j < q → ¬ e j = 58 := by
  intro k
  induction k with
  | zero =>
    intro i l q h
    obtain ⟨h1, h2⟩ := h
    cases h1
    exact ⟨Nat.le_refl _, by omega, fun j h3 h4 => by omega⟩
  | succ k ih =>
    intro i l q h
    by_cases c1 : e i = 46
    · cases hs : xsk 1 e (i + 1) with
      | none =>
        obtain ⟨h1, h2⟩ := h
        rw [xsp, if_pos c1, hs] at h1
        cases h1
      | some z =>
        obtain ⟨s, q1⟩ := z
        obtain ⟨l', h'⟩ := xPC_back (Or.inl ⟨c1, hs⟩) h
        obtain ⟨h3, h4, h5⟩ := ih q1 l' q h'
        have hq : q1 = i + 2 ∧ ((97 ≤ e (i + 1) ∧ e (i + 1) ≤ 122) ∨ e (i + 1) = 42) := by
          unfold xsk at hs
          split at hs
          · cases hs; omega
          · split at hs
            · cases hs; omega
            · cases hs
        refine ⟨by omega, by omega, fun j h6 h7 => ?_⟩
        by_cases e1 : j = i
        · rw [e1]; omega
        · by_cases e2 : j = i + 1
          · rw [e2]; omega
          · exact h5 j (by omega) h7
    · by_cases c2 : e i = 91
      · cases hs : xsn 1 e (i + 1) with
        | none =>
          obtain ⟨h1, h2⟩ := h
          rw [xsp, if_neg c1, if_pos c2, hs] at h1
          cases h1
        | some z =>
          obtain ⟨s, q1⟩ := z
          obtain ⟨l', h'⟩ := xPC_back (Or.inr ⟨c2, hs⟩) h
          obtain ⟨h3, h4, h5⟩ := ih q1 l' q h'
          have hq : q1 = i + 3 ∧ ((48 ≤ e (i + 1) ∧ e (i + 1) ≤ 57) ∨ e (i + 1) = 42) ∧ e (i + 2) = 93 := by
            unfold xsn at hs
            split at hs
            · split at hs
              · rename_i h9; cases hs; refine ⟨rfl, by omega, h9⟩
              · cases hs
            · split at hs
              · split at hs
                · rename_i h9; exact absurd rfl h9.1
                · split at hs
                  · rename_i h9; cases hs; exact ⟨rfl, by omega, h9⟩
                  · cases hs
              · cases hs
          refine ⟨by omega, by omega, fun j h6 h7 => ?_⟩
          by_cases e1 : j = i
          · rw [e1]; omega
          · by_cases e2 : j = i + 1
            · rw [e2]; omega
            · by_cases e3 : j = i + 2
              · rw [e3]; omega
              · exact h5 j (by omega) h7
      · obtain ⟨h1, h2⟩ := h
        rw [xsp, if_neg c1, if_neg c2] at h1
        cases h1
        exact ⟨Nat.le_refl _, by omega, fun j h3 h4 => by omega⟩
/-- the first step of a pattern -/
theorem xPC_cons {e : Nat → Int} {k i q : Nat} {s : Int} {l : List Int} (h : xPC e k i (s :: l) q) : ∃ k' q1, k = k' + 1 ∧ xPC e k' q1 l q ∧ ((e i = 46 ∧ q1 = i + 2 ∧ ((e (i + 1) = 42 ∧ s = -1) ∨ ((97 ≤ e (i + 1) ∧ e (i + 1) ≤ 122) ∧ s = 1000 + e (i + 1)))) ∨ (e i = 91 ∧ q1 = i + 3 ∧ ((e (i + 1) = 42 ∧ s = -2) ∨ ((48 ≤ e (i + 1) ∧ e (i + 1) ≤ 57) ∧ s = e (i + 1) - 48)))) := by
  obtain ⟨h1, h2⟩ := h
  cases k with
  | zero => cases h1
  | succ k =>
    rw [xsp] at h1
    by_cases c1 : e i = 46
    · rw [if_pos c1] at h1
      cases hs : xsk 1 e (i + 1) with
      | none => rw [hs] at h1; cases h1
      | some z =>
        obtain ⟨s1, q1⟩ := z
        rw [hs] at h1
        cases h3 : xsp 1 e k q1 with
        | none =>
          have h4 : (match xsp 1 e k q1 with
            | none => none
            | some (l, r) => some (s1 :: l, r)) = some (s :: l, q) := h1
          rw [h3] at h4
          cases h4
        | some z2 =>
          obtain ⟨l2, r2⟩ := z2
          have h4 : (match xsp 1 e k q1 with
            | none => none
            | some (l, r) => some (s1 :: l, r)) = some (s :: l, q) := h1
          rw [h3] at h4
          cases h4
          refine ⟨k, q1, rfl, ⟨h3, h2⟩, Or.inl ⟨c1, ?_⟩⟩
          unfold xsk at hs
          split at hs
          · rename_i h9; cases hs; exact ⟨rfl, Or.inl ⟨h9.2, rfl⟩⟩
          · split at hs
            · rename_i h9; cases hs; exact ⟨rfl, Or.inr ⟨h9, rfl⟩⟩
            · cases hs
    · rw [if_neg c1] at h1
      by_cases c2 : e i = 91
      · rw [if_pos c2] at h1
        cases hs : xsn 1 e (i + 1) with
        | none => rw [hs] at h1; cases h1
        | some z =>
          obtain ⟨s1, q1⟩ := z
          rw [hs] at h1
          cases h3 : xsp 1 e k q1 with
          | none =>
            have h4 : (match xsp 1 e k q1 with
              | none => none
              | some (l, r) => some (s1 :: l, r)) = some (s :: l, q) := h1
            rw [h3] at h4
            cases h4
          | some z2 =>
            obtain ⟨l2, r2⟩ := z2
            have h4 : (match xsp 1 e k q1 with
              | none => none
              | some (l, r) => some (s1 :: l, r)) = some (s :: l, q) := h1
            rw [h3] at h4
            cases h4
            refine ⟨k, q1, rfl, ⟨h3, h2⟩, Or.inr ⟨c2, ?_⟩⟩
            unfold xsn at hs
            split at hs
            · rename_i h8
              split at hs
              · cases hs; exact ⟨rfl, Or.inl ⟨h8.2, rfl⟩⟩
              · cases hs
            · split at hs
              · rename_i h8
                split at hs
                · rename_i h9; exact absurd rfl h9.1
                · split at hs
                  · cases hs; exact ⟨rfl, Or.inr ⟨h8, rfl⟩⟩
                  · cases hs
              · cases hs
      · rw [if_neg c2] at h1
        cases h1
theorem xPC_nil {e : Nat → Int} {k i q : Nat} (h : xPC e k i [] q) : q = i := by
  obtain ⟨h1, h2⟩ := h
  cases k with
  | zero => cases h1; rfl
  | succ k =>
    rw [xsp] at h1
    by_cases c1 : e i = 46
    · rw [if_pos c1] at h1
      cases hs : xsk 1 e (i + 1) with
      | none => rw [hs] at h1; cases h1
      | some z =>
        obtain ⟨s1, q1⟩ := z
        rw [hs] at h1
        have h4 : (match xsp 1 e k q1 with
            | none => none
            | some (l, r) => some (s1 :: l, r)) = some ([], q) := h1
        cases h3 : xsp 1 e k q1 with
        | none => rw [h3] at h4; cases h4
        | some z2 => obtain ⟨l2, r2⟩ := z2; rw [h3] at h4; cases h4
    · rw [if_neg c1] at h1
      by_cases c2 : e i = 91
      · rw [if_pos c2] at h1
        cases hs : xsn 1 e (i + 1) with
        | none => rw [hs] at h1; cases h1
        | some z =>
          obtain ⟨s1, q1⟩ := z
          rw [hs] at h1
          have h4 : (match xsp 1 e k q1 with
            | none => none
            | some (l, r) => some (s1 :: l, r)) = some ([], q) := h1
          cases h3 : xsp 1 e k q1 with
          | none => rw [h3] at h4; cases h4
          | some z2 => obtain ⟨l2, r2⟩ := z2; rw [h3] at h4; cases h4
      · rw [if_neg c2] at h1
        cases h1
        rfl
/-- how much a pattern weighs for a place, 0 if it does not fit; n steps are behind -/
def xFW : Int → List Int → List Int → Nat → Int
  | a, [], _, n => 8 * a + n
  | _, _ :: _, [], _ => 0
  | a, s :: ls, c :: cs, n => if s = c ∨ (1000 ≤ c ∧ s = -1) ∨ (c < 1000 ∧ s = -2) then xFW (if s = -1 ∨ s = -2 then a else a * 2) ls cs (n + 1) else 0
theorem xft_cons (s c : Int) (ls cs : List Int) : xft (s :: ls) (c :: cs) ↔ (xsf s c ∧ xft ls cs) := by
  unfold xft
  constructor
  · rintro ⟨h1, h2⟩
    rw [List.length_cons, List.length_cons] at h1
    refine ⟨h2 0 (by rw [List.length_cons]; omega), by omega, fun j hj => h2 (j + 1) (by rw [List.length_cons]; omega)⟩
  · rintro ⟨h0, h1, h2⟩
    rw [List.length_cons, List.length_cons]
    refine ⟨by omega, fun j hj => ?_⟩
    cases j with
    | zero => exact h0
    | succ j => exact h2 j (by omega)
theorem xFW_eq : ∀ (ls cs : List Int) (a : Int) (n : Nat), (xft ls cs → xFW a ls cs n = 8 * xwt a ls + (n + ls.length : Nat)) ∧ (¬ xft ls cs → xFW a ls cs n = 0) := by
  intro ls
  induction ls with
  | nil =>
    intro cs a n
    refine ⟨fun _ => by show 8 * a + (n : Int) = 8 * a + ((n + 0 : Nat) : Int); omega, fun h => absurd (show xft [] cs from ⟨Nat.zero_le _, fun j hj => absurd hj (Nat.not_lt_zero _)⟩) h⟩
  | cons s ls ih =>
    intro cs a n
    cases cs with
    | nil => exact ⟨fun h => absurd h.1 (by rw [List.length_cons, List.length_nil]; omega), fun _ => rfl⟩
    | cons c cs =>
      rw [xft_cons]
      have hx : xFW a (s :: ls) (c :: cs) n = if s = c ∨ (1000 ≤ c ∧ s = -1) ∨ (c < 1000 ∧ s = -2) then xFW (if s = -1 ∨ s = -2 then a else a * 2) ls cs (n + 1) else 0 := rfl
      have hw : xwt a (s :: ls) = xwt (if s = -1 ∨ s = -2 then a else a * 2) ls := rfl
      rw [hx, hw, List.length_cons]
      obtain ⟨i1, i2⟩ := ih cs (if s = -1 ∨ s = -2 then a else a * 2) (n + 1)
      by_cases hs : xsf s c
      · rw [if_pos (show s = c ∨ (1000 ≤ c ∧ s = -1) ∨ (c < 1000 ∧ s = -2) from hs)]
        refine ⟨fun h => ?_, fun h => i2 (fun h2 => h ⟨hs, h2⟩)⟩
        rw [i1 h.2]
        omega
      · rw [if_neg (show ¬ (s = c ∨ (1000 ≤ c ∧ s = -1) ∨ (c < 1000 ∧ s = -2)) from hs)]
        exact ⟨fun h => absurd h.1 hs, fun _ => rfl⟩
/-- steps of places -/
def xpl0 (l : List Int) : Prop := ∀ c ∈ l, (0 ≤ c ∧ c ≤ 99) ∨ (1001 ≤ c ∧ c ≤ 1127)
section FI
variable {w : Value} {d : Nat} {A : xb_H} {s : Nat → Int} {t : Nat → Nat → Int} {r n q : Nat} {Q : xb_R → xb_H → Prop}
theorem mo_236l (hA : 194 ≤ A.1) (hE : ∀ j : Nat, 0 ≤ t 166 j ∧ t 166 j ≤ 127) (hr : r < 32) (hq : q < 100) (h58 : t 166 (510 + 100 * r + q) = 58) (hne : ∀ j : Nat, j < q → ¬ t 166 (510 + 100 * r + j) = 58) : ∀ (k j : Nat), j + k = q → Q (.inl (some (.int (Int32.ofInt ((510 + 100 * r + q : Nat) : Int))))) (ym A s t) → xr_ok (xt_G w) d 236 9 [(2, .int (Int32.ofInt ((510 + 100 * r + j : Nat) : Int))), (0, .ref 165), (1, .int (Int32.ofInt (r : Int)))] [] (ym A s t) Q := by
  intro k
  induction k using Nat.strongRecOn with
  | _ k ih =>
    intro j hj hQ
    refine xr_steps (pc' := 10) (L' := [(2, .int (Int32.ofInt ((510 + 100 * r + j : Nat) : Int))), (0, .ref 165), (1, .int (Int32.ofInt (r : Int)))]) (st' := [.ref 165]) 1 rfl ?_
    refine xr_getf (v := .ref 166) rfl (ym_165 hA) rfl ?_
    refine xr_steps (pc' := 14) (L' := [(2, .int (Int32.ofInt ((510 + 100 * r + j : Nat) : Int))), (0, .ref 165), (1, .int (Int32.ofInt (r : Int)))]) (st' := [.int (Int32.ofInt ((510 + 100 * r + j : Nat) : Int)), .ref 166]) 1 rfl ?_
    refine ym_caload (e := t 166 ((510 + 100 * r + j : Nat) : Int).toNat) hA rfl rfl (by decide) (by omega) (by omega) rfl ?_
    rw [Int.toNat_natCast]
    have hEj := hE (510 + 100 * r + j)
    refine xr_steps (pc' := 17) (L' := [(2, .int (Int32.ofInt ((510 + 100 * r + j : Nat) : Int))), (0, .ref 165), (1, .int (Int32.ofInt (r : Int)))]) (st' := [.int (Int32.ofInt 58), .int (Int32.ofInt (t 166 (510 + 100 * r + j)))]) 1 rfl ?_
    refine xr_icmp_eq rfl (by omega) (by omega) (fun z31 => ?_) (fun z31 => ?_)
    · refine xr_steps (pc' := 27) (L' := [(2, .int (Int32.ofInt ((510 + 100 * r + j : Nat) : Int))), (0, .ref 165), (1, .int (Int32.ofInt (r : Int)))]) (st' := [.int (Int32.ofInt ((510 + 100 * r + j : Nat) : Int))]) 1 rfl ?_
      obtain rfl : j = q := Classical.byContradiction fun hh => hne j (by omega) (by omega)
      exact xr_retI2 rfl rfl hQ
    · refine xr_iinc (L' := [(2, .int (Int32.ofInt (((510 + 100 * r + j : Nat) : Int) + 1))), (0, .ref 165), (1, .int (Int32.ofInt (r : Int)))]) rfl rfl rfl ?_
      refine xr_steps (pc' := 9) (L' := [(2, .int (Int32.ofInt (((510 + 100 * r + j : Nat) : Int) + 1))), (0, .ref 165), (1, .int (Int32.ofInt (r : Int)))]) (st' := []) 1 rfl ?_
      refine xr_loc (L := [(2, .int (Int32.ofInt (((510 + 100 * r + j : Nat) : Int) + 1))), (0, .ref 165), (1, .int (Int32.ofInt (r : Int)))]) (show [2, 0, 1].Nodup by decide) ⟨rfl, rfl, rfl, trivial⟩ ?_
      rw [show ((510 + 100 * r + j : Nat) : Int) + 1 = ((510 + 100 * r + (j + 1) : Nat) : Int) by omega]
      have hjq : ¬ j = q := by rintro rfl; omega
      exact ih (k - 1) (by omega) (j + 1) (by omega) hQ
theorem mo_236 (hA : 194 ≤ A.1) (hE : ∀ j : Nat, 0 ≤ t 166 j ∧ t 166 j ≤ 127) (hr : r < 32) (hq : q < 100) (h58 : t 166 (510 + 100 * r + q) = 58) (hne : ∀ j : Nat, j < q → ¬ t 166 (510 + 100 * r + j) = 58) : xr_ok (xt_G w) d 236 0 [(0, .ref 165), (1, .int (Int32.ofInt (r : Int)))] [] (ym A s t) (fun o A' => ∃ v0, o = .inl v0 ∧ v0 = some (.int (Int32.ofInt ((510 + 100 * r + q : Nat) : Int))) ∧ A' = ym A s t) := by
  refine xr_steps (pc' := 6) (L' := [(0, .ref 165), (1, .int (Int32.ofInt (r : Int)))]) (st' := [.int (Int32.ofInt (r : Int)), .int (Int32.ofInt 100), .int (Int32.ofInt 510)]) 3 rfl ?_
  refine xr_imul rfl ?_
  refine xr_iadd rfl ?_
  refine xr_steps (pc' := 9) (L' := [(2, .int (Int32.ofInt (510 + (100 * (r : Int))))), (0, .ref 165), (1, .int (Int32.ofInt (r : Int)))]) (st' := []) 1 rfl ?_
  rw [show (510 : Int) + 100 * (r : Int) = ((510 + 100 * r + 0 : Nat) : Int) by omega]
  exact mo_236l hA hE hr hq h58 hne q 0 (by omega) ⟨_, rfl, rfl, rfl⟩
theorem xcv_rng {l : List Int} {m : Nat} (h : xpl0 l) (hm : m < l.length) : (0 ≤ l.getD m 0 ∧ l.getD m 0 ≤ 99 ∧ xcv (l.getD m 0) = -1 - l.getD m 0) ∨ (1001 ≤ l.getD m 0 ∧ l.getD m 0 ≤ 1127 ∧ xcv (l.getD m 0) = l.getD m 0 - 1000) := by
  have h1 : l.getD m 0 ∈ l := by
    rw [List.getD_eq_getElem?_getD, List.getElem?_eq_getElem hm]
    exact List.getElem_mem _
  have h2 := h _ h1
  unfold xcv
  by_cases h3 : 1000 ≤ l.getD m 0
  · rw [if_pos h3]; omega
  · rw [if_neg h3]; omega
theorem mo_235s {i m : Nat} {a sx : Int} {l : List Int} (hA : 194 ≤ A.1) (hE : ∀ j : Nat, 0 ≤ t 166 j ∧ t 166 j ≤ 127) (hr : r < 32) (hq : i < q ∧ q < 100) (hst : ((t 166 (510 + 100 * r + i) = 46 ∧ ((t 166 (510 + 100 * r + (i + 1)) = 42 ∧ sx = -1) ∨ ((97 ≤ t 166 (510 + 100 * r + (i + 1)) ∧ t 166 (510 + 100 * r + (i + 1)) ≤ 122) ∧ sx = 1000 + t 166 (510 + 100 * r + (i + 1))))) ∨ (t 166 (510 + 100 * r + i) = 91 ∧ ((t 166 (510 + 100 * r + (i + 1)) = 42 ∧ sx = -2) ∨ ((48 ≤ t 166 (510 + 100 * r + (i + 1)) ∧ t 166 (510 + 100 * r + (i + 1)) ≤ 57) ∧ sx = t 166 (510 + 100 * r + (i + 1)) - 48))))) (hs27 : s 27 = (l.length : Int)) (hl : l.length ≤ 50) (hrow : xrow (t 186) l) (hpl : xpl0 l) (hm : m ≤ 50) (ha : 0 ≤ a ∧ a ≤ 1000) (hgo : ∀ (i' : Nat) (a' : Int), (((t 166 (510 + 100 * r + i) = 46 ∧ i' = i + 2) ∨ (t 166 (510 + 100 * r + i) = 91 ∧ i' = i + 3)) ∧ (m < l.length ∧ (sx = (l.getD m 0) ∨ (1000 ≤ (l.getD m 0) ∧ sx = -1) ∨ ((l.getD m 0) < 1000 ∧ sx = -2))) ∧ (((sx = -1 ∨ sx = -2) ∧ a' = a) ∨ (¬ (sx = -1 ∨ sx = -2) ∧ a' = 2 * a))) → xr_ok (xt_G w) d 235 21 [(2, .int (Int32.ofInt ((510 + 100 * r + i' : Nat) : Int))), (4, .int (Int32.ofInt a')), (5, .int (Int32.ofInt ((m + 1 : Nat) : Int))), (3, .int (Int32.ofInt ((510 + 100 * r + q : Nat) : Int))), (0, .ref 165), (1, .int (Int32.ofInt (r : Int)))] [] (ym A s t) Q) (hno : ¬ (m < l.length ∧ (sx = (l.getD m 0) ∨ (1000 ≤ (l.getD m 0) ∧ sx = -1) ∨ ((l.getD m 0) < 1000 ∧ sx = -2))) → Q (.inl (some (.int (Int32.ofInt 0)))) (ym A s t)) : xr_ok (xt_G w) d 235 21 [(2, .int (Int32.ofInt ((510 + 100 * r + i : Nat) : Int))), (4, .int (Int32.ofInt a)), (5, .int (Int32.ofInt (m : Int))), (3, .int (Int32.ofInt ((510 + 100 * r + q : Nat) : Int))), (0, .ref 165), (1, .int (Int32.ofInt (r : Int)))] [] (ym A s t) Q := by
  obtain ⟨hEi, hEj⟩ : (0 ≤ t 166 (510 + 100 * r + i) ∧ t 166 (510 + 100 * r + i) ≤ 127) ∧ (0 ≤ t 166 (510 + 100 * r + (i + 1)) ∧ t 166 (510 + 100 * r + (i + 1)) ≤ 127) := ⟨hE _, hE _⟩
  refine xr_steps (pc' := 23) (L' := [(2, .int (Int32.ofInt ((510 + 100 * r + i : Nat) : Int))), (4, .int (Int32.ofInt a)), (5, .int (Int32.ofInt (m : Int))), (3, .int (Int32.ofInt ((510 + 100 * r + q : Nat) : Int))), (0, .ref 165), (1, .int (Int32.ofInt (r : Int)))]) (st' := [.int (Int32.ofInt ((510 + 100 * r + q : Nat) : Int)), .int (Int32.ofInt ((510 + 100 * r + i : Nat) : Int))]) 2 rfl ?_
  refine xr_icmp_ge rfl (by omega) (by omega) (fun z31 => ?_) (fun z31 => ?_)
  · exfalso; omega
  · refine xr_steps (pc' := 27) (L' := [(2, .int (Int32.ofInt ((510 + 100 * r + i : Nat) : Int))), (4, .int (Int32.ofInt a)), (5, .int (Int32.ofInt (m : Int))), (3, .int (Int32.ofInt ((510 + 100 * r + q : Nat) : Int))), (0, .ref 165), (1, .int (Int32.ofInt (r : Int)))]) (st' := [.ref 165]) 1 rfl ?_
    refine xr_getf (v := .ref 166) rfl (ym_165 hA) rfl ?_
    refine xr_steps (pc' := 32) (L' := [(2, .int (Int32.ofInt ((510 + 100 * r + i : Nat) : Int))), (4, .int (Int32.ofInt a)), (5, .int (Int32.ofInt (m : Int))), (3, .int (Int32.ofInt ((510 + 100 * r + q : Nat) : Int))), (0, .ref 165), (1, .int (Int32.ofInt (r : Int)))]) (st' := [.int (Int32.ofInt 1), .int (Int32.ofInt ((510 + 100 * r + i : Nat) : Int)), .ref 166]) 2 rfl ?_
    refine xr_iadd rfl ?_
    refine ym_caload (e := t 166 (((510 + 100 * r + i : Nat) : Int) + 1).toNat) hA rfl rfl (by decide) (by omega) (by omega) rfl ?_
    rw [show ((510 + 100 * r + i : Nat) : Int) + 1 = ((510 + 100 * r + (i + 1) : Nat) : Int) by omega, Int.toNat_natCast]
    refine xr_steps (pc' := 37) (L' := [(6, .int (Int32.ofInt (t 166 (510 + 100 * r + (i + 1))))), (2, .int (Int32.ofInt ((510 + 100 * r + i : Nat) : Int))), (4, .int (Int32.ofInt a)), (5, .int (Int32.ofInt (m : Int))), (3, .int (Int32.ofInt ((510 + 100 * r + q : Nat) : Int))), (0, .ref 165), (1, .int (Int32.ofInt (r : Int)))]) (st' := [.ref 165]) 2 rfl ?_
    refine xr_getf (v := .ref 166) rfl (ym_165 hA) rfl ?_
    refine xr_steps (pc' := 41) (L' := [(6, .int (Int32.ofInt (t 166 (510 + 100 * r + (i + 1))))), (2, .int (Int32.ofInt ((510 + 100 * r + i : Nat) : Int))), (4, .int (Int32.ofInt a)), (5, .int (Int32.ofInt (m : Int))), (3, .int (Int32.ofInt ((510 + 100 * r + q : Nat) : Int))), (0, .ref 165), (1, .int (Int32.ofInt (r : Int)))]) (st' := [.int (Int32.ofInt ((510 + 100 * r + i : Nat) : Int)), .ref 166]) 1 rfl ?_
    refine ym_caload (e := t 166 ((510 + 100 * r + i : Nat) : Int).toNat) hA rfl rfl (by decide) (by omega) (by omega) rfl ?_
    rw [Int.toNat_natCast]
    refine xr_steps (pc' := 44) (L' := [(6, .int (Int32.ofInt (t 166 (510 + 100 * r + (i + 1))))), (2, .int (Int32.ofInt ((510 + 100 * r + i : Nat) : Int))), (4, .int (Int32.ofInt a)), (5, .int (Int32.ofInt (m : Int))), (3, .int (Int32.ofInt ((510 + 100 * r + q : Nat) : Int))), (0, .ref 165), (1, .int (Int32.ofInt (r : Int)))]) (st' := [.int (Int32.ofInt 46), .int (Int32.ofInt (t 166 (510 + 100 * r + i)))]) 1 rfl ?_
    refine xr_icmp_ne rfl (by omega) (by omega) (fun z32 => ?_) (fun z32 => ?_)
    · refine xr_steps (pc' := 57) (L' := [(7, .int (Int32.ofInt 0)), (6, .int (Int32.ofInt (t 166 (510 + 100 * r + (i + 1))))), (2, .int (Int32.ofInt ((510 + 100 * r + i : Nat) : Int))), (4, .int (Int32.ofInt a)), (5, .int (Int32.ofInt (m : Int))), (3, .int (Int32.ofInt ((510 + 100 * r + q : Nat) : Int))), (0, .ref 165), (1, .int (Int32.ofInt (r : Int)))]) (st' := [.ref 165, .int (Int32.ofInt (m : Int))]) 4 rfl ?_
      refine xr_getf (v := .int (Int32.ofInt (s 27))) rfl (ym_165 hA) rfl ?_
      refine xr_icmp_ge rfl (by omega) (by omega) (fun z33 => ?_) (fun z33 => ?_)
      · refine xr_steps (pc' := 84) (L' := [(7, .int (Int32.ofInt 0)), (6, .int (Int32.ofInt (t 166 (510 + 100 * r + (i + 1))))), (2, .int (Int32.ofInt ((510 + 100 * r + i : Nat) : Int))), (4, .int (Int32.ofInt a)), (5, .int (Int32.ofInt (m : Int))), (3, .int (Int32.ofInt ((510 + 100 * r + q : Nat) : Int))), (0, .ref 165), (1, .int (Int32.ofInt (r : Int)))]) (st' := [.int (Int32.ofInt 0)]) 1 rfl ?_
        exact xr_retI2 rfl rfl (hno (by omega))
      · have hcv : (0 ≤ l.getD m 0 ∧ l.getD m 0 ≤ 99 ∧ xcv (l.getD m 0) = -1 - l.getD m 0) ∨ (1001 ≤ l.getD m 0 ∧ l.getD m 0 ≤ 1127 ∧ xcv (l.getD m 0) = l.getD m 0 - 1000) := xcv_rng hpl (by omega)
        refine xr_steps (pc' := 66) (L' := [(7, .int (Int32.ofInt 0)), (6, .int (Int32.ofInt (t 166 (510 + 100 * r + (i + 1))))), (2, .int (Int32.ofInt ((510 + 100 * r + i : Nat) : Int))), (4, .int (Int32.ofInt a)), (5, .int (Int32.ofInt (m : Int))), (3, .int (Int32.ofInt ((510 + 100 * r + q : Nat) : Int))), (0, .ref 165), (1, .int (Int32.ofInt (r : Int)))]) (st' := [.ref 165, .int (Int32.ofInt 0)]) 2 rfl ?_
        refine xr_getf (v := .ref 186) rfl (ym_165 hA) rfl ?_
        refine xr_steps (pc' := 71) (L' := [(7, .int (Int32.ofInt 0)), (6, .int (Int32.ofInt (t 166 (510 + 100 * r + (i + 1))))), (2, .int (Int32.ofInt ((510 + 100 * r + i : Nat) : Int))), (4, .int (Int32.ofInt a)), (5, .int (Int32.ofInt (m : Int))), (3, .int (Int32.ofInt ((510 + 100 * r + q : Nat) : Int))), (0, .ref 165), (1, .int (Int32.ofInt (r : Int)))]) (st' := [.int (Int32.ofInt (m : Int)), .ref 186, .int (Int32.ofInt 0)]) 1 rfl ?_
        refine ym_iaload (e := t 186 (m : Int).toNat) hA rfl rfl (by decide) (by omega) (by omega) rfl ?_
        rw [show (m : Int).toNat = m by omega]
        rw [hrow m (by omega)]
        refine xr_if_le rfl (by omega) (fun z34 => ?_) (fun z34 => ?_)
        · refine xr_steps (pc' := 80) (L' := [(7, .int (Int32.ofInt 0)), (6, .int (Int32.ofInt (t 166 (510 + 100 * r + (i + 1))))), (2, .int (Int32.ofInt ((510 + 100 * r + i : Nat) : Int))), (4, .int (Int32.ofInt a)), (5, .int (Int32.ofInt (m : Int))), (3, .int (Int32.ofInt ((510 + 100 * r + q : Nat) : Int))), (0, .ref 165), (1, .int (Int32.ofInt (r : Int)))]) (st' := [.int (Int32.ofInt 0), .int (Int32.ofInt 0)]) 1 rfl ?_
          refine xr_icmp_eq rfl (by omega) (by omega) (fun z35 => ?_) (fun z35 => ?_)
          · refine xr_steps (pc' := 87) (L' := [(7, .int (Int32.ofInt 0)), (6, .int (Int32.ofInt (t 166 (510 + 100 * r + (i + 1))))), (2, .int (Int32.ofInt ((510 + 100 * r + i : Nat) : Int))), (4, .int (Int32.ofInt a)), (5, .int (Int32.ofInt (m : Int))), (3, .int (Int32.ofInt ((510 + 100 * r + q : Nat) : Int))), (0, .ref 165), (1, .int (Int32.ofInt (r : Int)))]) (st' := [.int (Int32.ofInt 0)]) 1 rfl ?_
            refine xr_if_eq rfl (by omega) (fun z36 => ?_) (fun z36 => ?_)
            · refine xr_steps (pc' := 99) (L' := [(7, .int (Int32.ofInt 0)), (6, .int (Int32.ofInt (t 166 (510 + 100 * r + (i + 1))))), (2, .int (Int32.ofInt ((510 + 100 * r + i : Nat) : Int))), (4, .int (Int32.ofInt a)), (5, .int (Int32.ofInt (m : Int))), (3, .int (Int32.ofInt ((510 + 100 * r + q : Nat) : Int))), (0, .ref 165), (1, .int (Int32.ofInt (r : Int)))]) (st' := [.int (Int32.ofInt (t 166 (510 + 100 * r + (i + 1)))), .int (Int32.ofInt 48)]) 2 rfl ?_
              refine xr_isub rfl ?_
              refine xr_steps (pc' := 101) (L' := [(7, .int (Int32.ofInt 0)), (6, .int (Int32.ofInt (t 166 (510 + 100 * r + (i + 1))))), (2, .int (Int32.ofInt ((510 + 100 * r + i : Nat) : Int))), (4, .int (Int32.ofInt a)), (5, .int (Int32.ofInt (m : Int))), (3, .int (Int32.ofInt ((510 + 100 * r + q : Nat) : Int))), (0, .ref 165), (1, .int (Int32.ofInt (r : Int)))]) (st' := [.int (Int32.ofInt 1), .int (Int32.ofInt (48 - (t 166 (510 + 100 * r + (i + 1)))))]) 1 rfl ?_
              refine xr_isub rfl ?_
              refine xr_steps (pc' := 108) (L' := [(8, .int (Int32.ofInt ((48 - (t 166 (510 + 100 * r + (i + 1)))) - 1))), (7, .int (Int32.ofInt 0)), (6, .int (Int32.ofInt (t 166 (510 + 100 * r + (i + 1))))), (2, .int (Int32.ofInt ((510 + 100 * r + i : Nat) : Int))), (4, .int (Int32.ofInt a)), (5, .int (Int32.ofInt (m : Int))), (3, .int (Int32.ofInt ((510 + 100 * r + q : Nat) : Int))), (0, .ref 165), (1, .int (Int32.ofInt (r : Int)))]) (st' := [.int (Int32.ofInt 42), .int (Int32.ofInt (t 166 (510 + 100 * r + (i + 1))))]) 3 rfl ?_
              refine xr_icmp_eq rfl (by omega) (by omega) (fun z37 => ?_) (fun z37 => ?_)
              · refine xr_steps (pc' := 129) (L' := [(8, .int (Int32.ofInt ((48 - (t 166 (510 + 100 * r + (i + 1)))) - 1))), (7, .int (Int32.ofInt 0)), (6, .int (Int32.ofInt (t 166 (510 + 100 * r + (i + 1))))), (2, .int (Int32.ofInt ((510 + 100 * r + i : Nat) : Int))), (4, .int (Int32.ofInt a)), (5, .int (Int32.ofInt (m : Int))), (3, .int (Int32.ofInt ((510 + 100 * r + q : Nat) : Int))), (0, .ref 165), (1, .int (Int32.ofInt (r : Int)))]) (st' := [.int (Int32.ofInt 42), .int (Int32.ofInt (t 166 (510 + 100 * r + (i + 1))))]) 2 rfl ?_
                refine xr_icmp_ne rfl (by omega) (by omega) (fun z38 => ?_) (fun z38 => ?_)
                · refine xr_steps (pc' := 140) (L' := [(8, .int (Int32.ofInt ((48 - (t 166 (510 + 100 * r + (i + 1)))) - 1))), (7, .int (Int32.ofInt 0)), (6, .int (Int32.ofInt (t 166 (510 + 100 * r + (i + 1))))), (2, .int (Int32.ofInt ((510 + 100 * r + i : Nat) : Int))), (4, .int (Int32.ofInt a)), (5, .int (Int32.ofInt (m : Int))), (3, .int (Int32.ofInt ((510 + 100 * r + q : Nat) : Int))), (0, .ref 165), (1, .int (Int32.ofInt (r : Int)))]) (st' := [.int (Int32.ofInt a), .int (Int32.ofInt 2)]) 2 rfl ?_
                  refine xr_imul rfl ?_
                  refine xr_steps (pc' := 143) (L' := [(4, .int (Int32.ofInt (2 * a))), (8, .int (Int32.ofInt ((48 - (t 166 (510 + 100 * r + (i + 1)))) - 1))), (7, .int (Int32.ofInt 0)), (6, .int (Int32.ofInt (t 166 (510 + 100 * r + (i + 1))))), (2, .int (Int32.ofInt ((510 + 100 * r + i : Nat) : Int))), (5, .int (Int32.ofInt (m : Int))), (3, .int (Int32.ofInt ((510 + 100 * r + q : Nat) : Int))), (0, .ref 165), (1, .int (Int32.ofInt (r : Int)))]) (st' := []) 1 rfl ?_
                  refine xr_iinc (L' := [(5, .int (Int32.ofInt ((m : Int) + 1))), (4, .int (Int32.ofInt (2 * a))), (8, .int (Int32.ofInt ((48 - (t 166 (510 + 100 * r + (i + 1)))) - 1))), (7, .int (Int32.ofInt 0)), (6, .int (Int32.ofInt (t 166 (510 + 100 * r + (i + 1))))), (2, .int (Int32.ofInt ((510 + 100 * r + i : Nat) : Int))), (3, .int (Int32.ofInt ((510 + 100 * r + q : Nat) : Int))), (0, .ref 165), (1, .int (Int32.ofInt (r : Int)))]) rfl rfl rfl ?_
                  refine xr_steps (pc' := 149) (L' := [(5, .int (Int32.ofInt ((m : Int) + 1))), (4, .int (Int32.ofInt (2 * a))), (8, .int (Int32.ofInt ((48 - (t 166 (510 + 100 * r + (i + 1)))) - 1))), (7, .int (Int32.ofInt 0)), (6, .int (Int32.ofInt (t 166 (510 + 100 * r + (i + 1))))), (2, .int (Int32.ofInt ((510 + 100 * r + i : Nat) : Int))), (3, .int (Int32.ofInt ((510 + 100 * r + q : Nat) : Int))), (0, .ref 165), (1, .int (Int32.ofInt (r : Int)))]) (st' := [.int (Int32.ofInt 0), .int (Int32.ofInt ((510 + 100 * r + i : Nat) : Int))]) 2 rfl ?_
                  refine xr_if_eq rfl (by omega) (fun z39 => ?_) (fun z39 => ?_)
                  · refine xr_steps (pc' := 157) (L' := [(5, .int (Int32.ofInt ((m : Int) + 1))), (4, .int (Int32.ofInt (2 * a))), (8, .int (Int32.ofInt ((48 - (t 166 (510 + 100 * r + (i + 1)))) - 1))), (7, .int (Int32.ofInt 0)), (6, .int (Int32.ofInt (t 166 (510 + 100 * r + (i + 1))))), (2, .int (Int32.ofInt ((510 + 100 * r + i : Nat) : Int))), (3, .int (Int32.ofInt ((510 + 100 * r + q : Nat) : Int))), (0, .ref 165), (1, .int (Int32.ofInt (r : Int)))]) (st' := [.int (Int32.ofInt 3), .int (Int32.ofInt ((510 + 100 * r + i : Nat) : Int))]) 1 rfl ?_
                    refine xr_iadd rfl ?_
                    refine xr_steps (pc' := 21) (L' := [(2, .int (Int32.ofInt (((510 + 100 * r + i : Nat) : Int) + 3))), (5, .int (Int32.ofInt ((m : Int) + 1))), (4, .int (Int32.ofInt (2 * a))), (8, .int (Int32.ofInt ((48 - (t 166 (510 + 100 * r + (i + 1)))) - 1))), (7, .int (Int32.ofInt 0)), (6, .int (Int32.ofInt (t 166 (510 + 100 * r + (i + 1))))), (3, .int (Int32.ofInt ((510 + 100 * r + q : Nat) : Int))), (0, .ref 165), (1, .int (Int32.ofInt (r : Int)))]) (st' := []) 2 rfl ?_
                    refine xr_loc (L := [(2, .int (Int32.ofInt (((510 + 100 * r + i : Nat) : Int) + 3))), (4, .int (Int32.ofInt (2 * a))), (5, .int (Int32.ofInt ((m : Int) + 1))), (3, .int (Int32.ofInt ((510 + 100 * r + q : Nat) : Int))), (0, .ref 165), (1, .int (Int32.ofInt (r : Int)))]) (show [2, 4, 5, 3, 0, 1].Nodup by decide) ⟨rfl, rfl, rfl, rfl, rfl, rfl, trivial⟩ ?_
                    rw [show ((510 + 100 * r + i : Nat) : Int) + 3 = ((510 + 100 * r + (i + 3) : Nat) : Int) by omega, show (m : Int) + 1 = ((m + 1 : Nat) : Int) by omega]
                    exact hgo (i + 3) (2 * a) (by omega)
                  · exfalso; omega
                · refine xr_steps (pc' := 143) (L' := [(4, .int (Int32.ofInt a)), (8, .int (Int32.ofInt ((48 - (t 166 (510 + 100 * r + (i + 1)))) - 1))), (7, .int (Int32.ofInt 0)), (6, .int (Int32.ofInt (t 166 (510 + 100 * r + (i + 1))))), (2, .int (Int32.ofInt ((510 + 100 * r + i : Nat) : Int))), (5, .int (Int32.ofInt (m : Int))), (3, .int (Int32.ofInt ((510 + 100 * r + q : Nat) : Int))), (0, .ref 165), (1, .int (Int32.ofInt (r : Int)))]) (st' := []) 3 rfl ?_
                  refine xr_iinc (L' := [(5, .int (Int32.ofInt ((m : Int) + 1))), (4, .int (Int32.ofInt a)), (8, .int (Int32.ofInt ((48 - (t 166 (510 + 100 * r + (i + 1)))) - 1))), (7, .int (Int32.ofInt 0)), (6, .int (Int32.ofInt (t 166 (510 + 100 * r + (i + 1))))), (2, .int (Int32.ofInt ((510 + 100 * r + i : Nat) : Int))), (3, .int (Int32.ofInt ((510 + 100 * r + q : Nat) : Int))), (0, .ref 165), (1, .int (Int32.ofInt (r : Int)))]) rfl rfl rfl ?_
                  refine xr_steps (pc' := 149) (L' := [(5, .int (Int32.ofInt ((m : Int) + 1))), (4, .int (Int32.ofInt a)), (8, .int (Int32.ofInt ((48 - (t 166 (510 + 100 * r + (i + 1)))) - 1))), (7, .int (Int32.ofInt 0)), (6, .int (Int32.ofInt (t 166 (510 + 100 * r + (i + 1))))), (2, .int (Int32.ofInt ((510 + 100 * r + i : Nat) : Int))), (3, .int (Int32.ofInt ((510 + 100 * r + q : Nat) : Int))), (0, .ref 165), (1, .int (Int32.ofInt (r : Int)))]) (st' := [.int (Int32.ofInt 0), .int (Int32.ofInt ((510 + 100 * r + i : Nat) : Int))]) 2 rfl ?_
                  refine xr_if_eq rfl (by omega) (fun z40 => ?_) (fun z40 => ?_)
                  · refine xr_steps (pc' := 157) (L' := [(5, .int (Int32.ofInt ((m : Int) + 1))), (4, .int (Int32.ofInt a)), (8, .int (Int32.ofInt ((48 - (t 166 (510 + 100 * r + (i + 1)))) - 1))), (7, .int (Int32.ofInt 0)), (6, .int (Int32.ofInt (t 166 (510 + 100 * r + (i + 1))))), (2, .int (Int32.ofInt ((510 + 100 * r + i : Nat) : Int))), (3, .int (Int32.ofInt ((510 + 100 * r + q : Nat) : Int))), (0, .ref 165), (1, .int (Int32.ofInt (r : Int)))]) (st' := [.int (Int32.ofInt 3), .int (Int32.ofInt ((510 + 100 * r + i : Nat) : Int))]) 1 rfl ?_
                    refine xr_iadd rfl ?_
                    refine xr_steps (pc' := 21) (L' := [(2, .int (Int32.ofInt (((510 + 100 * r + i : Nat) : Int) + 3))), (5, .int (Int32.ofInt ((m : Int) + 1))), (4, .int (Int32.ofInt a)), (8, .int (Int32.ofInt ((48 - (t 166 (510 + 100 * r + (i + 1)))) - 1))), (7, .int (Int32.ofInt 0)), (6, .int (Int32.ofInt (t 166 (510 + 100 * r + (i + 1))))), (3, .int (Int32.ofInt ((510 + 100 * r + q : Nat) : Int))), (0, .ref 165), (1, .int (Int32.ofInt (r : Int)))]) (st' := []) 2 rfl ?_
                    refine xr_loc (L := [(2, .int (Int32.ofInt (((510 + 100 * r + i : Nat) : Int) + 3))), (4, .int (Int32.ofInt a)), (5, .int (Int32.ofInt ((m : Int) + 1))), (3, .int (Int32.ofInt ((510 + 100 * r + q : Nat) : Int))), (0, .ref 165), (1, .int (Int32.ofInt (r : Int)))]) (show [2, 4, 5, 3, 0, 1].Nodup by decide) ⟨rfl, rfl, rfl, rfl, rfl, rfl, trivial⟩ ?_
                    rw [show ((510 + 100 * r + i : Nat) : Int) + 3 = ((510 + 100 * r + (i + 3) : Nat) : Int) by omega, show (m : Int) + 1 = ((m + 1 : Nat) : Int) by omega]
                    exact hgo (i + 3) a (by omega)
                  · exfalso; omega
              · refine xr_steps (pc' := 114) (L' := [(8, .int (Int32.ofInt ((48 - (t 166 (510 + 100 * r + (i + 1)))) - 1))), (7, .int (Int32.ofInt 0)), (6, .int (Int32.ofInt (t 166 (510 + 100 * r + (i + 1))))), (2, .int (Int32.ofInt ((510 + 100 * r + i : Nat) : Int))), (4, .int (Int32.ofInt a)), (5, .int (Int32.ofInt (m : Int))), (3, .int (Int32.ofInt ((510 + 100 * r + q : Nat) : Int))), (0, .ref 165), (1, .int (Int32.ofInt (r : Int)))]) (st' := [.ref 165, .int (Int32.ofInt ((48 - (t 166 (510 + 100 * r + (i + 1)))) - 1))]) 2 rfl ?_
                refine xr_getf (v := .ref 186) rfl (ym_165 hA) rfl ?_
                refine xr_steps (pc' := 119) (L' := [(8, .int (Int32.ofInt ((48 - (t 166 (510 + 100 * r + (i + 1)))) - 1))), (7, .int (Int32.ofInt 0)), (6, .int (Int32.ofInt (t 166 (510 + 100 * r + (i + 1))))), (2, .int (Int32.ofInt ((510 + 100 * r + i : Nat) : Int))), (4, .int (Int32.ofInt a)), (5, .int (Int32.ofInt (m : Int))), (3, .int (Int32.ofInt ((510 + 100 * r + q : Nat) : Int))), (0, .ref 165), (1, .int (Int32.ofInt (r : Int)))]) (st' := [.int (Int32.ofInt (m : Int)), .ref 186, .int (Int32.ofInt ((48 - (t 166 (510 + 100 * r + (i + 1)))) - 1))]) 1 rfl ?_
                refine ym_iaload (e := t 186 (m : Int).toNat) hA rfl rfl (by decide) (by omega) (by omega) rfl ?_
                rw [show (m : Int).toNat = m by omega]
                rw [hrow m (by omega)]
                refine xr_icmp_eq rfl (by omega) (by omega) (fun z41 => ?_) (fun z41 => ?_)
                · refine xr_steps (pc' := 129) (L' := [(8, .int (Int32.ofInt ((48 - (t 166 (510 + 100 * r + (i + 1)))) - 1))), (7, .int (Int32.ofInt 0)), (6, .int (Int32.ofInt (t 166 (510 + 100 * r + (i + 1))))), (2, .int (Int32.ofInt ((510 + 100 * r + i : Nat) : Int))), (4, .int (Int32.ofInt a)), (5, .int (Int32.ofInt (m : Int))), (3, .int (Int32.ofInt ((510 + 100 * r + q : Nat) : Int))), (0, .ref 165), (1, .int (Int32.ofInt (r : Int)))]) (st' := [.int (Int32.ofInt 42), .int (Int32.ofInt (t 166 (510 + 100 * r + (i + 1))))]) 2 rfl ?_
                  refine xr_icmp_ne rfl (by omega) (by omega) (fun z42 => ?_) (fun z42 => ?_)
                  · refine xr_steps (pc' := 140) (L' := [(8, .int (Int32.ofInt ((48 - (t 166 (510 + 100 * r + (i + 1)))) - 1))), (7, .int (Int32.ofInt 0)), (6, .int (Int32.ofInt (t 166 (510 + 100 * r + (i + 1))))), (2, .int (Int32.ofInt ((510 + 100 * r + i : Nat) : Int))), (4, .int (Int32.ofInt a)), (5, .int (Int32.ofInt (m : Int))), (3, .int (Int32.ofInt ((510 + 100 * r + q : Nat) : Int))), (0, .ref 165), (1, .int (Int32.ofInt (r : Int)))]) (st' := [.int (Int32.ofInt a), .int (Int32.ofInt 2)]) 2 rfl ?_
                    refine xr_imul rfl ?_
                    refine xr_steps (pc' := 143) (L' := [(4, .int (Int32.ofInt (2 * a))), (8, .int (Int32.ofInt ((48 - (t 166 (510 + 100 * r + (i + 1)))) - 1))), (7, .int (Int32.ofInt 0)), (6, .int (Int32.ofInt (t 166 (510 + 100 * r + (i + 1))))), (2, .int (Int32.ofInt ((510 + 100 * r + i : Nat) : Int))), (5, .int (Int32.ofInt (m : Int))), (3, .int (Int32.ofInt ((510 + 100 * r + q : Nat) : Int))), (0, .ref 165), (1, .int (Int32.ofInt (r : Int)))]) (st' := []) 1 rfl ?_
                    refine xr_iinc (L' := [(5, .int (Int32.ofInt ((m : Int) + 1))), (4, .int (Int32.ofInt (2 * a))), (8, .int (Int32.ofInt ((48 - (t 166 (510 + 100 * r + (i + 1)))) - 1))), (7, .int (Int32.ofInt 0)), (6, .int (Int32.ofInt (t 166 (510 + 100 * r + (i + 1))))), (2, .int (Int32.ofInt ((510 + 100 * r + i : Nat) : Int))), (3, .int (Int32.ofInt ((510 + 100 * r + q : Nat) : Int))), (0, .ref 165), (1, .int (Int32.ofInt (r : Int)))]) rfl rfl rfl ?_
                    refine xr_steps (pc' := 149) (L' := [(5, .int (Int32.ofInt ((m : Int) + 1))), (4, .int (Int32.ofInt (2 * a))), (8, .int (Int32.ofInt ((48 - (t 166 (510 + 100 * r + (i + 1)))) - 1))), (7, .int (Int32.ofInt 0)), (6, .int (Int32.ofInt (t 166 (510 + 100 * r + (i + 1))))), (2, .int (Int32.ofInt ((510 + 100 * r + i : Nat) : Int))), (3, .int (Int32.ofInt ((510 + 100 * r + q : Nat) : Int))), (0, .ref 165), (1, .int (Int32.ofInt (r : Int)))]) (st' := [.int (Int32.ofInt 0), .int (Int32.ofInt ((510 + 100 * r + i : Nat) : Int))]) 2 rfl ?_
                    refine xr_if_eq rfl (by omega) (fun z43 => ?_) (fun z43 => ?_)
                    · refine xr_steps (pc' := 157) (L' := [(5, .int (Int32.ofInt ((m : Int) + 1))), (4, .int (Int32.ofInt (2 * a))), (8, .int (Int32.ofInt ((48 - (t 166 (510 + 100 * r + (i + 1)))) - 1))), (7, .int (Int32.ofInt 0)), (6, .int (Int32.ofInt (t 166 (510 + 100 * r + (i + 1))))), (2, .int (Int32.ofInt ((510 + 100 * r + i : Nat) : Int))), (3, .int (Int32.ofInt ((510 + 100 * r + q : Nat) : Int))), (0, .ref 165), (1, .int (Int32.ofInt (r : Int)))]) (st' := [.int (Int32.ofInt 3), .int (Int32.ofInt ((510 + 100 * r + i : Nat) : Int))]) 1 rfl ?_
                      refine xr_iadd rfl ?_
                      refine xr_steps (pc' := 21) (L' := [(2, .int (Int32.ofInt (((510 + 100 * r + i : Nat) : Int) + 3))), (5, .int (Int32.ofInt ((m : Int) + 1))), (4, .int (Int32.ofInt (2 * a))), (8, .int (Int32.ofInt ((48 - (t 166 (510 + 100 * r + (i + 1)))) - 1))), (7, .int (Int32.ofInt 0)), (6, .int (Int32.ofInt (t 166 (510 + 100 * r + (i + 1))))), (3, .int (Int32.ofInt ((510 + 100 * r + q : Nat) : Int))), (0, .ref 165), (1, .int (Int32.ofInt (r : Int)))]) (st' := []) 2 rfl ?_
                      refine xr_loc (L := [(2, .int (Int32.ofInt (((510 + 100 * r + i : Nat) : Int) + 3))), (4, .int (Int32.ofInt (2 * a))), (5, .int (Int32.ofInt ((m : Int) + 1))), (3, .int (Int32.ofInt ((510 + 100 * r + q : Nat) : Int))), (0, .ref 165), (1, .int (Int32.ofInt (r : Int)))]) (show [2, 4, 5, 3, 0, 1].Nodup by decide) ⟨rfl, rfl, rfl, rfl, rfl, rfl, trivial⟩ ?_
                      rw [show ((510 + 100 * r + i : Nat) : Int) + 3 = ((510 + 100 * r + (i + 3) : Nat) : Int) by omega, show (m : Int) + 1 = ((m + 1 : Nat) : Int) by omega]
                      exact hgo (i + 3) (2 * a) (by omega)
                    · exfalso; omega
                  · refine xr_steps (pc' := 143) (L' := [(4, .int (Int32.ofInt a)), (8, .int (Int32.ofInt ((48 - (t 166 (510 + 100 * r + (i + 1)))) - 1))), (7, .int (Int32.ofInt 0)), (6, .int (Int32.ofInt (t 166 (510 + 100 * r + (i + 1))))), (2, .int (Int32.ofInt ((510 + 100 * r + i : Nat) : Int))), (5, .int (Int32.ofInt (m : Int))), (3, .int (Int32.ofInt ((510 + 100 * r + q : Nat) : Int))), (0, .ref 165), (1, .int (Int32.ofInt (r : Int)))]) (st' := []) 3 rfl ?_
                    refine xr_iinc (L' := [(5, .int (Int32.ofInt ((m : Int) + 1))), (4, .int (Int32.ofInt a)), (8, .int (Int32.ofInt ((48 - (t 166 (510 + 100 * r + (i + 1)))) - 1))), (7, .int (Int32.ofInt 0)), (6, .int (Int32.ofInt (t 166 (510 + 100 * r + (i + 1))))), (2, .int (Int32.ofInt ((510 + 100 * r + i : Nat) : Int))), (3, .int (Int32.ofInt ((510 + 100 * r + q : Nat) : Int))), (0, .ref 165), (1, .int (Int32.ofInt (r : Int)))]) rfl rfl rfl ?_
                    refine xr_steps (pc' := 149) (L' := [(5, .int (Int32.ofInt ((m : Int) + 1))), (4, .int (Int32.ofInt a)), (8, .int (Int32.ofInt ((48 - (t 166 (510 + 100 * r + (i + 1)))) - 1))), (7, .int (Int32.ofInt 0)), (6, .int (Int32.ofInt (t 166 (510 + 100 * r + (i + 1))))), (2, .int (Int32.ofInt ((510 + 100 * r + i : Nat) : Int))), (3, .int (Int32.ofInt ((510 + 100 * r + q : Nat) : Int))), (0, .ref 165), (1, .int (Int32.ofInt (r : Int)))]) (st' := [.int (Int32.ofInt 0), .int (Int32.ofInt ((510 + 100 * r + i : Nat) : Int))]) 2 rfl ?_
                    refine xr_if_eq rfl (by omega) (fun z44 => ?_) (fun z44 => ?_)
                    · refine xr_steps (pc' := 157) (L' := [(5, .int (Int32.ofInt ((m : Int) + 1))), (4, .int (Int32.ofInt a)), (8, .int (Int32.ofInt ((48 - (t 166 (510 + 100 * r + (i + 1)))) - 1))), (7, .int (Int32.ofInt 0)), (6, .int (Int32.ofInt (t 166 (510 + 100 * r + (i + 1))))), (2, .int (Int32.ofInt ((510 + 100 * r + i : Nat) : Int))), (3, .int (Int32.ofInt ((510 + 100 * r + q : Nat) : Int))), (0, .ref 165), (1, .int (Int32.ofInt (r : Int)))]) (st' := [.int (Int32.ofInt 3), .int (Int32.ofInt ((510 + 100 * r + i : Nat) : Int))]) 1 rfl ?_
                      refine xr_iadd rfl ?_
                      refine xr_steps (pc' := 21) (L' := [(2, .int (Int32.ofInt (((510 + 100 * r + i : Nat) : Int) + 3))), (5, .int (Int32.ofInt ((m : Int) + 1))), (4, .int (Int32.ofInt a)), (8, .int (Int32.ofInt ((48 - (t 166 (510 + 100 * r + (i + 1)))) - 1))), (7, .int (Int32.ofInt 0)), (6, .int (Int32.ofInt (t 166 (510 + 100 * r + (i + 1))))), (3, .int (Int32.ofInt ((510 + 100 * r + q : Nat) : Int))), (0, .ref 165), (1, .int (Int32.ofInt (r : Int)))]) (st' := []) 2 rfl ?_
                      refine xr_loc (L := [(2, .int (Int32.ofInt (((510 + 100 * r + i : Nat) : Int) + 3))), (4, .int (Int32.ofInt a)), (5, .int (Int32.ofInt ((m : Int) + 1))), (3, .int (Int32.ofInt ((510 + 100 * r + q : Nat) : Int))), (0, .ref 165), (1, .int (Int32.ofInt (r : Int)))]) (show [2, 4, 5, 3, 0, 1].Nodup by decide) ⟨rfl, rfl, rfl, rfl, rfl, rfl, trivial⟩ ?_
                      rw [show ((510 + 100 * r + i : Nat) : Int) + 3 = ((510 + 100 * r + (i + 3) : Nat) : Int) by omega, show (m : Int) + 1 = ((m + 1 : Nat) : Int) by omega]
                      exact hgo (i + 3) a (by omega)
                    · exfalso; omega
                · refine xr_steps (pc' := 124) (L' := [(8, .int (Int32.ofInt ((48 - (t 166 (510 + 100 * r + (i + 1)))) - 1))), (7, .int (Int32.ofInt 0)), (6, .int (Int32.ofInt (t 166 (510 + 100 * r + (i + 1))))), (2, .int (Int32.ofInt ((510 + 100 * r + i : Nat) : Int))), (4, .int (Int32.ofInt a)), (5, .int (Int32.ofInt (m : Int))), (3, .int (Int32.ofInt ((510 + 100 * r + q : Nat) : Int))), (0, .ref 165), (1, .int (Int32.ofInt (r : Int)))]) (st' := [.int (Int32.ofInt 0)]) 1 rfl ?_
                  exact xr_retI2 rfl rfl (hno (by omega))
            · exfalso; omega
          · exfalso; omega
        · refine xr_steps (pc' := 80) (L' := [(7, .int (Int32.ofInt 0)), (6, .int (Int32.ofInt (t 166 (510 + 100 * r + (i + 1))))), (2, .int (Int32.ofInt ((510 + 100 * r + i : Nat) : Int))), (4, .int (Int32.ofInt a)), (5, .int (Int32.ofInt (m : Int))), (3, .int (Int32.ofInt ((510 + 100 * r + q : Nat) : Int))), (0, .ref 165), (1, .int (Int32.ofInt (r : Int)))]) (st' := [.int (Int32.ofInt 1), .int (Int32.ofInt 0)]) 2 rfl ?_
          refine xr_icmp_eq rfl (by omega) (by omega) (fun z45 => ?_) (fun z45 => ?_)
          · exfalso; omega
          · refine xr_steps (pc' := 84) (L' := [(7, .int (Int32.ofInt 0)), (6, .int (Int32.ofInt (t 166 (510 + 100 * r + (i + 1))))), (2, .int (Int32.ofInt ((510 + 100 * r + i : Nat) : Int))), (4, .int (Int32.ofInt a)), (5, .int (Int32.ofInt (m : Int))), (3, .int (Int32.ofInt ((510 + 100 * r + q : Nat) : Int))), (0, .ref 165), (1, .int (Int32.ofInt (r : Int)))]) (st' := [.int (Int32.ofInt 0)]) 1 rfl ?_
            exact xr_retI2 rfl rfl (hno (by omega))
    · refine xr_steps (pc' := 57) (L' := [(7, .int (Int32.ofInt 1)), (6, .int (Int32.ofInt (t 166 (510 + 100 * r + (i + 1))))), (2, .int (Int32.ofInt ((510 + 100 * r + i : Nat) : Int))), (4, .int (Int32.ofInt a)), (5, .int (Int32.ofInt (m : Int))), (3, .int (Int32.ofInt ((510 + 100 * r + q : Nat) : Int))), (0, .ref 165), (1, .int (Int32.ofInt (r : Int)))]) (st' := [.ref 165, .int (Int32.ofInt (m : Int))]) 5 rfl ?_
      refine xr_getf (v := .int (Int32.ofInt (s 27))) rfl (ym_165 hA) rfl ?_
      refine xr_icmp_ge rfl (by omega) (by omega) (fun z46 => ?_) (fun z46 => ?_)
      · refine xr_steps (pc' := 84) (L' := [(7, .int (Int32.ofInt 1)), (6, .int (Int32.ofInt (t 166 (510 + 100 * r + (i + 1))))), (2, .int (Int32.ofInt ((510 + 100 * r + i : Nat) : Int))), (4, .int (Int32.ofInt a)), (5, .int (Int32.ofInt (m : Int))), (3, .int (Int32.ofInt ((510 + 100 * r + q : Nat) : Int))), (0, .ref 165), (1, .int (Int32.ofInt (r : Int)))]) (st' := [.int (Int32.ofInt 0)]) 1 rfl ?_
        exact xr_retI2 rfl rfl (hno (by omega))
      · have hcv : (0 ≤ l.getD m 0 ∧ l.getD m 0 ≤ 99 ∧ xcv (l.getD m 0) = -1 - l.getD m 0) ∨ (1001 ≤ l.getD m 0 ∧ l.getD m 0 ≤ 1127 ∧ xcv (l.getD m 0) = l.getD m 0 - 1000) := xcv_rng hpl (by omega)
        refine xr_steps (pc' := 66) (L' := [(7, .int (Int32.ofInt 1)), (6, .int (Int32.ofInt (t 166 (510 + 100 * r + (i + 1))))), (2, .int (Int32.ofInt ((510 + 100 * r + i : Nat) : Int))), (4, .int (Int32.ofInt a)), (5, .int (Int32.ofInt (m : Int))), (3, .int (Int32.ofInt ((510 + 100 * r + q : Nat) : Int))), (0, .ref 165), (1, .int (Int32.ofInt (r : Int)))]) (st' := [.ref 165, .int (Int32.ofInt 1)]) 2 rfl ?_
        refine xr_getf (v := .ref 186) rfl (ym_165 hA) rfl ?_
        refine xr_steps (pc' := 71) (L' := [(7, .int (Int32.ofInt 1)), (6, .int (Int32.ofInt (t 166 (510 + 100 * r + (i + 1))))), (2, .int (Int32.ofInt ((510 + 100 * r + i : Nat) : Int))), (4, .int (Int32.ofInt a)), (5, .int (Int32.ofInt (m : Int))), (3, .int (Int32.ofInt ((510 + 100 * r + q : Nat) : Int))), (0, .ref 165), (1, .int (Int32.ofInt (r : Int)))]) (st' := [.int (Int32.ofInt (m : Int)), .ref 186, .int (Int32.ofInt 1)]) 1 rfl ?_
        refine ym_iaload (e := t 186 (m : Int).toNat) hA rfl rfl (by decide) (by omega) (by omega) rfl ?_
        rw [show (m : Int).toNat = m by omega]
        rw [hrow m (by omega)]
        refine xr_if_le rfl (by omega) (fun z47 => ?_) (fun z47 => ?_)
        · refine xr_steps (pc' := 80) (L' := [(7, .int (Int32.ofInt 1)), (6, .int (Int32.ofInt (t 166 (510 + 100 * r + (i + 1))))), (2, .int (Int32.ofInt ((510 + 100 * r + i : Nat) : Int))), (4, .int (Int32.ofInt a)), (5, .int (Int32.ofInt (m : Int))), (3, .int (Int32.ofInt ((510 + 100 * r + q : Nat) : Int))), (0, .ref 165), (1, .int (Int32.ofInt (r : Int)))]) (st' := [.int (Int32.ofInt 0), .int (Int32.ofInt 1)]) 1 rfl ?_
          refine xr_icmp_eq rfl (by omega) (by omega) (fun z48 => ?_) (fun z48 => ?_)
          · exfalso; omega
          · refine xr_steps (pc' := 84) (L' := [(7, .int (Int32.ofInt 1)), (6, .int (Int32.ofInt (t 166 (510 + 100 * r + (i + 1))))), (2, .int (Int32.ofInt ((510 + 100 * r + i : Nat) : Int))), (4, .int (Int32.ofInt a)), (5, .int (Int32.ofInt (m : Int))), (3, .int (Int32.ofInt ((510 + 100 * r + q : Nat) : Int))), (0, .ref 165), (1, .int (Int32.ofInt (r : Int)))]) (st' := [.int (Int32.ofInt 0)]) 1 rfl ?_
            exact xr_retI2 rfl rfl (hno (by omega))
        · refine xr_steps (pc' := 80) (L' := [(7, .int (Int32.ofInt 1)), (6, .int (Int32.ofInt (t 166 (510 + 100 * r + (i + 1))))), (2, .int (Int32.ofInt ((510 + 100 * r + i : Nat) : Int))), (4, .int (Int32.ofInt a)), (5, .int (Int32.ofInt (m : Int))), (3, .int (Int32.ofInt ((510 + 100 * r + q : Nat) : Int))), (0, .ref 165), (1, .int (Int32.ofInt (r : Int)))]) (st' := [.int (Int32.ofInt 1), .int (Int32.ofInt 1)]) 2 rfl ?_
          refine xr_icmp_eq rfl (by omega) (by omega) (fun z49 => ?_) (fun z49 => ?_)
          · refine xr_steps (pc' := 87) (L' := [(7, .int (Int32.ofInt 1)), (6, .int (Int32.ofInt (t 166 (510 + 100 * r + (i + 1))))), (2, .int (Int32.ofInt ((510 + 100 * r + i : Nat) : Int))), (4, .int (Int32.ofInt a)), (5, .int (Int32.ofInt (m : Int))), (3, .int (Int32.ofInt ((510 + 100 * r + q : Nat) : Int))), (0, .ref 165), (1, .int (Int32.ofInt (r : Int)))]) (st' := [.int (Int32.ofInt 1)]) 1 rfl ?_
            refine xr_if_eq rfl (by omega) (fun z50 => ?_) (fun z50 => ?_)
            · exfalso; omega
            · refine xr_steps (pc' := 108) (L' := [(8, .int (Int32.ofInt (t 166 (510 + 100 * r + (i + 1))))), (7, .int (Int32.ofInt 1)), (6, .int (Int32.ofInt (t 166 (510 + 100 * r + (i + 1))))), (2, .int (Int32.ofInt ((510 + 100 * r + i : Nat) : Int))), (4, .int (Int32.ofInt a)), (5, .int (Int32.ofInt (m : Int))), (3, .int (Int32.ofInt ((510 + 100 * r + q : Nat) : Int))), (0, .ref 165), (1, .int (Int32.ofInt (r : Int)))]) (st' := [.int (Int32.ofInt 42), .int (Int32.ofInt (t 166 (510 + 100 * r + (i + 1))))]) 5 rfl ?_
              refine xr_icmp_eq rfl (by omega) (by omega) (fun z51 => ?_) (fun z51 => ?_)
              · refine xr_steps (pc' := 129) (L' := [(8, .int (Int32.ofInt (t 166 (510 + 100 * r + (i + 1))))), (7, .int (Int32.ofInt 1)), (6, .int (Int32.ofInt (t 166 (510 + 100 * r + (i + 1))))), (2, .int (Int32.ofInt ((510 + 100 * r + i : Nat) : Int))), (4, .int (Int32.ofInt a)), (5, .int (Int32.ofInt (m : Int))), (3, .int (Int32.ofInt ((510 + 100 * r + q : Nat) : Int))), (0, .ref 165), (1, .int (Int32.ofInt (r : Int)))]) (st' := [.int (Int32.ofInt 42), .int (Int32.ofInt (t 166 (510 + 100 * r + (i + 1))))]) 2 rfl ?_
                refine xr_icmp_ne rfl (by omega) (by omega) (fun z52 => ?_) (fun z52 => ?_)
                · refine xr_steps (pc' := 140) (L' := [(8, .int (Int32.ofInt (t 166 (510 + 100 * r + (i + 1))))), (7, .int (Int32.ofInt 1)), (6, .int (Int32.ofInt (t 166 (510 + 100 * r + (i + 1))))), (2, .int (Int32.ofInt ((510 + 100 * r + i : Nat) : Int))), (4, .int (Int32.ofInt a)), (5, .int (Int32.ofInt (m : Int))), (3, .int (Int32.ofInt ((510 + 100 * r + q : Nat) : Int))), (0, .ref 165), (1, .int (Int32.ofInt (r : Int)))]) (st' := [.int (Int32.ofInt a), .int (Int32.ofInt 2)]) 2 rfl ?_
                  refine xr_imul rfl ?_
                  refine xr_steps (pc' := 143) (L' := [(4, .int (Int32.ofInt (2 * a))), (8, .int (Int32.ofInt (t 166 (510 + 100 * r + (i + 1))))), (7, .int (Int32.ofInt 1)), (6, .int (Int32.ofInt (t 166 (510 + 100 * r + (i + 1))))), (2, .int (Int32.ofInt ((510 + 100 * r + i : Nat) : Int))), (5, .int (Int32.ofInt (m : Int))), (3, .int (Int32.ofInt ((510 + 100 * r + q : Nat) : Int))), (0, .ref 165), (1, .int (Int32.ofInt (r : Int)))]) (st' := []) 1 rfl ?_
                  refine xr_iinc (L' := [(5, .int (Int32.ofInt ((m : Int) + 1))), (4, .int (Int32.ofInt (2 * a))), (8, .int (Int32.ofInt (t 166 (510 + 100 * r + (i + 1))))), (7, .int (Int32.ofInt 1)), (6, .int (Int32.ofInt (t 166 (510 + 100 * r + (i + 1))))), (2, .int (Int32.ofInt ((510 + 100 * r + i : Nat) : Int))), (3, .int (Int32.ofInt ((510 + 100 * r + q : Nat) : Int))), (0, .ref 165), (1, .int (Int32.ofInt (r : Int)))]) rfl rfl rfl ?_
                  refine xr_steps (pc' := 149) (L' := [(5, .int (Int32.ofInt ((m : Int) + 1))), (4, .int (Int32.ofInt (2 * a))), (8, .int (Int32.ofInt (t 166 (510 + 100 * r + (i + 1))))), (7, .int (Int32.ofInt 1)), (6, .int (Int32.ofInt (t 166 (510 + 100 * r + (i + 1))))), (2, .int (Int32.ofInt ((510 + 100 * r + i : Nat) : Int))), (3, .int (Int32.ofInt ((510 + 100 * r + q : Nat) : Int))), (0, .ref 165), (1, .int (Int32.ofInt (r : Int)))]) (st' := [.int (Int32.ofInt 1), .int (Int32.ofInt ((510 + 100 * r + i : Nat) : Int))]) 2 rfl ?_
                  refine xr_if_eq rfl (by omega) (fun z53 => ?_) (fun z53 => ?_)
                  · exfalso; omega
                  · refine xr_steps (pc' := 157) (L' := [(5, .int (Int32.ofInt ((m : Int) + 1))), (4, .int (Int32.ofInt (2 * a))), (8, .int (Int32.ofInt (t 166 (510 + 100 * r + (i + 1))))), (7, .int (Int32.ofInt 1)), (6, .int (Int32.ofInt (t 166 (510 + 100 * r + (i + 1))))), (2, .int (Int32.ofInt ((510 + 100 * r + i : Nat) : Int))), (3, .int (Int32.ofInt ((510 + 100 * r + q : Nat) : Int))), (0, .ref 165), (1, .int (Int32.ofInt (r : Int)))]) (st' := [.int (Int32.ofInt 2), .int (Int32.ofInt ((510 + 100 * r + i : Nat) : Int))]) 2 rfl ?_
                    refine xr_iadd rfl ?_
                    refine xr_steps (pc' := 21) (L' := [(2, .int (Int32.ofInt (((510 + 100 * r + i : Nat) : Int) + 2))), (5, .int (Int32.ofInt ((m : Int) + 1))), (4, .int (Int32.ofInt (2 * a))), (8, .int (Int32.ofInt (t 166 (510 + 100 * r + (i + 1))))), (7, .int (Int32.ofInt 1)), (6, .int (Int32.ofInt (t 166 (510 + 100 * r + (i + 1))))), (3, .int (Int32.ofInt ((510 + 100 * r + q : Nat) : Int))), (0, .ref 165), (1, .int (Int32.ofInt (r : Int)))]) (st' := []) 2 rfl ?_
                    refine xr_loc (L := [(2, .int (Int32.ofInt (((510 + 100 * r + i : Nat) : Int) + 2))), (4, .int (Int32.ofInt (2 * a))), (5, .int (Int32.ofInt ((m : Int) + 1))), (3, .int (Int32.ofInt ((510 + 100 * r + q : Nat) : Int))), (0, .ref 165), (1, .int (Int32.ofInt (r : Int)))]) (show [2, 4, 5, 3, 0, 1].Nodup by decide) ⟨rfl, rfl, rfl, rfl, rfl, rfl, trivial⟩ ?_
                    rw [show ((510 + 100 * r + i : Nat) : Int) + 2 = ((510 + 100 * r + (i + 2) : Nat) : Int) by omega, show (m : Int) + 1 = ((m + 1 : Nat) : Int) by omega]
                    exact hgo (i + 2) (2 * a) (by omega)
                · refine xr_steps (pc' := 143) (L' := [(4, .int (Int32.ofInt a)), (8, .int (Int32.ofInt (t 166 (510 + 100 * r + (i + 1))))), (7, .int (Int32.ofInt 1)), (6, .int (Int32.ofInt (t 166 (510 + 100 * r + (i + 1))))), (2, .int (Int32.ofInt ((510 + 100 * r + i : Nat) : Int))), (5, .int (Int32.ofInt (m : Int))), (3, .int (Int32.ofInt ((510 + 100 * r + q : Nat) : Int))), (0, .ref 165), (1, .int (Int32.ofInt (r : Int)))]) (st' := []) 3 rfl ?_
                  refine xr_iinc (L' := [(5, .int (Int32.ofInt ((m : Int) + 1))), (4, .int (Int32.ofInt a)), (8, .int (Int32.ofInt (t 166 (510 + 100 * r + (i + 1))))), (7, .int (Int32.ofInt 1)), (6, .int (Int32.ofInt (t 166 (510 + 100 * r + (i + 1))))), (2, .int (Int32.ofInt ((510 + 100 * r + i : Nat) : Int))), (3, .int (Int32.ofInt ((510 + 100 * r + q : Nat) : Int))), (0, .ref 165), (1, .int (Int32.ofInt (r : Int)))]) rfl rfl rfl ?_
                  refine xr_steps (pc' := 149) (L' := [(5, .int (Int32.ofInt ((m : Int) + 1))), (4, .int (Int32.ofInt a)), (8, .int (Int32.ofInt (t 166 (510 + 100 * r + (i + 1))))), (7, .int (Int32.ofInt 1)), (6, .int (Int32.ofInt (t 166 (510 + 100 * r + (i + 1))))), (2, .int (Int32.ofInt ((510 + 100 * r + i : Nat) : Int))), (3, .int (Int32.ofInt ((510 + 100 * r + q : Nat) : Int))), (0, .ref 165), (1, .int (Int32.ofInt (r : Int)))]) (st' := [.int (Int32.ofInt 1), .int (Int32.ofInt ((510 + 100 * r + i : Nat) : Int))]) 2 rfl ?_
                  refine xr_if_eq rfl (by omega) (fun z54 => ?_) (fun z54 => ?_)
                  · exfalso; omega
                  · refine xr_steps (pc' := 157) (L' := [(5, .int (Int32.ofInt ((m : Int) + 1))), (4, .int (Int32.ofInt a)), (8, .int (Int32.ofInt (t 166 (510 + 100 * r + (i + 1))))), (7, .int (Int32.ofInt 1)), (6, .int (Int32.ofInt (t 166 (510 + 100 * r + (i + 1))))), (2, .int (Int32.ofInt ((510 + 100 * r + i : Nat) : Int))), (3, .int (Int32.ofInt ((510 + 100 * r + q : Nat) : Int))), (0, .ref 165), (1, .int (Int32.ofInt (r : Int)))]) (st' := [.int (Int32.ofInt 2), .int (Int32.ofInt ((510 + 100 * r + i : Nat) : Int))]) 2 rfl ?_
                    refine xr_iadd rfl ?_
                    refine xr_steps (pc' := 21) (L' := [(2, .int (Int32.ofInt (((510 + 100 * r + i : Nat) : Int) + 2))), (5, .int (Int32.ofInt ((m : Int) + 1))), (4, .int (Int32.ofInt a)), (8, .int (Int32.ofInt (t 166 (510 + 100 * r + (i + 1))))), (7, .int (Int32.ofInt 1)), (6, .int (Int32.ofInt (t 166 (510 + 100 * r + (i + 1))))), (3, .int (Int32.ofInt ((510 + 100 * r + q : Nat) : Int))), (0, .ref 165), (1, .int (Int32.ofInt (r : Int)))]) (st' := []) 2 rfl ?_
                    refine xr_loc (L := [(2, .int (Int32.ofInt (((510 + 100 * r + i : Nat) : Int) + 2))), (4, .int (Int32.ofInt a)), (5, .int (Int32.ofInt ((m : Int) + 1))), (3, .int (Int32.ofInt ((510 + 100 * r + q : Nat) : Int))), (0, .ref 165), (1, .int (Int32.ofInt (r : Int)))]) (show [2, 4, 5, 3, 0, 1].Nodup by decide) ⟨rfl, rfl, rfl, rfl, rfl, rfl, trivial⟩ ?_
                    rw [show ((510 + 100 * r + i : Nat) : Int) + 2 = ((510 + 100 * r + (i + 2) : Nat) : Int) by omega, show (m : Int) + 1 = ((m + 1 : Nat) : Int) by omega]
                    exact hgo (i + 2) a (by omega)
              · refine xr_steps (pc' := 114) (L' := [(8, .int (Int32.ofInt (t 166 (510 + 100 * r + (i + 1))))), (7, .int (Int32.ofInt 1)), (6, .int (Int32.ofInt (t 166 (510 + 100 * r + (i + 1))))), (2, .int (Int32.ofInt ((510 + 100 * r + i : Nat) : Int))), (4, .int (Int32.ofInt a)), (5, .int (Int32.ofInt (m : Int))), (3, .int (Int32.ofInt ((510 + 100 * r + q : Nat) : Int))), (0, .ref 165), (1, .int (Int32.ofInt (r : Int)))]) (st' := [.ref 165, .int (Int32.ofInt (t 166 (510 + 100 * r + (i + 1))))]) 2 rfl ?_
                refine xr_getf (v := .ref 186) rfl (ym_165 hA) rfl ?_
                refine xr_steps (pc' := 119) (L' := [(8, .int (Int32.ofInt (t 166 (510 + 100 * r + (i + 1))))), (7, .int (Int32.ofInt 1)), (6, .int (Int32.ofInt (t 166 (510 + 100 * r + (i + 1))))), (2, .int (Int32.ofInt ((510 + 100 * r + i : Nat) : Int))), (4, .int (Int32.ofInt a)), (5, .int (Int32.ofInt (m : Int))), (3, .int (Int32.ofInt ((510 + 100 * r + q : Nat) : Int))), (0, .ref 165), (1, .int (Int32.ofInt (r : Int)))]) (st' := [.int (Int32.ofInt (m : Int)), .ref 186, .int (Int32.ofInt (t 166 (510 + 100 * r + (i + 1))))]) 1 rfl ?_
                refine ym_iaload (e := t 186 (m : Int).toNat) hA rfl rfl (by decide) (by omega) (by omega) rfl ?_
                rw [show (m : Int).toNat = m by omega]
                rw [hrow m (by omega)]
                refine xr_icmp_eq rfl (by omega) (by omega) (fun z55 => ?_) (fun z55 => ?_)
                · refine xr_steps (pc' := 129) (L' := [(8, .int (Int32.ofInt (t 166 (510 + 100 * r + (i + 1))))), (7, .int (Int32.ofInt 1)), (6, .int (Int32.ofInt (t 166 (510 + 100 * r + (i + 1))))), (2, .int (Int32.ofInt ((510 + 100 * r + i : Nat) : Int))), (4, .int (Int32.ofInt a)), (5, .int (Int32.ofInt (m : Int))), (3, .int (Int32.ofInt ((510 + 100 * r + q : Nat) : Int))), (0, .ref 165), (1, .int (Int32.ofInt (r : Int)))]) (st' := [.int (Int32.ofInt 42), .int (Int32.ofInt (t 166 (510 + 100 * r + (i + 1))))]) 2 rfl ?_
                  refine xr_icmp_ne rfl (by omega) (by omega) (fun z56 => ?_) (fun z56 => ?_)
                  · refine xr_steps (pc' := 140) (L' := [(8, .int (Int32.ofInt (t 166 (510 + 100 * r + (i + 1))))), (7, .int (Int32.ofInt 1)), (6, .int (Int32.ofInt (t 166 (510 + 100 * r + (i + 1))))), (2, .int (Int32.ofInt ((510 + 100 * r + i : Nat) : Int))), (4, .int (Int32.ofInt a)), (5, .int (Int32.ofInt (m : Int))), (3, .int (Int32.ofInt ((510 + 100 * r + q : Nat) : Int))), (0, .ref 165), (1, .int (Int32.ofInt (r : Int)))]) (st' := [.int (Int32.ofInt a), .int (Int32.ofInt 2)]) 2 rfl ?_
                    refine xr_imul rfl ?_
                    refine xr_steps (pc' := 143) (L' := [(4, .int (Int32.ofInt (2 * a))), (8, .int (Int32.ofInt (t 166 (510 + 100 * r + (i + 1))))), (7, .int (Int32.ofInt 1)), (6, .int (Int32.ofInt (t 166 (510 + 100 * r + (i + 1))))), (2, .int (Int32.ofInt ((510 + 100 * r + i : Nat) : Int))), (5, .int (Int32.ofInt (m : Int))), (3, .int (Int32.ofInt ((510 + 100 * r + q : Nat) : Int))), (0, .ref 165), (1, .int (Int32.ofInt (r : Int)))]) (st' := []) 1 rfl ?_
                    refine xr_iinc (L' := [(5, .int (Int32.ofInt ((m : Int) + 1))), (4, .int (Int32.ofInt (2 * a))), (8, .int (Int32.ofInt (t 166 (510 + 100 * r + (i + 1))))), (7, .int (Int32.ofInt 1)), (6, .int (Int32.ofInt (t 166 (510 + 100 * r + (i + 1))))), (2, .int (Int32.ofInt ((510 + 100 * r + i : Nat) : Int))), (3, .int (Int32.ofInt ((510 + 100 * r + q : Nat) : Int))), (0, .ref 165), (1, .int (Int32.ofInt (r : Int)))]) rfl rfl rfl ?_
                    refine xr_steps (pc' := 149) (L' := [(5, .int (Int32.ofInt ((m : Int) + 1))), (4, .int (Int32.ofInt (2 * a))), (8, .int (Int32.ofInt (t 166 (510 + 100 * r + (i + 1))))), (7, .int (Int32.ofInt 1)), (6, .int (Int32.ofInt (t 166 (510 + 100 * r + (i + 1))))), (2, .int (Int32.ofInt ((510 + 100 * r + i : Nat) : Int))), (3, .int (Int32.ofInt ((510 + 100 * r + q : Nat) : Int))), (0, .ref 165), (1, .int (Int32.ofInt (r : Int)))]) (st' := [.int (Int32.ofInt 1), .int (Int32.ofInt ((510 + 100 * r + i : Nat) : Int))]) 2 rfl ?_
                    refine xr_if_eq rfl (by omega) (fun z57 => ?_) (fun z57 => ?_)
                    · exfalso; omega
                    · refine xr_steps (pc' := 157) (L' := [(5, .int (Int32.ofInt ((m : Int) + 1))), (4, .int (Int32.ofInt (2 * a))), (8, .int (Int32.ofInt (t 166 (510 + 100 * r + (i + 1))))), (7, .int (Int32.ofInt 1)), (6, .int (Int32.ofInt (t 166 (510 + 100 * r + (i + 1))))), (2, .int (Int32.ofInt ((510 + 100 * r + i : Nat) : Int))), (3, .int (Int32.ofInt ((510 + 100 * r + q : Nat) : Int))), (0, .ref 165), (1, .int (Int32.ofInt (r : Int)))]) (st' := [.int (Int32.ofInt 2), .int (Int32.ofInt ((510 + 100 * r + i : Nat) : Int))]) 2 rfl ?_
                      refine xr_iadd rfl ?_
                      refine xr_steps (pc' := 21) (L' := [(2, .int (Int32.ofInt (((510 + 100 * r + i : Nat) : Int) + 2))), (5, .int (Int32.ofInt ((m : Int) + 1))), (4, .int (Int32.ofInt (2 * a))), (8, .int (Int32.ofInt (t 166 (510 + 100 * r + (i + 1))))), (7, .int (Int32.ofInt 1)), (6, .int (Int32.ofInt (t 166 (510 + 100 * r + (i + 1))))), (3, .int (Int32.ofInt ((510 + 100 * r + q : Nat) : Int))), (0, .ref 165), (1, .int (Int32.ofInt (r : Int)))]) (st' := []) 2 rfl ?_
                      refine xr_loc (L := [(2, .int (Int32.ofInt (((510 + 100 * r + i : Nat) : Int) + 2))), (4, .int (Int32.ofInt (2 * a))), (5, .int (Int32.ofInt ((m : Int) + 1))), (3, .int (Int32.ofInt ((510 + 100 * r + q : Nat) : Int))), (0, .ref 165), (1, .int (Int32.ofInt (r : Int)))]) (show [2, 4, 5, 3, 0, 1].Nodup by decide) ⟨rfl, rfl, rfl, rfl, rfl, rfl, trivial⟩ ?_
                      rw [show ((510 + 100 * r + i : Nat) : Int) + 2 = ((510 + 100 * r + (i + 2) : Nat) : Int) by omega, show (m : Int) + 1 = ((m + 1 : Nat) : Int) by omega]
                      exact hgo (i + 2) (2 * a) (by omega)
                  · refine xr_steps (pc' := 143) (L' := [(4, .int (Int32.ofInt a)), (8, .int (Int32.ofInt (t 166 (510 + 100 * r + (i + 1))))), (7, .int (Int32.ofInt 1)), (6, .int (Int32.ofInt (t 166 (510 + 100 * r + (i + 1))))), (2, .int (Int32.ofInt ((510 + 100 * r + i : Nat) : Int))), (5, .int (Int32.ofInt (m : Int))), (3, .int (Int32.ofInt ((510 + 100 * r + q : Nat) : Int))), (0, .ref 165), (1, .int (Int32.ofInt (r : Int)))]) (st' := []) 3 rfl ?_
                    refine xr_iinc (L' := [(5, .int (Int32.ofInt ((m : Int) + 1))), (4, .int (Int32.ofInt a)), (8, .int (Int32.ofInt (t 166 (510 + 100 * r + (i + 1))))), (7, .int (Int32.ofInt 1)), (6, .int (Int32.ofInt (t 166 (510 + 100 * r + (i + 1))))), (2, .int (Int32.ofInt ((510 + 100 * r + i : Nat) : Int))), (3, .int (Int32.ofInt ((510 + 100 * r + q : Nat) : Int))), (0, .ref 165), (1, .int (Int32.ofInt (r : Int)))]) rfl rfl rfl ?_
                    refine xr_steps (pc' := 149) (L' := [(5, .int (Int32.ofInt ((m : Int) + 1))), (4, .int (Int32.ofInt a)), (8, .int (Int32.ofInt (t 166 (510 + 100 * r + (i + 1))))), (7, .int (Int32.ofInt 1)), (6, .int (Int32.ofInt (t 166 (510 + 100 * r + (i + 1))))), (2, .int (Int32.ofInt ((510 + 100 * r + i : Nat) : Int))), (3, .int (Int32.ofInt ((510 + 100 * r + q : Nat) : Int))), (0, .ref 165), (1, .int (Int32.ofInt (r : Int)))]) (st' := [.int (Int32.ofInt 1), .int (Int32.ofInt ((510 + 100 * r + i : Nat) : Int))]) 2 rfl ?_
                    refine xr_if_eq rfl (by omega) (fun z58 => ?_) (fun z58 => ?_)
                    · exfalso; omega
                    · refine xr_steps (pc' := 157) (L' := [(5, .int (Int32.ofInt ((m : Int) + 1))), (4, .int (Int32.ofInt a)), (8, .int (Int32.ofInt (t 166 (510 + 100 * r + (i + 1))))), (7, .int (Int32.ofInt 1)), (6, .int (Int32.ofInt (t 166 (510 + 100 * r + (i + 1))))), (2, .int (Int32.ofInt ((510 + 100 * r + i : Nat) : Int))), (3, .int (Int32.ofInt ((510 + 100 * r + q : Nat) : Int))), (0, .ref 165), (1, .int (Int32.ofInt (r : Int)))]) (st' := [.int (Int32.ofInt 2), .int (Int32.ofInt ((510 + 100 * r + i : Nat) : Int))]) 2 rfl ?_
                      refine xr_iadd rfl ?_
                      refine xr_steps (pc' := 21) (L' := [(2, .int (Int32.ofInt (((510 + 100 * r + i : Nat) : Int) + 2))), (5, .int (Int32.ofInt ((m : Int) + 1))), (4, .int (Int32.ofInt a)), (8, .int (Int32.ofInt (t 166 (510 + 100 * r + (i + 1))))), (7, .int (Int32.ofInt 1)), (6, .int (Int32.ofInt (t 166 (510 + 100 * r + (i + 1))))), (3, .int (Int32.ofInt ((510 + 100 * r + q : Nat) : Int))), (0, .ref 165), (1, .int (Int32.ofInt (r : Int)))]) (st' := []) 2 rfl ?_
                      refine xr_loc (L := [(2, .int (Int32.ofInt (((510 + 100 * r + i : Nat) : Int) + 2))), (4, .int (Int32.ofInt a)), (5, .int (Int32.ofInt ((m : Int) + 1))), (3, .int (Int32.ofInt ((510 + 100 * r + q : Nat) : Int))), (0, .ref 165), (1, .int (Int32.ofInt (r : Int)))]) (show [2, 4, 5, 3, 0, 1].Nodup by decide) ⟨rfl, rfl, rfl, rfl, rfl, rfl, trivial⟩ ?_
                      rw [show ((510 + 100 * r + i : Nat) : Int) + 2 = ((510 + 100 * r + (i + 2) : Nat) : Int) by omega, show (m : Int) + 1 = ((m + 1 : Nat) : Int) by omega]
                      exact hgo (i + 2) a (by omega)
                · refine xr_steps (pc' := 124) (L' := [(8, .int (Int32.ofInt (t 166 (510 + 100 * r + (i + 1))))), (7, .int (Int32.ofInt 1)), (6, .int (Int32.ofInt (t 166 (510 + 100 * r + (i + 1))))), (2, .int (Int32.ofInt ((510 + 100 * r + i : Nat) : Int))), (4, .int (Int32.ofInt a)), (5, .int (Int32.ofInt (m : Int))), (3, .int (Int32.ofInt ((510 + 100 * r + q : Nat) : Int))), (0, .ref 165), (1, .int (Int32.ofInt (r : Int)))]) (st' := [.int (Int32.ofInt 0)]) 1 rfl ?_
                  exact xr_retI2 rfl rfl (hno (by omega))
          · exfalso; omega
end FI
/-! The reference: fits, selected, select -/
section FJ
variable {w : Value} {d : Nat} {A : xb_H} {s : Nat → Int} {t : Nat → Nat → Int} {r n q : Nat} {l : List Int} {Q : xb_R → xb_H → Prop}
/-- the place l stands in the reference's rows -/
def xpst (s : Nat → Int) (t : Nat → Nat → Int) (l : List Int) : Prop := s 27 = (l.length : Int) ∧ l.length ≤ 50 ∧ xrow (t 186) l ∧ xpl0 l
theorem mo_235l (hA : 194 ≤ A.1) (hE : ∀ j : Nat, 0 ≤ t 166 j ∧ t 166 j ≤ 127) (hr : r < 32) (hn : n ≤ 100) (hp : xpst s t l) : ∀ (ls : List Int) (k i m : Nat) (a : Int), xPC (ye n (fun k => t 166 (510 + 100 * r + k))) k i ls q → 0 ≤ a → ((m = 0 ∧ a ≤ 2) ∨ (m = 1 ∧ a ≤ 4) ∨ (m = 2 ∧ a ≤ 8) ∨ (m = 3 ∧ a ≤ 16) ∨ (m = 4 ∧ a ≤ 32) ∨ (m = 5 ∧ a ≤ 64)) → m + ls.length ≤ 5 → m ≤ l.length → Q (.inl (some (.int (Int32.ofInt (xFW a ls (l.drop m) m))))) (ym A s t) → xr_ok (xt_G w) d 235 21 [(2, .int (Int32.ofInt ((510 + 100 * r + i : Nat) : Int))), (4, .int (Int32.ofInt a)), (5, .int (Int32.ofInt (m : Int))), (3, .int (Int32.ofInt ((510 + 100 * r + q : Nat) : Int))), (0, .ref 165), (1, .int (Int32.ofInt (r : Int)))] [] (ym A s t) Q := by
  obtain ⟨p1, p2, p3, p4⟩ := hp
  intro ls
  induction ls with
  | nil =>
    intro k i m a h ha hb hm hml hQ
    obtain rfl := xPC_nil h
    have hqn : q < n := ye_in (f := fun k => t 166 (510 + 100 * r + k)) (by have := h.2; omega)
    refine xr_steps (pc' := 23) (L' := [(2, .int (Int32.ofInt ((510 + 100 * r + q : Nat) : Int))), (4, .int (Int32.ofInt a)), (5, .int (Int32.ofInt (m : Int))), (3, .int (Int32.ofInt ((510 + 100 * r + q : Nat) : Int))), (0, .ref 165), (1, .int (Int32.ofInt (r : Int)))]) (st' := [.int (Int32.ofInt ((510 + 100 * r + q : Nat) : Int)), .int (Int32.ofInt ((510 + 100 * r + q : Nat) : Int))]) 2 rfl ?_
    refine xr_icmp_ge rfl (by omega) (by omega) (fun z31 => ?_) (fun z31 => ?_)
    · refine xr_steps (pc' := 166) (L' := [(2, .int (Int32.ofInt ((510 + 100 * r + q : Nat) : Int))), (4, .int (Int32.ofInt a)), (5, .int (Int32.ofInt (m : Int))), (3, .int (Int32.ofInt ((510 + 100 * r + q : Nat) : Int))), (0, .ref 165), (1, .int (Int32.ofInt (r : Int)))]) (st' := [.int (Int32.ofInt a), .int (Int32.ofInt 8)]) 2 rfl ?_
      refine xr_imul rfl ?_
      refine xr_steps (pc' := 169) (L' := [(2, .int (Int32.ofInt ((510 + 100 * r + q : Nat) : Int))), (4, .int (Int32.ofInt a)), (5, .int (Int32.ofInt (m : Int))), (3, .int (Int32.ofInt ((510 + 100 * r + q : Nat) : Int))), (0, .ref 165), (1, .int (Int32.ofInt (r : Int)))]) (st' := [.int (Int32.ofInt (m : Int)), .int (Int32.ofInt (8 * a))]) 1 rfl ?_
      refine xr_iadd rfl ?_
      exact xr_retI2 rfl rfl hQ
    · exfalso; omega
  | cons sx ls ih =>
    intro k i m a h ha hb hm hml hQ
    rw [List.length_cons] at hm
    obtain ⟨k', q1, hk, h', hst⟩ := xPC_cons h
    have hqn : q < n := ye_in (f := fun k => t 166 (510 + 100 * r + k)) (by have := h.2; omega)
    have hq1 := (xPC_ne k' q1 ls q h').1
    have hy : ∀ j : Nat, j < n → ye n (fun k => t 166 (510 + 100 * r + k)) j = t 166 (510 + 100 * r + j) := fun j hj => by unfold ye; rw [if_pos hj]
    have hi1 : i + 1 < n := by omega
    rw [hy i (by omega), hy (i + 1) hi1] at hst
    refine mo_235s (sx := sx) hA hE hr (by omega) (by omega) p1 p2 p3 p4 (by omega) (by omega) (fun i' a' hc => ?_) (fun hno => ?_)
    · obtain ⟨c1, ⟨c2, c3⟩, c4⟩ := hc
      obtain rfl : i' = q1 := by omega
      have hd := xl_drop c2
      refine ih k' i' (m + 1) a' h' (by omega) (by omega) (by omega) (by omega) ?_
      rw [hd, xFW, if_pos c3] at hQ
      rw [show (if sx = -1 ∨ sx = -2 then a else a * 2) = a' by split <;> omega] at hQ
      exact hQ
    · by_cases hl : m < l.length
      · have hd := xl_drop hl
        rw [hd, xFW, if_neg (fun h => hno ⟨hl, h⟩)] at hQ
        exact hQ
      · rw [List.drop_eq_nil_of_le (by omega)] at hQ
        exact hQ
theorem xPC_len {e : Nat → Int} : ∀ (k i : Nat) (l : List Int) (q : Nat), xPC e k i l q → l.length ≤ k := by
  intro k
  induction k with
  | zero => intro i l q h; cases h.1; exact Nat.le_refl _
  | succ k ih =>
    intro i l q h
    cases l with
    | nil => exact Nat.zero_le _
    | cons s l =>
      obtain ⟨k', q1, hk, h', -⟩ := xPC_cons h
      obtain rfl : k = k' := by omega
      have := ih q1 l q h'
      rw [List.length_cons]
      omega
theorem mo_235 {ps : List Int} {mt : List (Int × Int × List Int)} {sp : Int} (hA : 194 ≤ A.1) (hE : ∀ j : Nat, 0 ≤ t 166 j ∧ t 166 j ≤ 127) (hr : r < 32) (hn : n ≤ 100) (hp : xpst s t l) (hR : xRU n (fun k => t 166 (510 + 100 * r + k)) ps mt sp) : xr_ok (xt_G w) (d + 1) 235 0 [(0, .ref 165), (1, .int (Int32.ofInt (r : Int)))] [] (ym A s t) (fun o A' => ∃ v0, o = .inl v0 ∧ v0 = some (.int (Int32.ofInt (xFW 2 ps l 0))) ∧ A' = ym A s t) := by
  obtain ⟨q, e1, e2, e3, -⟩ := hR
  have hqn : q < n := ye_in (f := fun k => t 166 (510 + 100 * r + k)) (by omega)
  have hy : ∀ j : Nat, j < n → ye n (fun k => t 166 (510 + 100 * r + k)) j = t 166 (510 + 100 * r + j) := fun j hj => by unfold ye; rw [if_pos hj]
  have h58 : t 166 (510 + 100 * r + q) = 58 := by rw [← hy q hqn]; exact e3
  have hpc := xPC_ne 5 1 ps q ⟨e2, e3⟩
  have hl5 := xPC_len 5 1 ps q ⟨e2, e3⟩
  have hne : ∀ j : Nat, j < q → ¬ t 166 (510 + 100 * r + j) = 58 := by
    intro j hj
    rw [← hy j (by omega)]
    by_cases hj0 : j = 0
    · rw [hj0, e1]; omega
    · exact hpc.2.2 j (by omega) hj
  refine xr_steps (pc' := 6) (L' := [(0, .ref 165), (1, .int (Int32.ofInt (r : Int)))]) (st' := [.int (Int32.ofInt (r : Int)), .int (Int32.ofInt 100), .int (Int32.ofInt 511)]) 3 rfl ?_
  refine xr_imul rfl ?_
  refine xr_iadd rfl ?_
  refine xr_steps (pc' := 11) (L' := [(2, .int (Int32.ofInt (511 + (100 * (r : Int))))), (0, .ref 165), (1, .int (Int32.ofInt (r : Int)))]) (st' := [.int (Int32.ofInt (r : Int)), .ref 165]) 3 rfl ?_
  refine xr_call (q := (.invokevirtual 177, 3, 236, 2)) (av := [.ref 165, .int (Int32.ofInt (r : Int))]) (rest := []) rfl rfl (by decide) rfl (ym_rcv hA rfl) (Nat.le_of_ble_eq_true rfl) (mo_236 hA hE hr (show q < 100 by omega) h58 hne) ?_
  rintro _ _ ⟨rfl, eA⟩
  rw [eA]
  clear eA
  refine xr_steps (pc' := 21) (L' := [(5, .int (Int32.ofInt 0)), (4, .int (Int32.ofInt 2)), (3, .int (Int32.ofInt ((510 + 100 * r + q : Nat) : Int))), (2, .int (Int32.ofInt (511 + (100 * (r : Int))))), (0, .ref 165), (1, .int (Int32.ofInt (r : Int)))]) (st' := []) 5 rfl ?_
  refine xr_loc (L := [(2, .int (Int32.ofInt (511 + (100 * (r : Int))))), (4, .int (Int32.ofInt 2)), (5, .int (Int32.ofInt 0)), (3, .int (Int32.ofInt ((510 + 100 * r + q : Nat) : Int))), (0, .ref 165), (1, .int (Int32.ofInt (r : Int)))]) (show [2, 4, 5, 3, 0, 1].Nodup by decide) ⟨rfl, rfl, rfl, rfl, rfl, rfl, trivial⟩ ?_
  rw [show (511 : Int) + 100 * (r : Int) = ((510 + 100 * r + 1 : Nat) : Int) by omega]
  have hgo := mo_235l (w := w) (d := d + 1) (r := r) (q := q) (Q := fun o A' => ∃ v0, o = .inl v0 ∧ v0 = some (.int (Int32.ofInt (xFW 2 ps l 0))) ∧ A' = ym A s t) hA hE hr hn hp ps 5 1 0 2 ⟨e2, e3⟩ (by omega) (by omega) (by omega) (Nat.zero_le _) ⟨_, rfl, rfl, rfl⟩
  exact hgo
theorem xRU_len {f : Nat → Int} {ps : List Int} {mt : List (Int × Int × List Int)} {sp : Int} (h : xRU n f ps mt sp) : ps.length ≤ 5 := by
  obtain ⟨q, e1, e2, e3, -⟩ := h
  exact xPC_len 5 1 ps q ⟨e2, e3⟩
theorem xsel_rng {ps : List Int} {F : Int} (hF : (xft ps l → F = 8 * xwt 2 ps + (0 + ps.length : Nat)) ∧ (¬ xft ps l → F = 0)) (h5 : ps.length ≤ 5) (hw : 2 ≤ xwt 2 ps ∧ xwt 2 ps ≤ 64) : 0 ≤ F ∧ F ≤ 600 := by
  by_cases hf : xft ps l
  · have := hF.1 hf; omega
  · have := hF.2 hf; omega
theorem xsel_cond {ps : List Int} {rs : List (List Int × List (Int × Int × List Int) × Int)} {F best most : Int} (hF : (xft ps l → F = 8 * xwt 2 ps + (0 + ps.length : Nat)) ∧ (¬ xft ps l → F = 0)) (h5 : ps.length ≤ 5) (hw : 2 ≤ xwt 2 ps ∧ xwt 2 ps ≤ 64) (hm : ((best = -1 ∧ most = 0) ∨ (0 ≤ best ∧ most = 8 * xwt 2 ((rs.map fun r => r.1).getD best.toNat []) + (((rs.map fun r => r.1).getD best.toNat []).length : Int) ∧ (((rs.map fun r => r.1).getD best.toNat []).length ≤ 5 ∧ 2 ≤ xwt 2 ((rs.map fun r => r.1).getD best.toNat []) ∧ xwt 2 ((rs.map fun r => r.1).getD best.toNat []) ≤ 64)))) : (xft ps l ∧ (best = -1 ∨ xork ps ((rs.map fun r => r.1).getD best.toNat []))) ↔ F > most := by
  unfold xork
  by_cases hf : xft ps l
  · have hF1 := hF.1 hf
    rcases hm with ⟨m1, m2⟩ | ⟨m1, m2, m3⟩
    · exact ⟨fun _ => by omega, fun _ => ⟨hf, Or.inl m1⟩⟩
    · constructor
      · rintro ⟨-, h | h⟩ <;> omega
      · intro h
        exact ⟨hf, Or.inr (by omega)⟩
  · have hF2 := hF.2 hf
    refine ⟨fun h => absurd h.1 hf, fun h => ?_⟩
    rcases hm with ⟨m1, m2⟩ | ⟨m1, m2, m3⟩ <;> omega
theorem xsel_new {ps : List Int} {rs : List (List Int × List (Int × Int × List Int) × Int)} {F : Int} {k : Nat} (pR : (rs.map fun r => r.1).getD k [] = ps) (hF : F = 8 * xwt 2 ps + (0 + ps.length : Nat)) (h5 : ps.length ≤ 5) (hw : 2 ≤ xwt 2 ps ∧ xwt 2 ps ≤ 64) : F = 8 * xwt 2 ((rs.map fun r => r.1).getD ((k : Int)).toNat []) + (((rs.map fun r => r.1).getD ((k : Int)).toNat []).length : Int) ∧ (((rs.map fun r => r.1).getD ((k : Int)).toNat []).length ≤ 5 ∧ 2 ≤ xwt 2 ((rs.map fun r => r.1).getD ((k : Int)).toNat []) ∧ xwt 2 ((rs.map fun r => r.1).getD ((k : Int)).toNat []) ≤ 64) := by
  rw [Int.toNat_natCast, pR]
  exact ⟨by omega, h5, hw⟩
theorem mo_234l {i : Nat} {rs : List (List Int × List (Int × Int × List Int) × Int)} (hA : 194 ≤ A.1) (hE : ∀ j : Nat, 0 ≤ t 166 j ∧ t 166 j ≤ 127) (hi : i < 4) (hp : xpst s t l) (hm : t 169 i = (rs.length : Int)) (h8 : rs.length ≤ 8) (hrs : ∀ (j : Nat) (r : List Int × List (Int × Int × List Int) × Int), rs[j]? = some r → xRL t (8 * i + j) r) : ∀ (j k : Nat) (best most : Int), k + j = rs.length → xBS (rs.map fun r => r.1) l k best → ((best = -1 ∧ most = 0) ∨ (0 ≤ best ∧ most = 8 * xwt 2 ((rs.map fun r => r.1).getD best.toNat []) + (((rs.map fun r => r.1).getD best.toNat []).length : Int) ∧ (((rs.map fun r => r.1).getD best.toNat []).length ≤ 5 ∧ 2 ≤ xwt 2 ((rs.map fun r => r.1).getD best.toNat []) ∧ xwt 2 ((rs.map fun r => r.1).getD best.toNat []) ≤ 64))) → (∀ b : Int, xBS (rs.map fun r => r.1) l rs.length b → Q (.inl (some (.int (Int32.ofInt b)))) (ym A s t)) → xr_ok (xt_G w) (d + 1 + 1) 234 7 [(4, .int (Int32.ofInt (k : Int))), (2, .int (Int32.ofInt best)), (3, .int (Int32.ofInt most)), (0, .ref 165), (1, .int (Int32.ofInt (i : Int)))] [] (ym A s t) Q := by
  intro j
  induction j using Nat.strongRecOn with
  | _ j ih =>
    intro k best most hk hB hmost hQ
    have hbr := xBS_rng _ _ _ _ hB
    have hmr : 0 ≤ most ∧ most ≤ 600 := by rcases hmost with h | ⟨h, h2, h3⟩ <;> omega
    refine xr_steps (pc' := 10) (L' := [(4, .int (Int32.ofInt (k : Int))), (2, .int (Int32.ofInt best)), (3, .int (Int32.ofInt most)), (0, .ref 165), (1, .int (Int32.ofInt (i : Int)))]) (st' := [.ref 165, .int (Int32.ofInt (k : Int))]) 2 rfl ?_
    refine xr_getf (v := .ref 169) rfl (ym_165 hA) rfl ?_
    refine xr_steps (pc' := 14) (L' := [(4, .int (Int32.ofInt (k : Int))), (2, .int (Int32.ofInt best)), (3, .int (Int32.ofInt most)), (0, .ref 165), (1, .int (Int32.ofInt (i : Int)))]) (st' := [.int (Int32.ofInt (i : Int)), .ref 169, .int (Int32.ofInt (k : Int))]) 1 rfl ?_
    refine ym_iaload (e := t 169 (i : Int).toNat) hA rfl rfl (by decide) (by omega) (by omega) rfl ?_
    rw [show (i : Int).toNat = i by omega]
    rw [hm]
    refine xr_icmp_ge rfl (by omega) (by omega) (fun z31 => ?_) (fun z31 => ?_)
    · refine xr_steps (pc' := 50) (L' := [(4, .int (Int32.ofInt (k : Int))), (2, .int (Int32.ofInt best)), (3, .int (Int32.ofInt most)), (0, .ref 165), (1, .int (Int32.ofInt (i : Int)))]) (st' := [.int (Int32.ofInt best)]) 1 rfl ?_
      obtain rfl : k = rs.length := by omega
      exact xr_retI2 rfl rfl (hQ _ hB)
    · refine xr_steps (pc' := 22) (L' := [(4, .int (Int32.ofInt (k : Int))), (2, .int (Int32.ofInt best)), (3, .int (Int32.ofInt most)), (0, .ref 165), (1, .int (Int32.ofInt (i : Int)))]) (st' := [.int (Int32.ofInt (i : Int)), .int (Int32.ofInt 8), .ref 165]) 3 rfl ?_
      refine xr_imul rfl ?_
      refine xr_steps (pc' := 25) (L' := [(4, .int (Int32.ofInt (k : Int))), (2, .int (Int32.ofInt best)), (3, .int (Int32.ofInt most)), (0, .ref 165), (1, .int (Int32.ofInt (i : Int)))]) (st' := [.int (Int32.ofInt (k : Int)), .int (Int32.ofInt (8 * (i : Int))), .ref 165]) 1 rfl ?_
      refine xr_iadd rfl ?_
      obtain ⟨R, hR⟩ : ∃ R, rs[k]? = some R := ⟨_, List.getElem?_eq_getElem (show k < rs.length by omega)⟩
      obtain ⟨n, n1, n2, n3, n4⟩ := hrs k R hR
      have hF := xFW_eq R.1 l 2 0
      have pR : (rs.map fun r => r.1).getD k [] = R.1 := by rw [List.getD_eq_getElem?_getD, List.getElem?_map, hR]; rfl
      have hl5 : R.1.length ≤ 5 := xRU_len n3
      have hw5 := xwt_5 hl5
      rw [show 8 * (i : Int) + (k : Int) = ((8 * i + k : Nat) : Int) by omega]
      refine xr_call (q := (.invokevirtual 183, 3, 235, 2)) (av := [.ref 165, .int (Int32.ofInt ((8 * i + k : Nat) : Int))]) (rest := []) rfl rfl (by decide) rfl (ym_rcv hA rfl) (Nat.le_of_ble_eq_true rfl) (mo_235 hA hE (show 8 * i + k < 32 by omega) n1 hp n3) ?_
      rintro _ _ ⟨rfl, eA⟩
      rw [eA]
      clear eA
      obtain ⟨F, eF⟩ : ∃ F, xFW 2 R.1 l 0 = F := ⟨_, rfl⟩
      rw [eF] at hF ⊢
      have hFr : 0 ≤ F ∧ F ≤ 600 := xsel_rng hF hl5 hw5
      refine xr_steps (pc' := 34) (L' := [(5, .int (Int32.ofInt F)), (4, .int (Int32.ofInt (k : Int))), (2, .int (Int32.ofInt best)), (3, .int (Int32.ofInt most)), (0, .ref 165), (1, .int (Int32.ofInt (i : Int)))]) (st' := [.int (Int32.ofInt most), .int (Int32.ofInt F)]) 3 rfl ?_
      refine xr_icmp_le rfl (by omega) (by omega) (fun z32 => ?_) (fun z32 => ?_)
      · refine xr_iinc (L' := [(4, .int (Int32.ofInt ((k : Int) + 1))), (5, .int (Int32.ofInt F)), (2, .int (Int32.ofInt best)), (3, .int (Int32.ofInt most)), (0, .ref 165), (1, .int (Int32.ofInt (i : Int)))]) rfl rfl rfl ?_
        refine xr_steps (pc' := 7) (L' := [(4, .int (Int32.ofInt ((k : Int) + 1))), (5, .int (Int32.ofInt F)), (2, .int (Int32.ofInt best)), (3, .int (Int32.ofInt most)), (0, .ref 165), (1, .int (Int32.ofInt (i : Int)))]) (st' := []) 1 rfl ?_
        refine xr_loc (L := [(4, .int (Int32.ofInt ((k : Int) + 1))), (2, .int (Int32.ofInt best)), (3, .int (Int32.ofInt most)), (0, .ref 165), (1, .int (Int32.ofInt (i : Int)))]) (show [4, 2, 3, 0, 1].Nodup by decide) ⟨rfl, rfl, rfl, rfl, rfl, trivial⟩ ?_
        rw [show (k : Int) + 1 = ((k + 1 : Nat) : Int) by omega]
        have hcond : (xft R.1 l ∧ (best = -1 ∨ xork R.1 ((rs.map fun r => r.1).getD best.toNat []))) ↔ F > most := xsel_cond hF hl5 hw5 hmost
        exact ih (j - 1) (by omega) (k + 1) best most (by omega) ⟨best, hB, Or.inr ⟨by rw [pR]; exact fun h => absurd (hcond.1 h) (by omega), rfl⟩⟩ hmost hQ
      · refine xr_steps (pc' := 43) (L' := [(2, .int (Int32.ofInt (k : Int))), (3, .int (Int32.ofInt F)), (5, .int (Int32.ofInt F)), (4, .int (Int32.ofInt (k : Int))), (0, .ref 165), (1, .int (Int32.ofInt (i : Int)))]) (st' := []) 4 rfl ?_
        refine xr_iinc (L' := [(4, .int (Int32.ofInt ((k : Int) + 1))), (2, .int (Int32.ofInt (k : Int))), (3, .int (Int32.ofInt F)), (5, .int (Int32.ofInt F)), (0, .ref 165), (1, .int (Int32.ofInt (i : Int)))]) rfl rfl rfl ?_
        refine xr_steps (pc' := 7) (L' := [(4, .int (Int32.ofInt ((k : Int) + 1))), (2, .int (Int32.ofInt (k : Int))), (3, .int (Int32.ofInt F)), (5, .int (Int32.ofInt F)), (0, .ref 165), (1, .int (Int32.ofInt (i : Int)))]) (st' := []) 1 rfl ?_
        refine xr_loc (L := [(4, .int (Int32.ofInt ((k : Int) + 1))), (2, .int (Int32.ofInt (k : Int))), (3, .int (Int32.ofInt F)), (0, .ref 165), (1, .int (Int32.ofInt (i : Int)))]) (show [4, 2, 3, 0, 1].Nodup by decide) ⟨rfl, rfl, rfl, rfl, rfl, trivial⟩ ?_
        rw [show (k : Int) + 1 = ((k + 1 : Nat) : Int) by omega]
        have hcond : (xft R.1 l ∧ (best = -1 ∨ xork R.1 ((rs.map fun r => r.1).getD best.toNat []))) ↔ F > most := xsel_cond hF hl5 hw5 hmost
        exact ih (j - 1) (by omega) (k + 1) (k : Int) F (by omega) ⟨best, hB, Or.inl ⟨by rw [pR]; exact hcond.2 (by omega), rfl⟩⟩ (Or.inr ⟨by omega, xsel_new pR (hF.1 (hcond.2 (by omega)).1) hl5 hw5⟩) hQ
theorem mo_234 {i : Nat} {rs : List (List Int × List (Int × Int × List Int) × Int)} (hA : 194 ≤ A.1) (hE : ∀ j : Nat, 0 ≤ t 166 j ∧ t 166 j ≤ 127) (hi : i < 4) (hp : xpst s t l) (hm : t 169 i = (rs.length : Int)) (h8 : rs.length ≤ 8) (hrs : ∀ (j : Nat) (r : List Int × List (Int × Int × List Int) × Int), rs[j]? = some r → xRL t (8 * i + j) r) : xr_ok (xt_G w) (d + 1 + 1) 234 0 [(0, .ref 165), (1, .int (Int32.ofInt (i : Int)))] [] (ym A s t) (fun o A' => ∃ v0, o = .inl v0 ∧ ∃ b : Int, (v0 = some (.int (Int32.ofInt b)) ∧ A' = ym A s t) ∧ xBS (rs.map fun r => r.1) l rs.length b) := by
  refine xr_steps (pc' := 7) (L' := [(4, .int (Int32.ofInt 0)), (3, .int (Int32.ofInt 0)), (2, .int (Int32.ofInt (-1))), (0, .ref 165), (1, .int (Int32.ofInt (i : Int)))]) (st' := []) 6 rfl ?_
  refine xr_loc (L := [(4, .int (Int32.ofInt 0)), (2, .int (Int32.ofInt (-1))), (3, .int (Int32.ofInt 0)), (0, .ref 165), (1, .int (Int32.ofInt (i : Int)))]) (show [4, 2, 3, 0, 1].Nodup by decide) ⟨rfl, rfl, rfl, rfl, rfl, trivial⟩ ?_
  exact mo_234l (rs := rs) hA hE hi hp hm h8 hrs rs.length 0 (-1) 0 (by omega) rfl (Or.inl ⟨rfl, rfl⟩) (fun b hb => ⟨_, rfl, b, ⟨rfl, rfl⟩, hb⟩)
end FJ
