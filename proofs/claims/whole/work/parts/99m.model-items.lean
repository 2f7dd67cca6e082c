/-! The reference: items of a matcher against a string -/
/-- a row of booleans says h of k -/
def xbr (t : Nat → Nat → Int) (x k : Nat) (h : Prop) : Prop := (t x k = 1 ∧ h) ∨ (t x k = 0 ∧ ¬ h)
theorem xbr_rng {t : Nat → Nat → Int} {x k : Nat} {h : Prop} (hb : xbr t x k h) : t x k = 0 ∨ t x k = 1 := by
  unfold xbr at hb; omega
theorem xbr_iff {t : Nat → Nat → Int} {x k : Nat} {h h' : Prop} (hb : xbr t x k h) (hi : h ↔ h') : xbr t x k h' := by
  rcases hb with ⟨a, b⟩ | ⟨a, b⟩
  · exact Or.inl ⟨a, hi.1 b⟩
  · exact Or.inr ⟨a, fun c => b (hi.2 c)⟩
theorem xbr_up {t : Nat → Nat → Int} {x k : Nat} {v : Int} {h : Prop} (hv : (v = 1 ∧ h) ∨ (v = 0 ∧ ¬ h)) : xbr (va_up t x (va_up (t x) k v)) x k h := by
  unfold xbr
  rw [ya_up_same, ya_up_same]
  exact hv
theorem xbr_ne {t : Nat → Nat → Int} {x y k j : Nat} {v : Int} {h : Prop} (hb : xbr t y j h) (hn : ¬ (y = x ∧ j = k)) : xbr (va_up t x (va_up (t x) k v)) y j h := by
  unfold xbr at *
  by_cases e : y = x
  · rw [e, ya_up_same, ya_up_ne _ _ (fun h => hn ⟨e, h⟩)]
    rw [e] at hb
    exact hb
  · rw [ya_up_ne _ _ e]; exact hb
/-- rows but those of the automaton stay -/
def xna (t t' : Nat → Nat → Int) : Prop := ∀ x : Nat, ¬ (187 ≤ x ∧ x ≤ 190) → t' x = t x
theorem xna_refl (t : Nat → Nat → Int) : xna t t := fun _ _ => rfl
theorem xna_trans {t t' t'' : Nat → Nat → Int} (h1 : xna t t') (h2 : xna t' t'') : xna t t'' := fun x hx => (h2 x hx).trans (h1 x hx)
theorem xna_up {t : Nat → Nat → Int} {x : Nat} {g : Nat → Int} (hx : 187 ≤ x ∧ x ≤ 190) : xna t (va_up t x g) := fun y hy => ya_up_ne _ _ (by omega)
def xspr (r : Nat → Int) (h : Nat → Prop) : Nat → Prop
  | 0 => h 0
  | k + 1 => h (k + 1) ∨ (xspr r h k ∧ r k = 42)
section AU
variable {w : Value} {d : Nat} {A : xb_H} {s : Nat → Int} {n : Nat} {Q : xb_R → xb_H → Prop}
theorem mo_251l {r : Nat → Int} {h : Nat → Prop} (hA : 194 ≤ A.1) (hn : n ≤ 8) : ∀ (j k : Nat) (t : Nat → Nat → Int), k + j = n → (∀ i : Nat, i ≤ n → xbr t 187 i (if i ≤ k then xspr r h i else h i)) → (∀ i : Nat, i < n → t 190 i = r i ∧ 0 ≤ r i ∧ r i ≤ 127) → (∀ t' : Nat → Nat → Int, (∀ i : Nat, i ≤ n → xbr t' 187 i (xspr r h i)) → (∀ x : Nat, ¬ x = 187 → t' x = t x) → Q (.inl none) (ym A s t')) → xr_ok (xt_G w) d 251 2 [(2, .int (Int32.ofInt (k : Int))), (0, .ref 165), (1, .int (Int32.ofInt (n : Int)))] [] (ym A s t) Q := by
  intro j
  induction j using Nat.strongRecOn with
  | _ j ih =>
    intro k t hk hh hr hQ
    refine xr_steps (pc' := 4) (L' := [(2, .int (Int32.ofInt (k : Int))), (0, .ref 165), (1, .int (Int32.ofInt (n : Int)))]) (st' := [.int (Int32.ofInt (n : Int)), .int (Int32.ofInt (k : Int))]) 2 rfl ?_
    refine xr_icmp_ge rfl (by omega) (by omega) (fun z31 => ?_) (fun z31 => ?_)
    · obtain rfl : k = n := by omega
      exact xr_retN rfl rfl (hQ t (fun i hi => by have := hh i hi; rw [if_pos hi] at this; exact this) (fun _ _ => rfl))
    · have hb1 : xbr t 187 (k + 1) (h (k + 1)) := by have := hh (k + 1) (by omega); rw [if_neg (by omega)] at this; exact this
      have hb0 : xbr t 187 k (xspr r h k) := by have := hh k (by omega); rw [if_pos (Nat.le_refl _)] at this; exact this
      have hb1r := xbr_rng hb1
      have hb0r := xbr_rng hb0
      have hrk := hr k (by omega)
      refine xr_steps (pc' := 8) (L' := [(2, .int (Int32.ofInt (k : Int))), (0, .ref 165), (1, .int (Int32.ofInt (n : Int)))]) (st' := [.ref 165]) 1 rfl ?_
      refine xr_getf (v := .ref 187) rfl (ym_165 hA) rfl ?_
      refine xr_steps (pc' := 13) (L' := [(2, .int (Int32.ofInt (k : Int))), (0, .ref 165), (1, .int (Int32.ofInt (n : Int)))]) (st' := [.int (Int32.ofInt 1), .int (Int32.ofInt (k : Int)), .ref 187]) 2 rfl ?_
      refine xr_iadd rfl ?_
      refine xr_steps (pc' := 15) (L' := [(2, .int (Int32.ofInt (k : Int))), (0, .ref 165), (1, .int (Int32.ofInt (n : Int)))]) (st' := [.ref 165, .int (Int32.ofInt ((k : Int) + 1)), .ref 187]) 1 rfl ?_
      refine xr_getf (v := .ref 187) rfl (ym_165 hA) rfl ?_
      refine xr_steps (pc' := 20) (L' := [(2, .int (Int32.ofInt (k : Int))), (0, .ref 165), (1, .int (Int32.ofInt (n : Int)))]) (st' := [.int (Int32.ofInt 1), .int (Int32.ofInt (k : Int)), .ref 187, .int (Int32.ofInt ((k : Int) + 1)), .ref 187]) 2 rfl ?_
      refine xr_iadd rfl ?_
      refine ym_baload (e := t 187 ((k : Int) + 1).toNat) hA rfl rfl (by decide) (by omega) (by omega) rfl ?_
      rw [show ((k : Int) + 1).toNat = k + 1 by omega]
      refine xr_if_ne rfl (by omega) (fun z32 => ?_) (fun z32 => ?_)
      · refine xr_steps (pc' := 50) (L' := [(2, .int (Int32.ofInt (k : Int))), (0, .ref 165), (1, .int (Int32.ofInt (n : Int)))]) (st' := [.int (Int32.ofInt 1), .int (Int32.ofInt ((k : Int) + 1)), .ref 187]) 2 rfl ?_
        refine ym_bastore hA rfl rfl (by decide) (by omega) (by omega) (by omega) ?_
        rw [show ((k : Int) + 1).toNat = k + 1 by omega]
        refine xr_iinc (L' := [(2, .int (Int32.ofInt ((k : Int) + 1))), (0, .ref 165), (1, .int (Int32.ofInt (n : Int)))]) rfl rfl rfl ?_
        refine xr_steps (pc' := 2) (L' := [(2, .int (Int32.ofInt ((k : Int) + 1))), (0, .ref 165), (1, .int (Int32.ofInt (n : Int)))]) (st' := []) 1 rfl ?_
        refine xr_loc (L := [(2, .int (Int32.ofInt ((k : Int) + 1))), (0, .ref 165), (1, .int (Int32.ofInt (n : Int)))]) (show [2, 0, 1].Nodup by decide) ⟨rfl, rfl, rfl, trivial⟩ ?_
        rw [show (k : Int) + 1 = ((k + 1 : Nat) : Int) by omega]
        refine ih (j - 1) (by omega) (k + 1) _ (by omega) (fun i hi => ?_) (fun i hi => hr i hi) (fun t' h1 h2 => hQ t' h1 (fun x hx => (h2 x hx).trans (ya_up_ne _ _ hx)))
        by_cases e : i = k + 1
        · rw [e, if_pos (Nat.le_refl _)]
          exact xbr_up (Or.inl ⟨rfl, (by rcases hb1 with ⟨e1, e2⟩ | ⟨e1, e2⟩; exact Or.inl e2; omega)⟩)
        · refine xbr_ne (xbr_iff (hh i hi) ?_) (fun h => e h.2)
          by_cases e2 : i ≤ k
          · rw [if_pos e2, if_pos (by omega)]
          · rw [if_neg e2, if_neg (by omega)]
      · refine xr_steps (pc' := 26) (L' := [(2, .int (Int32.ofInt (k : Int))), (0, .ref 165), (1, .int (Int32.ofInt (n : Int)))]) (st' := [.ref 165, .int (Int32.ofInt ((k : Int) + 1)), .ref 187]) 1 rfl ?_
        refine xr_getf (v := .ref 187) rfl (ym_165 hA) rfl ?_
        refine xr_steps (pc' := 30) (L' := [(2, .int (Int32.ofInt (k : Int))), (0, .ref 165), (1, .int (Int32.ofInt (n : Int)))]) (st' := [.int (Int32.ofInt (k : Int)), .ref 187, .int (Int32.ofInt ((k : Int) + 1)), .ref 187]) 1 rfl ?_
        refine ym_baload (e := t 187 (k : Int).toNat) hA rfl rfl (by decide) (by omega) (by omega) rfl ?_
        rw [show (k : Int).toNat = k by omega]
        refine xr_if_eq rfl (by omega) (fun z33 => ?_) (fun z33 => ?_)
        · refine xr_steps (pc' := 50) (L' := [(2, .int (Int32.ofInt (k : Int))), (0, .ref 165), (1, .int (Int32.ofInt (n : Int)))]) (st' := [.int (Int32.ofInt 0), .int (Int32.ofInt ((k : Int) + 1)), .ref 187]) 1 rfl ?_
          refine ym_bastore hA rfl rfl (by decide) (by omega) (by omega) (by omega) ?_
          rw [show ((k : Int) + 1).toNat = k + 1 by omega]
          refine xr_iinc (L' := [(2, .int (Int32.ofInt ((k : Int) + 1))), (0, .ref 165), (1, .int (Int32.ofInt (n : Int)))]) rfl rfl rfl ?_
          refine xr_steps (pc' := 2) (L' := [(2, .int (Int32.ofInt ((k : Int) + 1))), (0, .ref 165), (1, .int (Int32.ofInt (n : Int)))]) (st' := []) 1 rfl ?_
          refine xr_loc (L := [(2, .int (Int32.ofInt ((k : Int) + 1))), (0, .ref 165), (1, .int (Int32.ofInt (n : Int)))]) (show [2, 0, 1].Nodup by decide) ⟨rfl, rfl, rfl, trivial⟩ ?_
          rw [show (k : Int) + 1 = ((k + 1 : Nat) : Int) by omega]
          refine ih (j - 1) (by omega) (k + 1) _ (by omega) (fun i hi => ?_) (fun i hi => hr i hi) (fun t' h1 h2 => hQ t' h1 (fun x hx => (h2 x hx).trans (ya_up_ne _ _ hx)))
          by_cases e : i = k + 1
          · rw [e, if_pos (Nat.le_refl _)]
            exact xbr_up (Or.inr ⟨rfl, (fun hh => by rcases hb1 with ⟨e1, e2⟩ | ⟨e1, e2⟩; omega; rcases hh with hh | hh; exact e2 hh; rcases hb0 with ⟨e3, e4⟩ | ⟨e3, e4⟩; omega; exact e4 hh.1)⟩)
          · refine xbr_ne (xbr_iff (hh i hi) ?_) (fun h => e h.2)
            by_cases e2 : i ≤ k
            · rw [if_pos e2, if_pos (by omega)]
            · rw [if_neg e2, if_neg (by omega)]
        · refine xr_steps (pc' := 35) (L' := [(2, .int (Int32.ofInt (k : Int))), (0, .ref 165), (1, .int (Int32.ofInt (n : Int)))]) (st' := [.ref 165, .int (Int32.ofInt ((k : Int) + 1)), .ref 187]) 1 rfl ?_
          refine xr_getf (v := .ref 190) rfl (ym_165 hA) rfl ?_
          refine xr_steps (pc' := 39) (L' := [(2, .int (Int32.ofInt (k : Int))), (0, .ref 165), (1, .int (Int32.ofInt (n : Int)))]) (st' := [.int (Int32.ofInt (k : Int)), .ref 190, .int (Int32.ofInt ((k : Int) + 1)), .ref 187]) 1 rfl ?_
          refine ym_caload (e := t 190 (k : Int).toNat) hA rfl rfl (by decide) (by omega) (by omega) rfl ?_
          rw [show (k : Int).toNat = k by omega]
          refine xr_steps (pc' := 42) (L' := [(2, .int (Int32.ofInt (k : Int))), (0, .ref 165), (1, .int (Int32.ofInt (n : Int)))]) (st' := [.int (Int32.ofInt 42), .int (Int32.ofInt (t 190 k)), .int (Int32.ofInt ((k : Int) + 1)), .ref 187]) 1 rfl ?_
          refine xr_icmp_ne rfl (by omega) (by omega) (fun z34 => ?_) (fun z34 => ?_)
          · refine xr_steps (pc' := 50) (L' := [(2, .int (Int32.ofInt (k : Int))), (0, .ref 165), (1, .int (Int32.ofInt (n : Int)))]) (st' := [.int (Int32.ofInt 0), .int (Int32.ofInt ((k : Int) + 1)), .ref 187]) 1 rfl ?_
            refine ym_bastore hA rfl rfl (by decide) (by omega) (by omega) (by omega) ?_
            rw [show ((k : Int) + 1).toNat = k + 1 by omega]
            refine xr_iinc (L' := [(2, .int (Int32.ofInt ((k : Int) + 1))), (0, .ref 165), (1, .int (Int32.ofInt (n : Int)))]) rfl rfl rfl ?_
            refine xr_steps (pc' := 2) (L' := [(2, .int (Int32.ofInt ((k : Int) + 1))), (0, .ref 165), (1, .int (Int32.ofInt (n : Int)))]) (st' := []) 1 rfl ?_
            refine xr_loc (L := [(2, .int (Int32.ofInt ((k : Int) + 1))), (0, .ref 165), (1, .int (Int32.ofInt (n : Int)))]) (show [2, 0, 1].Nodup by decide) ⟨rfl, rfl, rfl, trivial⟩ ?_
            rw [show (k : Int) + 1 = ((k + 1 : Nat) : Int) by omega]
            refine ih (j - 1) (by omega) (k + 1) _ (by omega) (fun i hi => ?_) (fun i hi => hr i hi) (fun t' h1 h2 => hQ t' h1 (fun x hx => (h2 x hx).trans (ya_up_ne _ _ hx)))
            by_cases e : i = k + 1
            · rw [e, if_pos (Nat.le_refl _)]
              exact xbr_up (Or.inr ⟨rfl, (fun hh => by rcases hb1 with ⟨e1, e2⟩ | ⟨e1, e2⟩; omega; rcases hh with hh | hh; exact e2 hh; rcases hb0 with ⟨e3, e4⟩ | ⟨e3, e4⟩; omega; exact e4 hh.1)⟩)
            · refine xbr_ne (xbr_iff (hh i hi) ?_) (fun h => e h.2)
              by_cases e2 : i ≤ k
              · rw [if_pos e2, if_pos (by omega)]
              · rw [if_neg e2, if_neg (by omega)]
          · refine xr_steps (pc' := 50) (L' := [(2, .int (Int32.ofInt (k : Int))), (0, .ref 165), (1, .int (Int32.ofInt (n : Int)))]) (st' := [.int (Int32.ofInt 1), .int (Int32.ofInt ((k : Int) + 1)), .ref 187]) 2 rfl ?_
            refine ym_bastore hA rfl rfl (by decide) (by omega) (by omega) (by omega) ?_
            rw [show ((k : Int) + 1).toNat = k + 1 by omega]
            refine xr_iinc (L' := [(2, .int (Int32.ofInt ((k : Int) + 1))), (0, .ref 165), (1, .int (Int32.ofInt (n : Int)))]) rfl rfl rfl ?_
            refine xr_steps (pc' := 2) (L' := [(2, .int (Int32.ofInt ((k : Int) + 1))), (0, .ref 165), (1, .int (Int32.ofInt (n : Int)))]) (st' := []) 1 rfl ?_
            refine xr_loc (L := [(2, .int (Int32.ofInt ((k : Int) + 1))), (0, .ref 165), (1, .int (Int32.ofInt (n : Int)))]) (show [2, 0, 1].Nodup by decide) ⟨rfl, rfl, rfl, trivial⟩ ?_
            rw [show (k : Int) + 1 = ((k + 1 : Nat) : Int) by omega]
            refine ih (j - 1) (by omega) (k + 1) _ (by omega) (fun i hi => ?_) (fun i hi => hr i hi) (fun t' h1 h2 => hQ t' h1 (fun x hx => (h2 x hx).trans (ya_up_ne _ _ hx)))
            by_cases e : i = k + 1
            · rw [e, if_pos (Nat.le_refl _)]
              exact xbr_up (Or.inl ⟨rfl, (by rcases hb0 with ⟨e1, e2⟩ | ⟨e1, e2⟩; exact Or.inr ⟨e2, by omega⟩; omega)⟩)
            · refine xbr_ne (xbr_iff (hh i hi) ?_) (fun h => e h.2)
              by_cases e2 : i ≤ k
              · rw [if_pos e2, if_pos (by omega)]
              · rw [if_neg e2, if_neg (by omega)]
theorem mo_251 {t : Nat → Nat → Int} {r : Nat → Int} {h : Nat → Prop} (hA : 194 ≤ A.1) (hn : n ≤ 8) (hh : ∀ i : Nat, i ≤ n → xbr t 187 i (h i)) (hr : ∀ i : Nat, i < n → t 190 i = r i ∧ 0 ≤ r i ∧ r i ≤ 127) : xr_ok (xt_G w) d 251 0 [(0, .ref 165), (1, .int (Int32.ofInt (n : Int)))] [] (ym A s t) (fun o A' => ∃ v0, o = .inl v0 ∧ v0 = none ∧ ∃ t' : Nat → Nat → Int, A' = ym A s t' ∧ (∀ i : Nat, i ≤ n → xbr t' 187 i (xspr r h i)) ∧ ∀ x : Nat, ¬ x = 187 → t' x = t x) := by
  refine xr_steps (pc' := 2) (L' := [(2, .int (Int32.ofInt 0)), (0, .ref 165), (1, .int (Int32.ofInt (n : Int)))]) (st' := []) 2 rfl ?_
  refine mo_251l hA hn n 0 t (by omega) (fun i hi => xbr_iff (hh i hi) ?_) hr (fun t' h1 h2 => ⟨_, rfl, rfl, t', rfl, h1, h2⟩)
  by_cases e : i ≤ 0
  · obtain rfl : i = 0 := by omega
    rw [if_pos e]
    exact Iff.rfl
  · rw [if_neg e]
variable {a fr tt : Nat}
theorem mo_250i (hA : 194 ≤ A.1) (hn : n ≤ 8) : ∀ (j k : Nat) (t : Nat → Nat → Int), k + j = n + 1 → (∀ i : Nat, i < k → xbr t 187 i (i = 0)) → (∀ t' : Nat → Nat → Int, (∀ i : Nat, i ≤ n → xbr t' 187 i (i = 0)) → (∀ x : Nat, ¬ x = 187 → t' x = t x) → xr_ok (xt_G w) d 250 149 [(4, .int (Int32.ofInt (n : Int))), (0, .ref 165), (1, .int (Int32.ofInt (a : Int))), (2, .int (Int32.ofInt (fr : Int))), (3, .int (Int32.ofInt (tt : Int)))] [] (ym A s t') Q) → xr_ok (xt_G w) d 250 119 [(6, .int (Int32.ofInt (k : Int))), (4, .int (Int32.ofInt (n : Int))), (0, .ref 165), (1, .int (Int32.ofInt (a : Int))), (2, .int (Int32.ofInt (fr : Int))), (3, .int (Int32.ofInt (tt : Int)))] [] (ym A s t) Q := by
  intro j
  induction j using Nat.strongRecOn with
  | _ j ih =>
    intro k t hk hh hQ
    refine xr_steps (pc' := 123) (L' := [(6, .int (Int32.ofInt (k : Int))), (4, .int (Int32.ofInt (n : Int))), (0, .ref 165), (1, .int (Int32.ofInt (a : Int))), (2, .int (Int32.ofInt (fr : Int))), (3, .int (Int32.ofInt (tt : Int)))]) (st' := [.int (Int32.ofInt (n : Int)), .int (Int32.ofInt (k : Int))]) 2 rfl ?_
    refine xr_icmp_gt rfl (by omega) (by omega) (fun z31 => ?_) (fun z31 => ?_)
    · refine xr_loc (L := [(4, .int (Int32.ofInt (n : Int))), (0, .ref 165), (1, .int (Int32.ofInt (a : Int))), (2, .int (Int32.ofInt (fr : Int))), (3, .int (Int32.ofInt (tt : Int)))]) (show [4, 0, 1, 2, 3].Nodup by decide) ⟨rfl, rfl, rfl, rfl, rfl, trivial⟩ ?_
      exact hQ t (fun i hi => hh i (by omega)) (fun _ _ => rfl)
    · refine xr_steps (pc' := 127) (L' := [(6, .int (Int32.ofInt (k : Int))), (4, .int (Int32.ofInt (n : Int))), (0, .ref 165), (1, .int (Int32.ofInt (a : Int))), (2, .int (Int32.ofInt (fr : Int))), (3, .int (Int32.ofInt (tt : Int)))]) (st' := [.ref 165]) 1 rfl ?_
      refine xr_getf (v := .ref 187) rfl (ym_165 hA) rfl ?_
      refine xr_steps (pc' := 134) (L' := [(6, .int (Int32.ofInt (k : Int))), (4, .int (Int32.ofInt (n : Int))), (0, .ref 165), (1, .int (Int32.ofInt (a : Int))), (2, .int (Int32.ofInt (fr : Int))), (3, .int (Int32.ofInt (tt : Int)))]) (st' := [.int (Int32.ofInt (k : Int)), .int (Int32.ofInt (k : Int)), .ref 187]) 2 rfl ?_
      refine xr_if_ne rfl (by omega) (fun z32 => ?_) (fun z32 => ?_)
      · refine xr_steps (pc' := 142) (L' := [(6, .int (Int32.ofInt (k : Int))), (4, .int (Int32.ofInt (n : Int))), (0, .ref 165), (1, .int (Int32.ofInt (a : Int))), (2, .int (Int32.ofInt (fr : Int))), (3, .int (Int32.ofInt (tt : Int)))]) (st' := [.int (Int32.ofInt 0), .int (Int32.ofInt (k : Int)), .ref 187]) 1 rfl ?_
        refine ym_bastore hA rfl rfl (by decide) (by omega) (by omega) (by omega) ?_
        rw [show (k : Int).toNat = k by omega]
        refine xr_iinc (L' := [(6, .int (Int32.ofInt ((k : Int) + 1))), (4, .int (Int32.ofInt (n : Int))), (0, .ref 165), (1, .int (Int32.ofInt (a : Int))), (2, .int (Int32.ofInt (fr : Int))), (3, .int (Int32.ofInt (tt : Int)))]) rfl rfl rfl ?_
        refine xr_steps (pc' := 119) (L' := [(6, .int (Int32.ofInt ((k : Int) + 1))), (4, .int (Int32.ofInt (n : Int))), (0, .ref 165), (1, .int (Int32.ofInt (a : Int))), (2, .int (Int32.ofInt (fr : Int))), (3, .int (Int32.ofInt (tt : Int)))]) (st' := []) 1 rfl ?_
        refine xr_loc (L := [(6, .int (Int32.ofInt ((k : Int) + 1))), (4, .int (Int32.ofInt (n : Int))), (0, .ref 165), (1, .int (Int32.ofInt (a : Int))), (2, .int (Int32.ofInt (fr : Int))), (3, .int (Int32.ofInt (tt : Int)))]) (show [6, 4, 0, 1, 2, 3].Nodup by decide) ⟨rfl, rfl, rfl, rfl, rfl, rfl, trivial⟩ ?_
        rw [show (k : Int) + 1 = ((k + 1 : Nat) : Int) by omega]
        refine ih (j - 1) (by omega) (k + 1) _ (by omega) (fun i hi => ?_) (fun t' h1 h2 => hQ t' h1 (fun x hx => (h2 x hx).trans (ya_up_ne _ _ hx)))
        by_cases e : i = k
        · rw [e]
          exact xbr_up (by omega)
        · exact xbr_ne (hh i (by omega)) (fun h => e h.2)
      · refine xr_steps (pc' := 142) (L' := [(6, .int (Int32.ofInt (k : Int))), (4, .int (Int32.ofInt (n : Int))), (0, .ref 165), (1, .int (Int32.ofInt (a : Int))), (2, .int (Int32.ofInt (fr : Int))), (3, .int (Int32.ofInt (tt : Int)))]) (st' := [.int (Int32.ofInt 1), .int (Int32.ofInt (k : Int)), .ref 187]) 2 rfl ?_
        refine ym_bastore hA rfl rfl (by decide) (by omega) (by omega) (by omega) ?_
        rw [show (k : Int).toNat = k by omega]
        refine xr_iinc (L' := [(6, .int (Int32.ofInt ((k : Int) + 1))), (4, .int (Int32.ofInt (n : Int))), (0, .ref 165), (1, .int (Int32.ofInt (a : Int))), (2, .int (Int32.ofInt (fr : Int))), (3, .int (Int32.ofInt (tt : Int)))]) rfl rfl rfl ?_
        refine xr_steps (pc' := 119) (L' := [(6, .int (Int32.ofInt ((k : Int) + 1))), (4, .int (Int32.ofInt (n : Int))), (0, .ref 165), (1, .int (Int32.ofInt (a : Int))), (2, .int (Int32.ofInt (fr : Int))), (3, .int (Int32.ofInt (tt : Int)))]) (st' := []) 1 rfl ?_
        refine xr_loc (L := [(6, .int (Int32.ofInt ((k : Int) + 1))), (4, .int (Int32.ofInt (n : Int))), (0, .ref 165), (1, .int (Int32.ofInt (a : Int))), (2, .int (Int32.ofInt (fr : Int))), (3, .int (Int32.ofInt (tt : Int)))]) (show [6, 4, 0, 1, 2, 3].Nodup by decide) ⟨rfl, rfl, rfl, rfl, rfl, rfl, trivial⟩ ?_
        rw [show (k : Int) + 1 = ((k + 1 : Nat) : Int) by omega]
        refine ih (j - 1) (by omega) (k + 1) _ (by omega) (fun i hi => ?_) (fun t' h1 h2 => hQ t' h1 (fun x hx => (h2 x hx).trans (ya_up_ne _ _ hx)))
        by_cases e : i = k
        · rw [e]
          exact xbr_up (by omega)
        · exact xbr_ne (hh i (by omega)) (fun h => e h.2)
variable {c z : Nat}
theorem mo_250c (hA : 194 ≤ A.1) (hn : n ≤ 8) : ∀ (j k : Nat) (t : Nat → Nat → Int), k + j = n + 1 → (∀ i : Nat, i < k → xbr t 188 i False) → (∀ t' : Nat → Nat → Int, (∀ i : Nat, i ≤ n → xbr t' 188 i False) → (∀ x : Nat, ¬ x = 188 → t' x = t x) → xr_ok (xt_G w) d 250 200 [(7, .int (Int32.ofInt (c : Int))), (6, .int (Int32.ofInt (z : Int))), (4, .int (Int32.ofInt (n : Int))), (0, .ref 165), (1, .int (Int32.ofInt (a : Int))), (2, .int (Int32.ofInt (fr : Int))), (3, .int (Int32.ofInt (tt : Int)))] [] (ym A s t') Q) → xr_ok (xt_G w) d 250 179 [(8, .int (Int32.ofInt (k : Int))), (7, .int (Int32.ofInt (c : Int))), (6, .int (Int32.ofInt (z : Int))), (4, .int (Int32.ofInt (n : Int))), (0, .ref 165), (1, .int (Int32.ofInt (a : Int))), (2, .int (Int32.ofInt (fr : Int))), (3, .int (Int32.ofInt (tt : Int)))] [] (ym A s t) Q := by
  intro j
  induction j using Nat.strongRecOn with
  | _ j ih =>
    intro k t hk hh hQ
    refine xr_steps (pc' := 183) (L' := [(8, .int (Int32.ofInt (k : Int))), (7, .int (Int32.ofInt (c : Int))), (6, .int (Int32.ofInt (z : Int))), (4, .int (Int32.ofInt (n : Int))), (0, .ref 165), (1, .int (Int32.ofInt (a : Int))), (2, .int (Int32.ofInt (fr : Int))), (3, .int (Int32.ofInt (tt : Int)))]) (st' := [.int (Int32.ofInt (n : Int)), .int (Int32.ofInt (k : Int))]) 2 rfl ?_
    refine xr_icmp_gt rfl (by omega) (by omega) (fun z31 => ?_) (fun z31 => ?_)
    · refine xr_loc (L := [(7, .int (Int32.ofInt (c : Int))), (6, .int (Int32.ofInt (z : Int))), (4, .int (Int32.ofInt (n : Int))), (0, .ref 165), (1, .int (Int32.ofInt (a : Int))), (2, .int (Int32.ofInt (fr : Int))), (3, .int (Int32.ofInt (tt : Int)))]) (show [7, 6, 4, 0, 1, 2, 3].Nodup by decide) ⟨rfl, rfl, rfl, rfl, rfl, rfl, rfl, trivial⟩ ?_
      exact hQ t (fun i hi => hh i (by omega)) (fun _ _ => rfl)
    · refine xr_steps (pc' := 187) (L' := [(8, .int (Int32.ofInt (k : Int))), (7, .int (Int32.ofInt (c : Int))), (6, .int (Int32.ofInt (z : Int))), (4, .int (Int32.ofInt (n : Int))), (0, .ref 165), (1, .int (Int32.ofInt (a : Int))), (2, .int (Int32.ofInt (fr : Int))), (3, .int (Int32.ofInt (tt : Int)))]) (st' := [.ref 165]) 1 rfl ?_
      refine xr_getf (v := .ref 188) rfl (ym_165 hA) rfl ?_
      refine xr_steps (pc' := 193) (L' := [(8, .int (Int32.ofInt (k : Int))), (7, .int (Int32.ofInt (c : Int))), (6, .int (Int32.ofInt (z : Int))), (4, .int (Int32.ofInt (n : Int))), (0, .ref 165), (1, .int (Int32.ofInt (a : Int))), (2, .int (Int32.ofInt (fr : Int))), (3, .int (Int32.ofInt (tt : Int)))]) (st' := [.int (Int32.ofInt 0), .int (Int32.ofInt (k : Int)), .ref 188]) 2 rfl ?_
      refine ym_bastore hA rfl rfl (by decide) (by omega) (by omega) (by omega) ?_
      rw [show (k : Int).toNat = k by omega]
      refine xr_iinc (L' := [(8, .int (Int32.ofInt ((k : Int) + 1))), (7, .int (Int32.ofInt (c : Int))), (6, .int (Int32.ofInt (z : Int))), (4, .int (Int32.ofInt (n : Int))), (0, .ref 165), (1, .int (Int32.ofInt (a : Int))), (2, .int (Int32.ofInt (fr : Int))), (3, .int (Int32.ofInt (tt : Int)))]) rfl rfl rfl ?_
      refine xr_steps (pc' := 179) (L' := [(8, .int (Int32.ofInt ((k : Int) + 1))), (7, .int (Int32.ofInt (c : Int))), (6, .int (Int32.ofInt (z : Int))), (4, .int (Int32.ofInt (n : Int))), (0, .ref 165), (1, .int (Int32.ofInt (a : Int))), (2, .int (Int32.ofInt (fr : Int))), (3, .int (Int32.ofInt (tt : Int)))]) (st' := []) 1 rfl ?_
      refine xr_loc (L := [(8, .int (Int32.ofInt ((k : Int) + 1))), (7, .int (Int32.ofInt (c : Int))), (6, .int (Int32.ofInt (z : Int))), (4, .int (Int32.ofInt (n : Int))), (0, .ref 165), (1, .int (Int32.ofInt (a : Int))), (2, .int (Int32.ofInt (fr : Int))), (3, .int (Int32.ofInt (tt : Int)))]) (show [8, 7, 6, 4, 0, 1, 2, 3].Nodup by decide) ⟨rfl, rfl, rfl, rfl, rfl, rfl, rfl, rfl, trivial⟩ ?_
      rw [show (k : Int) + 1 = ((k + 1 : Nat) : Int) by omega]
      refine ih (j - 1) (by omega) (k + 1) _ (by omega) (fun i hi => ?_) (fun t' h1 h2 => hQ t' h1 (fun x hx => (h2 x hx).trans (ya_up_ne _ _ hx)))
      by_cases e : i = k
      · rw [e]
        exact xbr_up (Or.inr ⟨rfl, id⟩)
      · exact xbr_ne (hh i (by omega)) (fun h => e h.2)
theorem mo_250p {h : Nat → Prop} (hA : 194 ≤ A.1) (hn : n ≤ 8) : ∀ (j k : Nat) (t : Nat → Nat → Int), k + j = n + 1 → (∀ i : Nat, i ≤ n → xbr t 188 i (h i)) → (∀ i : Nat, i < k → xbr t 187 i (h i)) → (∀ t' : Nat → Nat → Int, (∀ i : Nat, i ≤ n → xbr t' 187 i (h i)) → (∀ x : Nat, ¬ x = 187 → t' x = t x) → xr_ok (xt_G w) d 250 362 [(7, .int (Int32.ofInt (c : Int))), (6, .int (Int32.ofInt (z : Int))), (4, .int (Int32.ofInt (n : Int))), (0, .ref 165), (1, .int (Int32.ofInt (a : Int))), (2, .int (Int32.ofInt (fr : Int))), (3, .int (Int32.ofInt (tt : Int)))] [] (ym A s t') Q) → xr_ok (xt_G w) d 250 335 [(8, .int (Int32.ofInt (k : Int))), (7, .int (Int32.ofInt (c : Int))), (6, .int (Int32.ofInt (z : Int))), (4, .int (Int32.ofInt (n : Int))), (0, .ref 165), (1, .int (Int32.ofInt (a : Int))), (2, .int (Int32.ofInt (fr : Int))), (3, .int (Int32.ofInt (tt : Int)))] [] (ym A s t) Q := by
  intro j
  induction j using Nat.strongRecOn with
  | _ j ih =>
    intro k t hk hb hh hQ
    refine xr_steps (pc' := 339) (L' := [(8, .int (Int32.ofInt (k : Int))), (7, .int (Int32.ofInt (c : Int))), (6, .int (Int32.ofInt (z : Int))), (4, .int (Int32.ofInt (n : Int))), (0, .ref 165), (1, .int (Int32.ofInt (a : Int))), (2, .int (Int32.ofInt (fr : Int))), (3, .int (Int32.ofInt (tt : Int)))]) (st' := [.int (Int32.ofInt (n : Int)), .int (Int32.ofInt (k : Int))]) 2 rfl ?_
    refine xr_icmp_gt rfl (by omega) (by omega) (fun z31 => ?_) (fun z31 => ?_)
    · refine xr_loc (L := [(7, .int (Int32.ofInt (c : Int))), (6, .int (Int32.ofInt (z : Int))), (4, .int (Int32.ofInt (n : Int))), (0, .ref 165), (1, .int (Int32.ofInt (a : Int))), (2, .int (Int32.ofInt (fr : Int))), (3, .int (Int32.ofInt (tt : Int)))]) (show [7, 6, 4, 0, 1, 2, 3].Nodup by decide) ⟨rfl, rfl, rfl, rfl, rfl, rfl, rfl, trivial⟩ ?_
      exact hQ t (fun i hi => hh i (by omega)) (fun _ _ => rfl)
    · have hbk := xbr_rng (hb k (by omega))
      refine xr_steps (pc' := 343) (L' := [(8, .int (Int32.ofInt (k : Int))), (7, .int (Int32.ofInt (c : Int))), (6, .int (Int32.ofInt (z : Int))), (4, .int (Int32.ofInt (n : Int))), (0, .ref 165), (1, .int (Int32.ofInt (a : Int))), (2, .int (Int32.ofInt (fr : Int))), (3, .int (Int32.ofInt (tt : Int)))]) (st' := [.ref 165]) 1 rfl ?_
      refine xr_getf (v := .ref 187) rfl (ym_165 hA) rfl ?_
      refine xr_steps (pc' := 349) (L' := [(8, .int (Int32.ofInt (k : Int))), (7, .int (Int32.ofInt (c : Int))), (6, .int (Int32.ofInt (z : Int))), (4, .int (Int32.ofInt (n : Int))), (0, .ref 165), (1, .int (Int32.ofInt (a : Int))), (2, .int (Int32.ofInt (fr : Int))), (3, .int (Int32.ofInt (tt : Int)))]) (st' := [.ref 165, .int (Int32.ofInt (k : Int)), .ref 187]) 2 rfl ?_
      refine xr_getf (v := .ref 188) rfl (ym_165 hA) rfl ?_
      refine xr_steps (pc' := 354) (L' := [(8, .int (Int32.ofInt (k : Int))), (7, .int (Int32.ofInt (c : Int))), (6, .int (Int32.ofInt (z : Int))), (4, .int (Int32.ofInt (n : Int))), (0, .ref 165), (1, .int (Int32.ofInt (a : Int))), (2, .int (Int32.ofInt (fr : Int))), (3, .int (Int32.ofInt (tt : Int)))]) (st' := [.int (Int32.ofInt (k : Int)), .ref 188, .int (Int32.ofInt (k : Int)), .ref 187]) 1 rfl ?_
      refine ym_baload (e := t 188 (k : Int).toNat) hA rfl rfl (by decide) (by omega) (by omega) rfl ?_
      rw [show (k : Int).toNat = k by omega]
      refine ym_bastore hA rfl rfl (by decide) (by omega) (by omega) (by omega) ?_
      rw [show (k : Int).toNat = k by omega]
      refine xr_iinc (L' := [(8, .int (Int32.ofInt ((k : Int) + 1))), (7, .int (Int32.ofInt (c : Int))), (6, .int (Int32.ofInt (z : Int))), (4, .int (Int32.ofInt (n : Int))), (0, .ref 165), (1, .int (Int32.ofInt (a : Int))), (2, .int (Int32.ofInt (fr : Int))), (3, .int (Int32.ofInt (tt : Int)))]) rfl rfl rfl ?_
      refine xr_steps (pc' := 335) (L' := [(8, .int (Int32.ofInt ((k : Int) + 1))), (7, .int (Int32.ofInt (c : Int))), (6, .int (Int32.ofInt (z : Int))), (4, .int (Int32.ofInt (n : Int))), (0, .ref 165), (1, .int (Int32.ofInt (a : Int))), (2, .int (Int32.ofInt (fr : Int))), (3, .int (Int32.ofInt (tt : Int)))]) (st' := []) 1 rfl ?_
      refine xr_loc (L := [(8, .int (Int32.ofInt ((k : Int) + 1))), (7, .int (Int32.ofInt (c : Int))), (6, .int (Int32.ofInt (z : Int))), (4, .int (Int32.ofInt (n : Int))), (0, .ref 165), (1, .int (Int32.ofInt (a : Int))), (2, .int (Int32.ofInt (fr : Int))), (3, .int (Int32.ofInt (tt : Int)))]) (show [8, 7, 6, 4, 0, 1, 2, 3].Nodup by decide) ⟨rfl, rfl, rfl, rfl, rfl, rfl, rfl, rfl, trivial⟩ ?_
      rw [show (k : Int) + 1 = ((k + 1 : Nat) : Int) by omega]
      refine ih (j - 1) (by omega) (k + 1) _ (by omega) (fun i hi => xbr_ne (hb i hi) (fun h => by omega)) (fun i hi => ?_) (fun t' h1 h2 => hQ t' h1 (fun x hx => (h2 x hx).trans (ya_up_ne _ _ hx)))
      by_cases e : i = k
      · rw [e]
        exact xbr_up (hb k (by omega))
      · exact xbr_ne (hh i (by omega)) (fun h => e h.2)
/-- the item k takes the letter ch -/
def xtk (it : Nat → Int) (h : Nat → Prop) (ch : Int) (k : Nat) : Prop := h k ∧ (it k = 46 ∨ it k = ch)
def xtr (it r : Nat → Int) (n : Nat) (h : Nat → Prop) (ch : Int) (k : Nat) : Prop := (1 ≤ k ∧ xtk it h ch (k - 1)) ∨ (k < n ∧ xtk it h ch k ∧ ¬ r k = 49)
theorem mo_250s {t : Nat → Nat → Int} {k : Nat} {h h0 h1 : Prop} {it r : Int} (hA : 194 ≤ A.1) (hE : ∀ j : Nat, 0 ≤ t 166 j ∧ t 166 j ≤ 127) (hk : k < n ∧ n ≤ 8) (hc : c < 3711) (hh : xbr t 187 k h) (hb0 : xbr t 188 k h0) (hb1 : xbr t 188 (k + 1) h1) (hit : t 189 k = it ∧ 0 ≤ it ∧ it ≤ 127) (hr : t 190 k = r ∧ 0 ≤ r ∧ r ≤ 127) (hgo : ∀ tk v1 v2 : Int, ((tk = 1 ∧ t 187 k = 1 ∧ (it = 46 ∨ it = t 166 c)) ∨ (tk = 0 ∧ ¬ (t 187 k = 1 ∧ (it = 46 ∨ it = t 166 c)))) → ((v1 = 1 ∧ (t 188 k = 1 ∨ (tk = 1 ∧ ¬ r = 49))) ∨ (v1 = 0 ∧ ¬ (t 188 k = 1 ∨ (tk = 1 ∧ ¬ r = 49)))) → ((v2 = 1 ∧ (t 188 (k + 1) = 1 ∨ tk = 1)) ∨ (v2 = 0 ∧ ¬ (t 188 (k + 1) = 1 ∨ tk = 1))) → xr_ok (xt_G w) d 250 326 [(8, .int (Int32.ofInt (k : Int))), (7, .int (Int32.ofInt (c : Int))), (6, .int (Int32.ofInt (z : Int))), (4, .int (Int32.ofInt (n : Int))), (0, .ref 165), (1, .int (Int32.ofInt (a : Int))), (2, .int (Int32.ofInt (fr : Int))), (3, .int (Int32.ofInt (tt : Int)))] [] (ym A s (va_up (va_up t 188 (va_up (t 188) k v1)) 188 (va_up ((va_up t 188 (va_up (t 188) k v1)) 188) (k + 1) v2))) Q) : xr_ok (xt_G w) d 250 210 [(8, .int (Int32.ofInt (k : Int))), (7, .int (Int32.ofInt (c : Int))), (6, .int (Int32.ofInt (z : Int))), (4, .int (Int32.ofInt (n : Int))), (0, .ref 165), (1, .int (Int32.ofInt (a : Int))), (2, .int (Int32.ofInt (fr : Int))), (3, .int (Int32.ofInt (tt : Int)))] [] (ym A s t) Q := by
  have hhr := xbr_rng hh
  have hb0r := xbr_rng hb0
  have hb1r := xbr_rng hb1
  have hEc := hE c
  refine xr_steps (pc' := 211) (L' := [(8, .int (Int32.ofInt (k : Int))), (7, .int (Int32.ofInt (c : Int))), (6, .int (Int32.ofInt (z : Int))), (4, .int (Int32.ofInt (n : Int))), (0, .ref 165), (1, .int (Int32.ofInt (a : Int))), (2, .int (Int32.ofInt (fr : Int))), (3, .int (Int32.ofInt (tt : Int)))]) (st' := [.ref 165]) 1 rfl ?_
  refine xr_getf (v := .ref 187) rfl (ym_165 hA) rfl ?_
  refine xr_steps (pc' := 216) (L' := [(8, .int (Int32.ofInt (k : Int))), (7, .int (Int32.ofInt (c : Int))), (6, .int (Int32.ofInt (z : Int))), (4, .int (Int32.ofInt (n : Int))), (0, .ref 165), (1, .int (Int32.ofInt (a : Int))), (2, .int (Int32.ofInt (fr : Int))), (3, .int (Int32.ofInt (tt : Int)))]) (st' := [.int (Int32.ofInt (k : Int)), .ref 187]) 1 rfl ?_
  refine ym_baload (e := t 187 (k : Int).toNat) hA rfl rfl (by decide) (by omega) (by omega) rfl ?_
  rw [show (k : Int).toNat = k by omega]
  refine xr_if_eq rfl (by omega) (fun z31 => ?_) (fun z31 => ?_)
  · refine xr_steps (pc' := 254) (L' := [(8, .int (Int32.ofInt (k : Int))), (7, .int (Int32.ofInt (c : Int))), (6, .int (Int32.ofInt (z : Int))), (4, .int (Int32.ofInt (n : Int))), (0, .ref 165), (1, .int (Int32.ofInt (a : Int))), (2, .int (Int32.ofInt (fr : Int))), (3, .int (Int32.ofInt (tt : Int)))]) (st' := [.int (Int32.ofInt 0)]) 1 rfl ?_
    refine xr_steps (pc' := 257) (L' := [(9, .int (Int32.ofInt 0)), (8, .int (Int32.ofInt (k : Int))), (7, .int (Int32.ofInt (c : Int))), (6, .int (Int32.ofInt (z : Int))), (4, .int (Int32.ofInt (n : Int))), (0, .ref 165), (1, .int (Int32.ofInt (a : Int))), (2, .int (Int32.ofInt (fr : Int))), (3, .int (Int32.ofInt (tt : Int)))]) (st' := [.ref 165]) 2 rfl ?_
    refine xr_getf (v := .ref 188) rfl (ym_165 hA) rfl ?_
    refine xr_steps (pc' := 263) (L' := [(9, .int (Int32.ofInt 0)), (8, .int (Int32.ofInt (k : Int))), (7, .int (Int32.ofInt (c : Int))), (6, .int (Int32.ofInt (z : Int))), (4, .int (Int32.ofInt (n : Int))), (0, .ref 165), (1, .int (Int32.ofInt (a : Int))), (2, .int (Int32.ofInt (fr : Int))), (3, .int (Int32.ofInt (tt : Int)))]) (st' := [.ref 165, .int (Int32.ofInt (k : Int)), .ref 188]) 2 rfl ?_
    refine xr_getf (v := .ref 188) rfl (ym_165 hA) rfl ?_
    refine xr_steps (pc' := 268) (L' := [(9, .int (Int32.ofInt 0)), (8, .int (Int32.ofInt (k : Int))), (7, .int (Int32.ofInt (c : Int))), (6, .int (Int32.ofInt (z : Int))), (4, .int (Int32.ofInt (n : Int))), (0, .ref 165), (1, .int (Int32.ofInt (a : Int))), (2, .int (Int32.ofInt (fr : Int))), (3, .int (Int32.ofInt (tt : Int)))]) (st' := [.int (Int32.ofInt (k : Int)), .ref 188, .int (Int32.ofInt (k : Int)), .ref 188]) 1 rfl ?_
    refine ym_baload (e := t 188 (k : Int).toNat) hA rfl rfl (by decide) (by omega) (by omega) rfl ?_
    rw [show (k : Int).toNat = k by omega]
    refine xr_if_ne rfl (by omega) (fun z32 => ?_) (fun z32 => ?_)
    · refine xr_steps (pc' := 294) (L' := [(9, .int (Int32.ofInt 0)), (8, .int (Int32.ofInt (k : Int))), (7, .int (Int32.ofInt (c : Int))), (6, .int (Int32.ofInt (z : Int))), (4, .int (Int32.ofInt (n : Int))), (0, .ref 165), (1, .int (Int32.ofInt (a : Int))), (2, .int (Int32.ofInt (fr : Int))), (3, .int (Int32.ofInt (tt : Int)))]) (st' := [.int (Int32.ofInt 1), .int (Int32.ofInt (k : Int)), .ref 188]) 2 rfl ?_
      refine ym_bastore hA rfl rfl (by decide) (by omega) (by omega) (by omega) ?_
      rw [show (k : Int).toNat = k by omega]
      refine xr_steps (pc' := 296) (L' := [(9, .int (Int32.ofInt 0)), (8, .int (Int32.ofInt (k : Int))), (7, .int (Int32.ofInt (c : Int))), (6, .int (Int32.ofInt (z : Int))), (4, .int (Int32.ofInt (n : Int))), (0, .ref 165), (1, .int (Int32.ofInt (a : Int))), (2, .int (Int32.ofInt (fr : Int))), (3, .int (Int32.ofInt (tt : Int)))]) (st' := [.ref 165]) 1 rfl ?_
      refine xr_getf (v := .ref 188) rfl (ym_165 hA) rfl ?_
      refine xr_steps (pc' := 302) (L' := [(9, .int (Int32.ofInt 0)), (8, .int (Int32.ofInt (k : Int))), (7, .int (Int32.ofInt (c : Int))), (6, .int (Int32.ofInt (z : Int))), (4, .int (Int32.ofInt (n : Int))), (0, .ref 165), (1, .int (Int32.ofInt (a : Int))), (2, .int (Int32.ofInt (fr : Int))), (3, .int (Int32.ofInt (tt : Int)))]) (st' := [.int (Int32.ofInt 1), .int (Int32.ofInt (k : Int)), .ref 188]) 2 rfl ?_
      refine xr_iadd rfl ?_
      refine xr_steps (pc' := 304) (L' := [(9, .int (Int32.ofInt 0)), (8, .int (Int32.ofInt (k : Int))), (7, .int (Int32.ofInt (c : Int))), (6, .int (Int32.ofInt (z : Int))), (4, .int (Int32.ofInt (n : Int))), (0, .ref 165), (1, .int (Int32.ofInt (a : Int))), (2, .int (Int32.ofInt (fr : Int))), (3, .int (Int32.ofInt (tt : Int)))]) (st' := [.ref 165, .int (Int32.ofInt ((k : Int) + 1)), .ref 188]) 1 rfl ?_
      refine xr_getf (v := .ref 188) rfl (ym_165 hA) rfl ?_
      refine xr_steps (pc' := 310) (L' := [(9, .int (Int32.ofInt 0)), (8, .int (Int32.ofInt (k : Int))), (7, .int (Int32.ofInt (c : Int))), (6, .int (Int32.ofInt (z : Int))), (4, .int (Int32.ofInt (n : Int))), (0, .ref 165), (1, .int (Int32.ofInt (a : Int))), (2, .int (Int32.ofInt (fr : Int))), (3, .int (Int32.ofInt (tt : Int)))]) (st' := [.int (Int32.ofInt 1), .int (Int32.ofInt (k : Int)), .ref 188, .int (Int32.ofInt ((k : Int) + 1)), .ref 188]) 2 rfl ?_
      refine xr_iadd rfl ?_
      refine ym_baload (e := (va_up t 188 (va_up (t 188) k 1)) 188 ((k : Int) + 1).toNat) hA rfl rfl (by decide) (by omega) (by omega) rfl ?_
      rw [show ((k : Int) + 1).toNat = k + 1 by omega]
      rw [show (va_up t 188 (va_up (t 188) k 1)) 188 (k + 1) = t 188 (k + 1) by rw [ya_up_same, ya_up_ne _ _ (by omega)]]
      refine xr_if_ne rfl (by omega) (fun z33 => ?_) (fun z33 => ?_)
      · refine xr_steps (pc' := 325) (L' := [(9, .int (Int32.ofInt 0)), (8, .int (Int32.ofInt (k : Int))), (7, .int (Int32.ofInt (c : Int))), (6, .int (Int32.ofInt (z : Int))), (4, .int (Int32.ofInt (n : Int))), (0, .ref 165), (1, .int (Int32.ofInt (a : Int))), (2, .int (Int32.ofInt (fr : Int))), (3, .int (Int32.ofInt (tt : Int)))]) (st' := [.int (Int32.ofInt 1), .int (Int32.ofInt ((k : Int) + 1)), .ref 188]) 2 rfl ?_
        refine ym_bastore hA rfl rfl (by decide) (by omega) (by omega) (by omega) ?_
        rw [show ((k : Int) + 1).toNat = k + 1 by omega]
        refine xr_loc (L := [(8, .int (Int32.ofInt (k : Int))), (7, .int (Int32.ofInt (c : Int))), (6, .int (Int32.ofInt (z : Int))), (4, .int (Int32.ofInt (n : Int))), (0, .ref 165), (1, .int (Int32.ofInt (a : Int))), (2, .int (Int32.ofInt (fr : Int))), (3, .int (Int32.ofInt (tt : Int)))]) (show [8, 7, 6, 4, 0, 1, 2, 3].Nodup by decide) ⟨rfl, rfl, rfl, rfl, rfl, rfl, rfl, rfl, trivial⟩ ?_
        exact hgo 0 1 1 (by omega) (by omega) (by omega)
      · refine xr_steps (pc' := 317) (L' := [(9, .int (Int32.ofInt 0)), (8, .int (Int32.ofInt (k : Int))), (7, .int (Int32.ofInt (c : Int))), (6, .int (Int32.ofInt (z : Int))), (4, .int (Int32.ofInt (n : Int))), (0, .ref 165), (1, .int (Int32.ofInt (a : Int))), (2, .int (Int32.ofInt (fr : Int))), (3, .int (Int32.ofInt (tt : Int)))]) (st' := [.int (Int32.ofInt 0), .int (Int32.ofInt ((k : Int) + 1)), .ref 188]) 1 rfl ?_
        refine xr_if_eq rfl (by omega) (fun z34 => ?_) (fun z34 => ?_)
        · refine xr_steps (pc' := 325) (L' := [(9, .int (Int32.ofInt 0)), (8, .int (Int32.ofInt (k : Int))), (7, .int (Int32.ofInt (c : Int))), (6, .int (Int32.ofInt (z : Int))), (4, .int (Int32.ofInt (n : Int))), (0, .ref 165), (1, .int (Int32.ofInt (a : Int))), (2, .int (Int32.ofInt (fr : Int))), (3, .int (Int32.ofInt (tt : Int)))]) (st' := [.int (Int32.ofInt 0), .int (Int32.ofInt ((k : Int) + 1)), .ref 188]) 1 rfl ?_
          refine ym_bastore hA rfl rfl (by decide) (by omega) (by omega) (by omega) ?_
          rw [show ((k : Int) + 1).toNat = k + 1 by omega]
          refine xr_loc (L := [(8, .int (Int32.ofInt (k : Int))), (7, .int (Int32.ofInt (c : Int))), (6, .int (Int32.ofInt (z : Int))), (4, .int (Int32.ofInt (n : Int))), (0, .ref 165), (1, .int (Int32.ofInt (a : Int))), (2, .int (Int32.ofInt (fr : Int))), (3, .int (Int32.ofInt (tt : Int)))]) (show [8, 7, 6, 4, 0, 1, 2, 3].Nodup by decide) ⟨rfl, rfl, rfl, rfl, rfl, rfl, rfl, rfl, trivial⟩ ?_
          exact hgo 0 1 0 (by omega) (by omega) (by omega)
        · exfalso; omega
    · refine xr_steps (pc' := 274) (L' := [(9, .int (Int32.ofInt 0)), (8, .int (Int32.ofInt (k : Int))), (7, .int (Int32.ofInt (c : Int))), (6, .int (Int32.ofInt (z : Int))), (4, .int (Int32.ofInt (n : Int))), (0, .ref 165), (1, .int (Int32.ofInt (a : Int))), (2, .int (Int32.ofInt (fr : Int))), (3, .int (Int32.ofInt (tt : Int)))]) (st' := [.int (Int32.ofInt 0), .int (Int32.ofInt (k : Int)), .ref 188]) 1 rfl ?_
      refine xr_if_eq rfl (by omega) (fun z35 => ?_) (fun z35 => ?_)
      · refine xr_steps (pc' := 294) (L' := [(9, .int (Int32.ofInt 0)), (8, .int (Int32.ofInt (k : Int))), (7, .int (Int32.ofInt (c : Int))), (6, .int (Int32.ofInt (z : Int))), (4, .int (Int32.ofInt (n : Int))), (0, .ref 165), (1, .int (Int32.ofInt (a : Int))), (2, .int (Int32.ofInt (fr : Int))), (3, .int (Int32.ofInt (tt : Int)))]) (st' := [.int (Int32.ofInt 0), .int (Int32.ofInt (k : Int)), .ref 188]) 1 rfl ?_
        refine ym_bastore hA rfl rfl (by decide) (by omega) (by omega) (by omega) ?_
        rw [show (k : Int).toNat = k by omega]
        refine xr_steps (pc' := 296) (L' := [(9, .int (Int32.ofInt 0)), (8, .int (Int32.ofInt (k : Int))), (7, .int (Int32.ofInt (c : Int))), (6, .int (Int32.ofInt (z : Int))), (4, .int (Int32.ofInt (n : Int))), (0, .ref 165), (1, .int (Int32.ofInt (a : Int))), (2, .int (Int32.ofInt (fr : Int))), (3, .int (Int32.ofInt (tt : Int)))]) (st' := [.ref 165]) 1 rfl ?_
        refine xr_getf (v := .ref 188) rfl (ym_165 hA) rfl ?_
        refine xr_steps (pc' := 302) (L' := [(9, .int (Int32.ofInt 0)), (8, .int (Int32.ofInt (k : Int))), (7, .int (Int32.ofInt (c : Int))), (6, .int (Int32.ofInt (z : Int))), (4, .int (Int32.ofInt (n : Int))), (0, .ref 165), (1, .int (Int32.ofInt (a : Int))), (2, .int (Int32.ofInt (fr : Int))), (3, .int (Int32.ofInt (tt : Int)))]) (st' := [.int (Int32.ofInt 1), .int (Int32.ofInt (k : Int)), .ref 188]) 2 rfl ?_
        refine xr_iadd rfl ?_
        refine xr_steps (pc' := 304) (L' := [(9, .int (Int32.ofInt 0)), (8, .int (Int32.ofInt (k : Int))), (7, .int (Int32.ofInt (c : Int))), (6, .int (Int32.ofInt (z : Int))), (4, .int (Int32.ofInt (n : Int))), (0, .ref 165), (1, .int (Int32.ofInt (a : Int))), (2, .int (Int32.ofInt (fr : Int))), (3, .int (Int32.ofInt (tt : Int)))]) (st' := [.ref 165, .int (Int32.ofInt ((k : Int) + 1)), .ref 188]) 1 rfl ?_
        refine xr_getf (v := .ref 188) rfl (ym_165 hA) rfl ?_
        refine xr_steps (pc' := 310) (L' := [(9, .int (Int32.ofInt 0)), (8, .int (Int32.ofInt (k : Int))), (7, .int (Int32.ofInt (c : Int))), (6, .int (Int32.ofInt (z : Int))), (4, .int (Int32.ofInt (n : Int))), (0, .ref 165), (1, .int (Int32.ofInt (a : Int))), (2, .int (Int32.ofInt (fr : Int))), (3, .int (Int32.ofInt (tt : Int)))]) (st' := [.int (Int32.ofInt 1), .int (Int32.ofInt (k : Int)), .ref 188, .int (Int32.ofInt ((k : Int) + 1)), .ref 188]) 2 rfl ?_
        refine xr_iadd rfl ?_
        refine ym_baload (e := (va_up t 188 (va_up (t 188) k 0)) 188 ((k : Int) + 1).toNat) hA rfl rfl (by decide) (by omega) (by omega) rfl ?_
        rw [show ((k : Int) + 1).toNat = k + 1 by omega]
        rw [show (va_up t 188 (va_up (t 188) k 0)) 188 (k + 1) = t 188 (k + 1) by rw [ya_up_same, ya_up_ne _ _ (by omega)]]
        refine xr_if_ne rfl (by omega) (fun z36 => ?_) (fun z36 => ?_)
        · refine xr_steps (pc' := 325) (L' := [(9, .int (Int32.ofInt 0)), (8, .int (Int32.ofInt (k : Int))), (7, .int (Int32.ofInt (c : Int))), (6, .int (Int32.ofInt (z : Int))), (4, .int (Int32.ofInt (n : Int))), (0, .ref 165), (1, .int (Int32.ofInt (a : Int))), (2, .int (Int32.ofInt (fr : Int))), (3, .int (Int32.ofInt (tt : Int)))]) (st' := [.int (Int32.ofInt 1), .int (Int32.ofInt ((k : Int) + 1)), .ref 188]) 2 rfl ?_
          refine ym_bastore hA rfl rfl (by decide) (by omega) (by omega) (by omega) ?_
          rw [show ((k : Int) + 1).toNat = k + 1 by omega]
          refine xr_loc (L := [(8, .int (Int32.ofInt (k : Int))), (7, .int (Int32.ofInt (c : Int))), (6, .int (Int32.ofInt (z : Int))), (4, .int (Int32.ofInt (n : Int))), (0, .ref 165), (1, .int (Int32.ofInt (a : Int))), (2, .int (Int32.ofInt (fr : Int))), (3, .int (Int32.ofInt (tt : Int)))]) (show [8, 7, 6, 4, 0, 1, 2, 3].Nodup by decide) ⟨rfl, rfl, rfl, rfl, rfl, rfl, rfl, rfl, trivial⟩ ?_
          exact hgo 0 0 1 (by omega) (by omega) (by omega)
        · refine xr_steps (pc' := 317) (L' := [(9, .int (Int32.ofInt 0)), (8, .int (Int32.ofInt (k : Int))), (7, .int (Int32.ofInt (c : Int))), (6, .int (Int32.ofInt (z : Int))), (4, .int (Int32.ofInt (n : Int))), (0, .ref 165), (1, .int (Int32.ofInt (a : Int))), (2, .int (Int32.ofInt (fr : Int))), (3, .int (Int32.ofInt (tt : Int)))]) (st' := [.int (Int32.ofInt 0), .int (Int32.ofInt ((k : Int) + 1)), .ref 188]) 1 rfl ?_
          refine xr_if_eq rfl (by omega) (fun z37 => ?_) (fun z37 => ?_)
          · refine xr_steps (pc' := 325) (L' := [(9, .int (Int32.ofInt 0)), (8, .int (Int32.ofInt (k : Int))), (7, .int (Int32.ofInt (c : Int))), (6, .int (Int32.ofInt (z : Int))), (4, .int (Int32.ofInt (n : Int))), (0, .ref 165), (1, .int (Int32.ofInt (a : Int))), (2, .int (Int32.ofInt (fr : Int))), (3, .int (Int32.ofInt (tt : Int)))]) (st' := [.int (Int32.ofInt 0), .int (Int32.ofInt ((k : Int) + 1)), .ref 188]) 1 rfl ?_
            refine ym_bastore hA rfl rfl (by decide) (by omega) (by omega) (by omega) ?_
            rw [show ((k : Int) + 1).toNat = k + 1 by omega]
            refine xr_loc (L := [(8, .int (Int32.ofInt (k : Int))), (7, .int (Int32.ofInt (c : Int))), (6, .int (Int32.ofInt (z : Int))), (4, .int (Int32.ofInt (n : Int))), (0, .ref 165), (1, .int (Int32.ofInt (a : Int))), (2, .int (Int32.ofInt (fr : Int))), (3, .int (Int32.ofInt (tt : Int)))]) (show [8, 7, 6, 4, 0, 1, 2, 3].Nodup by decide) ⟨rfl, rfl, rfl, rfl, rfl, rfl, rfl, rfl, trivial⟩ ?_
            exact hgo 0 0 0 (by omega) (by omega) (by omega)
          · exfalso; omega
      · exfalso; omega
  · refine xr_steps (pc' := 221) (L' := [(8, .int (Int32.ofInt (k : Int))), (7, .int (Int32.ofInt (c : Int))), (6, .int (Int32.ofInt (z : Int))), (4, .int (Int32.ofInt (n : Int))), (0, .ref 165), (1, .int (Int32.ofInt (a : Int))), (2, .int (Int32.ofInt (fr : Int))), (3, .int (Int32.ofInt (tt : Int)))]) (st' := [.ref 165]) 1 rfl ?_
    refine xr_getf (v := .ref 189) rfl (ym_165 hA) rfl ?_
    refine xr_steps (pc' := 226) (L' := [(8, .int (Int32.ofInt (k : Int))), (7, .int (Int32.ofInt (c : Int))), (6, .int (Int32.ofInt (z : Int))), (4, .int (Int32.ofInt (n : Int))), (0, .ref 165), (1, .int (Int32.ofInt (a : Int))), (2, .int (Int32.ofInt (fr : Int))), (3, .int (Int32.ofInt (tt : Int)))]) (st' := [.int (Int32.ofInt (k : Int)), .ref 189]) 1 rfl ?_
    refine ym_caload (e := t 189 (k : Int).toNat) hA rfl rfl (by decide) (by omega) (by omega) rfl ?_
    rw [show (k : Int).toNat = k by omega]
    refine xr_steps (pc' := 229) (L' := [(8, .int (Int32.ofInt (k : Int))), (7, .int (Int32.ofInt (c : Int))), (6, .int (Int32.ofInt (z : Int))), (4, .int (Int32.ofInt (n : Int))), (0, .ref 165), (1, .int (Int32.ofInt (a : Int))), (2, .int (Int32.ofInt (fr : Int))), (3, .int (Int32.ofInt (tt : Int)))]) (st' := [.int (Int32.ofInt 46), .int (Int32.ofInt (t 189 k))]) 1 rfl ?_
    refine xr_icmp_eq rfl (by omega) (by omega) (fun z38 => ?_) (fun z38 => ?_)
    · refine xr_steps (pc' := 254) (L' := [(8, .int (Int32.ofInt (k : Int))), (7, .int (Int32.ofInt (c : Int))), (6, .int (Int32.ofInt (z : Int))), (4, .int (Int32.ofInt (n : Int))), (0, .ref 165), (1, .int (Int32.ofInt (a : Int))), (2, .int (Int32.ofInt (fr : Int))), (3, .int (Int32.ofInt (tt : Int)))]) (st' := [.int (Int32.ofInt 1)]) 2 rfl ?_
      refine xr_steps (pc' := 257) (L' := [(9, .int (Int32.ofInt 1)), (8, .int (Int32.ofInt (k : Int))), (7, .int (Int32.ofInt (c : Int))), (6, .int (Int32.ofInt (z : Int))), (4, .int (Int32.ofInt (n : Int))), (0, .ref 165), (1, .int (Int32.ofInt (a : Int))), (2, .int (Int32.ofInt (fr : Int))), (3, .int (Int32.ofInt (tt : Int)))]) (st' := [.ref 165]) 2 rfl ?_
      refine xr_getf (v := .ref 188) rfl (ym_165 hA) rfl ?_
      refine xr_steps (pc' := 263) (L' := [(9, .int (Int32.ofInt 1)), (8, .int (Int32.ofInt (k : Int))), (7, .int (Int32.ofInt (c : Int))), (6, .int (Int32.ofInt (z : Int))), (4, .int (Int32.ofInt (n : Int))), (0, .ref 165), (1, .int (Int32.ofInt (a : Int))), (2, .int (Int32.ofInt (fr : Int))), (3, .int (Int32.ofInt (tt : Int)))]) (st' := [.ref 165, .int (Int32.ofInt (k : Int)), .ref 188]) 2 rfl ?_
      refine xr_getf (v := .ref 188) rfl (ym_165 hA) rfl ?_
      refine xr_steps (pc' := 268) (L' := [(9, .int (Int32.ofInt 1)), (8, .int (Int32.ofInt (k : Int))), (7, .int (Int32.ofInt (c : Int))), (6, .int (Int32.ofInt (z : Int))), (4, .int (Int32.ofInt (n : Int))), (0, .ref 165), (1, .int (Int32.ofInt (a : Int))), (2, .int (Int32.ofInt (fr : Int))), (3, .int (Int32.ofInt (tt : Int)))]) (st' := [.int (Int32.ofInt (k : Int)), .ref 188, .int (Int32.ofInt (k : Int)), .ref 188]) 1 rfl ?_
      refine ym_baload (e := t 188 (k : Int).toNat) hA rfl rfl (by decide) (by omega) (by omega) rfl ?_
      rw [show (k : Int).toNat = k by omega]
      refine xr_if_ne rfl (by omega) (fun z39 => ?_) (fun z39 => ?_)
      · refine xr_steps (pc' := 294) (L' := [(9, .int (Int32.ofInt 1)), (8, .int (Int32.ofInt (k : Int))), (7, .int (Int32.ofInt (c : Int))), (6, .int (Int32.ofInt (z : Int))), (4, .int (Int32.ofInt (n : Int))), (0, .ref 165), (1, .int (Int32.ofInt (a : Int))), (2, .int (Int32.ofInt (fr : Int))), (3, .int (Int32.ofInt (tt : Int)))]) (st' := [.int (Int32.ofInt 1), .int (Int32.ofInt (k : Int)), .ref 188]) 2 rfl ?_
        refine ym_bastore hA rfl rfl (by decide) (by omega) (by omega) (by omega) ?_
        rw [show (k : Int).toNat = k by omega]
        refine xr_steps (pc' := 296) (L' := [(9, .int (Int32.ofInt 1)), (8, .int (Int32.ofInt (k : Int))), (7, .int (Int32.ofInt (c : Int))), (6, .int (Int32.ofInt (z : Int))), (4, .int (Int32.ofInt (n : Int))), (0, .ref 165), (1, .int (Int32.ofInt (a : Int))), (2, .int (Int32.ofInt (fr : Int))), (3, .int (Int32.ofInt (tt : Int)))]) (st' := [.ref 165]) 1 rfl ?_
        refine xr_getf (v := .ref 188) rfl (ym_165 hA) rfl ?_
        refine xr_steps (pc' := 302) (L' := [(9, .int (Int32.ofInt 1)), (8, .int (Int32.ofInt (k : Int))), (7, .int (Int32.ofInt (c : Int))), (6, .int (Int32.ofInt (z : Int))), (4, .int (Int32.ofInt (n : Int))), (0, .ref 165), (1, .int (Int32.ofInt (a : Int))), (2, .int (Int32.ofInt (fr : Int))), (3, .int (Int32.ofInt (tt : Int)))]) (st' := [.int (Int32.ofInt 1), .int (Int32.ofInt (k : Int)), .ref 188]) 2 rfl ?_
        refine xr_iadd rfl ?_
        refine xr_steps (pc' := 304) (L' := [(9, .int (Int32.ofInt 1)), (8, .int (Int32.ofInt (k : Int))), (7, .int (Int32.ofInt (c : Int))), (6, .int (Int32.ofInt (z : Int))), (4, .int (Int32.ofInt (n : Int))), (0, .ref 165), (1, .int (Int32.ofInt (a : Int))), (2, .int (Int32.ofInt (fr : Int))), (3, .int (Int32.ofInt (tt : Int)))]) (st' := [.ref 165, .int (Int32.ofInt ((k : Int) + 1)), .ref 188]) 1 rfl ?_
        refine xr_getf (v := .ref 188) rfl (ym_165 hA) rfl ?_
        refine xr_steps (pc' := 310) (L' := [(9, .int (Int32.ofInt 1)), (8, .int (Int32.ofInt (k : Int))), (7, .int (Int32.ofInt (c : Int))), (6, .int (Int32.ofInt (z : Int))), (4, .int (Int32.ofInt (n : Int))), (0, .ref 165), (1, .int (Int32.ofInt (a : Int))), (2, .int (Int32.ofInt (fr : Int))), (3, .int (Int32.ofInt (tt : Int)))]) (st' := [.int (Int32.ofInt 1), .int (Int32.ofInt (k : Int)), .ref 188, .int (Int32.ofInt ((k : Int) + 1)), .ref 188]) 2 rfl ?_
        refine xr_iadd rfl ?_
        refine ym_baload (e := (va_up t 188 (va_up (t 188) k 1)) 188 ((k : Int) + 1).toNat) hA rfl rfl (by decide) (by omega) (by omega) rfl ?_
        rw [show ((k : Int) + 1).toNat = k + 1 by omega]
        rw [show (va_up t 188 (va_up (t 188) k 1)) 188 (k + 1) = t 188 (k + 1) by rw [ya_up_same, ya_up_ne _ _ (by omega)]]
        refine xr_if_ne rfl (by omega) (fun z40 => ?_) (fun z40 => ?_)
        · refine xr_steps (pc' := 325) (L' := [(9, .int (Int32.ofInt 1)), (8, .int (Int32.ofInt (k : Int))), (7, .int (Int32.ofInt (c : Int))), (6, .int (Int32.ofInt (z : Int))), (4, .int (Int32.ofInt (n : Int))), (0, .ref 165), (1, .int (Int32.ofInt (a : Int))), (2, .int (Int32.ofInt (fr : Int))), (3, .int (Int32.ofInt (tt : Int)))]) (st' := [.int (Int32.ofInt 1), .int (Int32.ofInt ((k : Int) + 1)), .ref 188]) 2 rfl ?_
          refine ym_bastore hA rfl rfl (by decide) (by omega) (by omega) (by omega) ?_
          rw [show ((k : Int) + 1).toNat = k + 1 by omega]
          refine xr_loc (L := [(8, .int (Int32.ofInt (k : Int))), (7, .int (Int32.ofInt (c : Int))), (6, .int (Int32.ofInt (z : Int))), (4, .int (Int32.ofInt (n : Int))), (0, .ref 165), (1, .int (Int32.ofInt (a : Int))), (2, .int (Int32.ofInt (fr : Int))), (3, .int (Int32.ofInt (tt : Int)))]) (show [8, 7, 6, 4, 0, 1, 2, 3].Nodup by decide) ⟨rfl, rfl, rfl, rfl, rfl, rfl, rfl, rfl, trivial⟩ ?_
          exact hgo 1 1 1 (by omega) (by omega) (by omega)
        · refine xr_steps (pc' := 317) (L' := [(9, .int (Int32.ofInt 1)), (8, .int (Int32.ofInt (k : Int))), (7, .int (Int32.ofInt (c : Int))), (6, .int (Int32.ofInt (z : Int))), (4, .int (Int32.ofInt (n : Int))), (0, .ref 165), (1, .int (Int32.ofInt (a : Int))), (2, .int (Int32.ofInt (fr : Int))), (3, .int (Int32.ofInt (tt : Int)))]) (st' := [.int (Int32.ofInt 1), .int (Int32.ofInt ((k : Int) + 1)), .ref 188]) 1 rfl ?_
          refine xr_if_eq rfl (by omega) (fun z41 => ?_) (fun z41 => ?_)
          · exfalso; omega
          · refine xr_steps (pc' := 325) (L' := [(9, .int (Int32.ofInt 1)), (8, .int (Int32.ofInt (k : Int))), (7, .int (Int32.ofInt (c : Int))), (6, .int (Int32.ofInt (z : Int))), (4, .int (Int32.ofInt (n : Int))), (0, .ref 165), (1, .int (Int32.ofInt (a : Int))), (2, .int (Int32.ofInt (fr : Int))), (3, .int (Int32.ofInt (tt : Int)))]) (st' := [.int (Int32.ofInt 1), .int (Int32.ofInt ((k : Int) + 1)), .ref 188]) 2 rfl ?_
            refine ym_bastore hA rfl rfl (by decide) (by omega) (by omega) (by omega) ?_
            rw [show ((k : Int) + 1).toNat = k + 1 by omega]
            refine xr_loc (L := [(8, .int (Int32.ofInt (k : Int))), (7, .int (Int32.ofInt (c : Int))), (6, .int (Int32.ofInt (z : Int))), (4, .int (Int32.ofInt (n : Int))), (0, .ref 165), (1, .int (Int32.ofInt (a : Int))), (2, .int (Int32.ofInt (fr : Int))), (3, .int (Int32.ofInt (tt : Int)))]) (show [8, 7, 6, 4, 0, 1, 2, 3].Nodup by decide) ⟨rfl, rfl, rfl, rfl, rfl, rfl, rfl, rfl, trivial⟩ ?_
            exact hgo 1 1 1 (by omega) (by omega) (by omega)
      · refine xr_steps (pc' := 274) (L' := [(9, .int (Int32.ofInt 1)), (8, .int (Int32.ofInt (k : Int))), (7, .int (Int32.ofInt (c : Int))), (6, .int (Int32.ofInt (z : Int))), (4, .int (Int32.ofInt (n : Int))), (0, .ref 165), (1, .int (Int32.ofInt (a : Int))), (2, .int (Int32.ofInt (fr : Int))), (3, .int (Int32.ofInt (tt : Int)))]) (st' := [.int (Int32.ofInt 1), .int (Int32.ofInt (k : Int)), .ref 188]) 1 rfl ?_
        refine xr_if_eq rfl (by omega) (fun z42 => ?_) (fun z42 => ?_)
        · exfalso; omega
        · refine xr_steps (pc' := 278) (L' := [(9, .int (Int32.ofInt 1)), (8, .int (Int32.ofInt (k : Int))), (7, .int (Int32.ofInt (c : Int))), (6, .int (Int32.ofInt (z : Int))), (4, .int (Int32.ofInt (n : Int))), (0, .ref 165), (1, .int (Int32.ofInt (a : Int))), (2, .int (Int32.ofInt (fr : Int))), (3, .int (Int32.ofInt (tt : Int)))]) (st' := [.ref 165, .int (Int32.ofInt (k : Int)), .ref 188]) 1 rfl ?_
          refine xr_getf (v := .ref 190) rfl (ym_165 hA) rfl ?_
          refine xr_steps (pc' := 283) (L' := [(9, .int (Int32.ofInt 1)), (8, .int (Int32.ofInt (k : Int))), (7, .int (Int32.ofInt (c : Int))), (6, .int (Int32.ofInt (z : Int))), (4, .int (Int32.ofInt (n : Int))), (0, .ref 165), (1, .int (Int32.ofInt (a : Int))), (2, .int (Int32.ofInt (fr : Int))), (3, .int (Int32.ofInt (tt : Int)))]) (st' := [.int (Int32.ofInt (k : Int)), .ref 190, .int (Int32.ofInt (k : Int)), .ref 188]) 1 rfl ?_
          refine ym_caload (e := t 190 (k : Int).toNat) hA rfl rfl (by decide) (by omega) (by omega) rfl ?_
          rw [show (k : Int).toNat = k by omega]
          refine xr_steps (pc' := 286) (L' := [(9, .int (Int32.ofInt 1)), (8, .int (Int32.ofInt (k : Int))), (7, .int (Int32.ofInt (c : Int))), (6, .int (Int32.ofInt (z : Int))), (4, .int (Int32.ofInt (n : Int))), (0, .ref 165), (1, .int (Int32.ofInt (a : Int))), (2, .int (Int32.ofInt (fr : Int))), (3, .int (Int32.ofInt (tt : Int)))]) (st' := [.int (Int32.ofInt 49), .int (Int32.ofInt (t 190 k)), .int (Int32.ofInt (k : Int)), .ref 188]) 1 rfl ?_
          refine xr_icmp_eq rfl (by omega) (by omega) (fun z43 => ?_) (fun z43 => ?_)
          · refine xr_steps (pc' := 294) (L' := [(9, .int (Int32.ofInt 1)), (8, .int (Int32.ofInt (k : Int))), (7, .int (Int32.ofInt (c : Int))), (6, .int (Int32.ofInt (z : Int))), (4, .int (Int32.ofInt (n : Int))), (0, .ref 165), (1, .int (Int32.ofInt (a : Int))), (2, .int (Int32.ofInt (fr : Int))), (3, .int (Int32.ofInt (tt : Int)))]) (st' := [.int (Int32.ofInt 0), .int (Int32.ofInt (k : Int)), .ref 188]) 1 rfl ?_
            refine ym_bastore hA rfl rfl (by decide) (by omega) (by omega) (by omega) ?_
            rw [show (k : Int).toNat = k by omega]
            refine xr_steps (pc' := 296) (L' := [(9, .int (Int32.ofInt 1)), (8, .int (Int32.ofInt (k : Int))), (7, .int (Int32.ofInt (c : Int))), (6, .int (Int32.ofInt (z : Int))), (4, .int (Int32.ofInt (n : Int))), (0, .ref 165), (1, .int (Int32.ofInt (a : Int))), (2, .int (Int32.ofInt (fr : Int))), (3, .int (Int32.ofInt (tt : Int)))]) (st' := [.ref 165]) 1 rfl ?_
            refine xr_getf (v := .ref 188) rfl (ym_165 hA) rfl ?_
            refine xr_steps (pc' := 302) (L' := [(9, .int (Int32.ofInt 1)), (8, .int (Int32.ofInt (k : Int))), (7, .int (Int32.ofInt (c : Int))), (6, .int (Int32.ofInt (z : Int))), (4, .int (Int32.ofInt (n : Int))), (0, .ref 165), (1, .int (Int32.ofInt (a : Int))), (2, .int (Int32.ofInt (fr : Int))), (3, .int (Int32.ofInt (tt : Int)))]) (st' := [.int (Int32.ofInt 1), .int (Int32.ofInt (k : Int)), .ref 188]) 2 rfl ?_
            refine xr_iadd rfl ?_
            refine xr_steps (pc' := 304) (L' := [(9, .int (Int32.ofInt 1)), (8, .int (Int32.ofInt (k : Int))), (7, .int (Int32.ofInt (c : Int))), (6, .int (Int32.ofInt (z : Int))), (4, .int (Int32.ofInt (n : Int))), (0, .ref 165), (1, .int (Int32.ofInt (a : Int))), (2, .int (Int32.ofInt (fr : Int))), (3, .int (Int32.ofInt (tt : Int)))]) (st' := [.ref 165, .int (Int32.ofInt ((k : Int) + 1)), .ref 188]) 1 rfl ?_
            refine xr_getf (v := .ref 188) rfl (ym_165 hA) rfl ?_
            refine xr_steps (pc' := 310) (L' := [(9, .int (Int32.ofInt 1)), (8, .int (Int32.ofInt (k : Int))), (7, .int (Int32.ofInt (c : Int))), (6, .int (Int32.ofInt (z : Int))), (4, .int (Int32.ofInt (n : Int))), (0, .ref 165), (1, .int (Int32.ofInt (a : Int))), (2, .int (Int32.ofInt (fr : Int))), (3, .int (Int32.ofInt (tt : Int)))]) (st' := [.int (Int32.ofInt 1), .int (Int32.ofInt (k : Int)), .ref 188, .int (Int32.ofInt ((k : Int) + 1)), .ref 188]) 2 rfl ?_
            refine xr_iadd rfl ?_
            refine ym_baload (e := (va_up t 188 (va_up (t 188) k 0)) 188 ((k : Int) + 1).toNat) hA rfl rfl (by decide) (by omega) (by omega) rfl ?_
            rw [show ((k : Int) + 1).toNat = k + 1 by omega]
            rw [show (va_up t 188 (va_up (t 188) k 0)) 188 (k + 1) = t 188 (k + 1) by rw [ya_up_same, ya_up_ne _ _ (by omega)]]
            refine xr_if_ne rfl (by omega) (fun z44 => ?_) (fun z44 => ?_)
            · refine xr_steps (pc' := 325) (L' := [(9, .int (Int32.ofInt 1)), (8, .int (Int32.ofInt (k : Int))), (7, .int (Int32.ofInt (c : Int))), (6, .int (Int32.ofInt (z : Int))), (4, .int (Int32.ofInt (n : Int))), (0, .ref 165), (1, .int (Int32.ofInt (a : Int))), (2, .int (Int32.ofInt (fr : Int))), (3, .int (Int32.ofInt (tt : Int)))]) (st' := [.int (Int32.ofInt 1), .int (Int32.ofInt ((k : Int) + 1)), .ref 188]) 2 rfl ?_
              refine ym_bastore hA rfl rfl (by decide) (by omega) (by omega) (by omega) ?_
              rw [show ((k : Int) + 1).toNat = k + 1 by omega]
              refine xr_loc (L := [(8, .int (Int32.ofInt (k : Int))), (7, .int (Int32.ofInt (c : Int))), (6, .int (Int32.ofInt (z : Int))), (4, .int (Int32.ofInt (n : Int))), (0, .ref 165), (1, .int (Int32.ofInt (a : Int))), (2, .int (Int32.ofInt (fr : Int))), (3, .int (Int32.ofInt (tt : Int)))]) (show [8, 7, 6, 4, 0, 1, 2, 3].Nodup by decide) ⟨rfl, rfl, rfl, rfl, rfl, rfl, rfl, rfl, trivial⟩ ?_
              exact hgo 1 0 1 (by omega) (by omega) (by omega)
            · refine xr_steps (pc' := 317) (L' := [(9, .int (Int32.ofInt 1)), (8, .int (Int32.ofInt (k : Int))), (7, .int (Int32.ofInt (c : Int))), (6, .int (Int32.ofInt (z : Int))), (4, .int (Int32.ofInt (n : Int))), (0, .ref 165), (1, .int (Int32.ofInt (a : Int))), (2, .int (Int32.ofInt (fr : Int))), (3, .int (Int32.ofInt (tt : Int)))]) (st' := [.int (Int32.ofInt 1), .int (Int32.ofInt ((k : Int) + 1)), .ref 188]) 1 rfl ?_
              refine xr_if_eq rfl (by omega) (fun z45 => ?_) (fun z45 => ?_)
              · exfalso; omega
              · refine xr_steps (pc' := 325) (L' := [(9, .int (Int32.ofInt 1)), (8, .int (Int32.ofInt (k : Int))), (7, .int (Int32.ofInt (c : Int))), (6, .int (Int32.ofInt (z : Int))), (4, .int (Int32.ofInt (n : Int))), (0, .ref 165), (1, .int (Int32.ofInt (a : Int))), (2, .int (Int32.ofInt (fr : Int))), (3, .int (Int32.ofInt (tt : Int)))]) (st' := [.int (Int32.ofInt 1), .int (Int32.ofInt ((k : Int) + 1)), .ref 188]) 2 rfl ?_
                refine ym_bastore hA rfl rfl (by decide) (by omega) (by omega) (by omega) ?_
                rw [show ((k : Int) + 1).toNat = k + 1 by omega]
                refine xr_loc (L := [(8, .int (Int32.ofInt (k : Int))), (7, .int (Int32.ofInt (c : Int))), (6, .int (Int32.ofInt (z : Int))), (4, .int (Int32.ofInt (n : Int))), (0, .ref 165), (1, .int (Int32.ofInt (a : Int))), (2, .int (Int32.ofInt (fr : Int))), (3, .int (Int32.ofInt (tt : Int)))]) (show [8, 7, 6, 4, 0, 1, 2, 3].Nodup by decide) ⟨rfl, rfl, rfl, rfl, rfl, rfl, rfl, rfl, trivial⟩ ?_
                exact hgo 1 0 1 (by omega) (by omega) (by omega)
          · refine xr_steps (pc' := 294) (L' := [(9, .int (Int32.ofInt 1)), (8, .int (Int32.ofInt (k : Int))), (7, .int (Int32.ofInt (c : Int))), (6, .int (Int32.ofInt (z : Int))), (4, .int (Int32.ofInt (n : Int))), (0, .ref 165), (1, .int (Int32.ofInt (a : Int))), (2, .int (Int32.ofInt (fr : Int))), (3, .int (Int32.ofInt (tt : Int)))]) (st' := [.int (Int32.ofInt 1), .int (Int32.ofInt (k : Int)), .ref 188]) 2 rfl ?_
            refine ym_bastore hA rfl rfl (by decide) (by omega) (by omega) (by omega) ?_
            rw [show (k : Int).toNat = k by omega]
            refine xr_steps (pc' := 296) (L' := [(9, .int (Int32.ofInt 1)), (8, .int (Int32.ofInt (k : Int))), (7, .int (Int32.ofInt (c : Int))), (6, .int (Int32.ofInt (z : Int))), (4, .int (Int32.ofInt (n : Int))), (0, .ref 165), (1, .int (Int32.ofInt (a : Int))), (2, .int (Int32.ofInt (fr : Int))), (3, .int (Int32.ofInt (tt : Int)))]) (st' := [.ref 165]) 1 rfl ?_
            refine xr_getf (v := .ref 188) rfl (ym_165 hA) rfl ?_
            refine xr_steps (pc' := 302) (L' := [(9, .int (Int32.ofInt 1)), (8, .int (Int32.ofInt (k : Int))), (7, .int (Int32.ofInt (c : Int))), (6, .int (Int32.ofInt (z : Int))), (4, .int (Int32.ofInt (n : Int))), (0, .ref 165), (1, .int (Int32.ofInt (a : Int))), (2, .int (Int32.ofInt (fr : Int))), (3, .int (Int32.ofInt (tt : Int)))]) (st' := [.int (Int32.ofInt 1), .int (Int32.ofInt (k : Int)), .ref 188]) 2 rfl ?_
            refine xr_iadd rfl ?_
            refine xr_steps (pc' := 304) (L' := [(9, .int (Int32.ofInt 1)), (8, .int (Int32.ofInt (k : Int))), (7, .int (Int32.ofInt (c : Int))), (6, .int (Int32.ofInt (z : Int))), (4, .int (Int32.ofInt (n : Int))), (0, .ref 165), (1, .int (Int32.ofInt (a : Int))), (2, .int (Int32.ofInt (fr : Int))), (3, .int (Int32.ofInt (tt : Int)))]) (st' := [.ref 165, .int (Int32.ofInt ((k : Int) + 1)), .ref 188]) 1 rfl ?_
            refine xr_getf (v := .ref 188) rfl (ym_165 hA) rfl ?_
            refine xr_steps (pc' := 310) (L' := [(9, .int (Int32.ofInt 1)), (8, .int (Int32.ofInt (k : Int))), (7, .int (Int32.ofInt (c : Int))), (6, .int (Int32.ofInt (z : Int))), (4, .int (Int32.ofInt (n : Int))), (0, .ref 165), (1, .int (Int32.ofInt (a : Int))), (2, .int (Int32.ofInt (fr : Int))), (3, .int (Int32.ofInt (tt : Int)))]) (st' := [.int (Int32.ofInt 1), .int (Int32.ofInt (k : Int)), .ref 188, .int (Int32.ofInt ((k : Int) + 1)), .ref 188]) 2 rfl ?_
            refine xr_iadd rfl ?_
            refine ym_baload (e := (va_up t 188 (va_up (t 188) k 1)) 188 ((k : Int) + 1).toNat) hA rfl rfl (by decide) (by omega) (by omega) rfl ?_
            rw [show ((k : Int) + 1).toNat = k + 1 by omega]
            rw [show (va_up t 188 (va_up (t 188) k 1)) 188 (k + 1) = t 188 (k + 1) by rw [ya_up_same, ya_up_ne _ _ (by omega)]]
            refine xr_if_ne rfl (by omega) (fun z46 => ?_) (fun z46 => ?_)
            · refine xr_steps (pc' := 325) (L' := [(9, .int (Int32.ofInt 1)), (8, .int (Int32.ofInt (k : Int))), (7, .int (Int32.ofInt (c : Int))), (6, .int (Int32.ofInt (z : Int))), (4, .int (Int32.ofInt (n : Int))), (0, .ref 165), (1, .int (Int32.ofInt (a : Int))), (2, .int (Int32.ofInt (fr : Int))), (3, .int (Int32.ofInt (tt : Int)))]) (st' := [.int (Int32.ofInt 1), .int (Int32.ofInt ((k : Int) + 1)), .ref 188]) 2 rfl ?_
              refine ym_bastore hA rfl rfl (by decide) (by omega) (by omega) (by omega) ?_
              rw [show ((k : Int) + 1).toNat = k + 1 by omega]
              refine xr_loc (L := [(8, .int (Int32.ofInt (k : Int))), (7, .int (Int32.ofInt (c : Int))), (6, .int (Int32.ofInt (z : Int))), (4, .int (Int32.ofInt (n : Int))), (0, .ref 165), (1, .int (Int32.ofInt (a : Int))), (2, .int (Int32.ofInt (fr : Int))), (3, .int (Int32.ofInt (tt : Int)))]) (show [8, 7, 6, 4, 0, 1, 2, 3].Nodup by decide) ⟨rfl, rfl, rfl, rfl, rfl, rfl, rfl, rfl, trivial⟩ ?_
              exact hgo 1 1 1 (by omega) (by omega) (by omega)
            · refine xr_steps (pc' := 317) (L' := [(9, .int (Int32.ofInt 1)), (8, .int (Int32.ofInt (k : Int))), (7, .int (Int32.ofInt (c : Int))), (6, .int (Int32.ofInt (z : Int))), (4, .int (Int32.ofInt (n : Int))), (0, .ref 165), (1, .int (Int32.ofInt (a : Int))), (2, .int (Int32.ofInt (fr : Int))), (3, .int (Int32.ofInt (tt : Int)))]) (st' := [.int (Int32.ofInt 1), .int (Int32.ofInt ((k : Int) + 1)), .ref 188]) 1 rfl ?_
              refine xr_if_eq rfl (by omega) (fun z47 => ?_) (fun z47 => ?_)
              · exfalso; omega
              · refine xr_steps (pc' := 325) (L' := [(9, .int (Int32.ofInt 1)), (8, .int (Int32.ofInt (k : Int))), (7, .int (Int32.ofInt (c : Int))), (6, .int (Int32.ofInt (z : Int))), (4, .int (Int32.ofInt (n : Int))), (0, .ref 165), (1, .int (Int32.ofInt (a : Int))), (2, .int (Int32.ofInt (fr : Int))), (3, .int (Int32.ofInt (tt : Int)))]) (st' := [.int (Int32.ofInt 1), .int (Int32.ofInt ((k : Int) + 1)), .ref 188]) 2 rfl ?_
                refine ym_bastore hA rfl rfl (by decide) (by omega) (by omega) (by omega) ?_
                rw [show ((k : Int) + 1).toNat = k + 1 by omega]
                refine xr_loc (L := [(8, .int (Int32.ofInt (k : Int))), (7, .int (Int32.ofInt (c : Int))), (6, .int (Int32.ofInt (z : Int))), (4, .int (Int32.ofInt (n : Int))), (0, .ref 165), (1, .int (Int32.ofInt (a : Int))), (2, .int (Int32.ofInt (fr : Int))), (3, .int (Int32.ofInt (tt : Int)))]) (show [8, 7, 6, 4, 0, 1, 2, 3].Nodup by decide) ⟨rfl, rfl, rfl, rfl, rfl, rfl, rfl, rfl, trivial⟩ ?_
                exact hgo 1 1 1 (by omega) (by omega) (by omega)
    · refine xr_steps (pc' := 233) (L' := [(8, .int (Int32.ofInt (k : Int))), (7, .int (Int32.ofInt (c : Int))), (6, .int (Int32.ofInt (z : Int))), (4, .int (Int32.ofInt (n : Int))), (0, .ref 165), (1, .int (Int32.ofInt (a : Int))), (2, .int (Int32.ofInt (fr : Int))), (3, .int (Int32.ofInt (tt : Int)))]) (st' := [.ref 165]) 1 rfl ?_
      refine xr_getf (v := .ref 189) rfl (ym_165 hA) rfl ?_
      refine xr_steps (pc' := 238) (L' := [(8, .int (Int32.ofInt (k : Int))), (7, .int (Int32.ofInt (c : Int))), (6, .int (Int32.ofInt (z : Int))), (4, .int (Int32.ofInt (n : Int))), (0, .ref 165), (1, .int (Int32.ofInt (a : Int))), (2, .int (Int32.ofInt (fr : Int))), (3, .int (Int32.ofInt (tt : Int)))]) (st' := [.int (Int32.ofInt (k : Int)), .ref 189]) 1 rfl ?_
      refine ym_caload (e := t 189 (k : Int).toNat) hA rfl rfl (by decide) (by omega) (by omega) rfl ?_
      rw [show (k : Int).toNat = k by omega]
      refine xr_steps (pc' := 240) (L' := [(8, .int (Int32.ofInt (k : Int))), (7, .int (Int32.ofInt (c : Int))), (6, .int (Int32.ofInt (z : Int))), (4, .int (Int32.ofInt (n : Int))), (0, .ref 165), (1, .int (Int32.ofInt (a : Int))), (2, .int (Int32.ofInt (fr : Int))), (3, .int (Int32.ofInt (tt : Int)))]) (st' := [.ref 165, .int (Int32.ofInt (t 189 k))]) 1 rfl ?_
      refine xr_getf (v := .ref 166) rfl (ym_165 hA) rfl ?_
      refine xr_steps (pc' := 245) (L' := [(8, .int (Int32.ofInt (k : Int))), (7, .int (Int32.ofInt (c : Int))), (6, .int (Int32.ofInt (z : Int))), (4, .int (Int32.ofInt (n : Int))), (0, .ref 165), (1, .int (Int32.ofInt (a : Int))), (2, .int (Int32.ofInt (fr : Int))), (3, .int (Int32.ofInt (tt : Int)))]) (st' := [.int (Int32.ofInt (c : Int)), .ref 166, .int (Int32.ofInt (t 189 k))]) 1 rfl ?_
      refine ym_caload (e := t 166 (c : Int).toNat) hA rfl rfl (by decide) (by omega) (by omega) rfl ?_
      rw [show (c : Int).toNat = c by omega]
      refine xr_icmp_ne rfl (by omega) (by omega) (fun z48 => ?_) (fun z48 => ?_)
      · refine xr_steps (pc' := 254) (L' := [(8, .int (Int32.ofInt (k : Int))), (7, .int (Int32.ofInt (c : Int))), (6, .int (Int32.ofInt (z : Int))), (4, .int (Int32.ofInt (n : Int))), (0, .ref 165), (1, .int (Int32.ofInt (a : Int))), (2, .int (Int32.ofInt (fr : Int))), (3, .int (Int32.ofInt (tt : Int)))]) (st' := [.int (Int32.ofInt 0)]) 1 rfl ?_
        refine xr_steps (pc' := 257) (L' := [(9, .int (Int32.ofInt 0)), (8, .int (Int32.ofInt (k : Int))), (7, .int (Int32.ofInt (c : Int))), (6, .int (Int32.ofInt (z : Int))), (4, .int (Int32.ofInt (n : Int))), (0, .ref 165), (1, .int (Int32.ofInt (a : Int))), (2, .int (Int32.ofInt (fr : Int))), (3, .int (Int32.ofInt (tt : Int)))]) (st' := [.ref 165]) 2 rfl ?_
        refine xr_getf (v := .ref 188) rfl (ym_165 hA) rfl ?_
        refine xr_steps (pc' := 263) (L' := [(9, .int (Int32.ofInt 0)), (8, .int (Int32.ofInt (k : Int))), (7, .int (Int32.ofInt (c : Int))), (6, .int (Int32.ofInt (z : Int))), (4, .int (Int32.ofInt (n : Int))), (0, .ref 165), (1, .int (Int32.ofInt (a : Int))), (2, .int (Int32.ofInt (fr : Int))), (3, .int (Int32.ofInt (tt : Int)))]) (st' := [.ref 165, .int (Int32.ofInt (k : Int)), .ref 188]) 2 rfl ?_
        refine xr_getf (v := .ref 188) rfl (ym_165 hA) rfl ?_
        refine xr_steps (pc' := 268) (L' := [(9, .int (Int32.ofInt 0)), (8, .int (Int32.ofInt (k : Int))), (7, .int (Int32.ofInt (c : Int))), (6, .int (Int32.ofInt (z : Int))), (4, .int (Int32.ofInt (n : Int))), (0, .ref 165), (1, .int (Int32.ofInt (a : Int))), (2, .int (Int32.ofInt (fr : Int))), (3, .int (Int32.ofInt (tt : Int)))]) (st' := [.int (Int32.ofInt (k : Int)), .ref 188, .int (Int32.ofInt (k : Int)), .ref 188]) 1 rfl ?_
        refine ym_baload (e := t 188 (k : Int).toNat) hA rfl rfl (by decide) (by omega) (by omega) rfl ?_
        rw [show (k : Int).toNat = k by omega]
        refine xr_if_ne rfl (by omega) (fun z49 => ?_) (fun z49 => ?_)
        · refine xr_steps (pc' := 294) (L' := [(9, .int (Int32.ofInt 0)), (8, .int (Int32.ofInt (k : Int))), (7, .int (Int32.ofInt (c : Int))), (6, .int (Int32.ofInt (z : Int))), (4, .int (Int32.ofInt (n : Int))), (0, .ref 165), (1, .int (Int32.ofInt (a : Int))), (2, .int (Int32.ofInt (fr : Int))), (3, .int (Int32.ofInt (tt : Int)))]) (st' := [.int (Int32.ofInt 1), .int (Int32.ofInt (k : Int)), .ref 188]) 2 rfl ?_
          refine ym_bastore hA rfl rfl (by decide) (by omega) (by omega) (by omega) ?_
          rw [show (k : Int).toNat = k by omega]
          refine xr_steps (pc' := 296) (L' := [(9, .int (Int32.ofInt 0)), (8, .int (Int32.ofInt (k : Int))), (7, .int (Int32.ofInt (c : Int))), (6, .int (Int32.ofInt (z : Int))), (4, .int (Int32.ofInt (n : Int))), (0, .ref 165), (1, .int (Int32.ofInt (a : Int))), (2, .int (Int32.ofInt (fr : Int))), (3, .int (Int32.ofInt (tt : Int)))]) (st' := [.ref 165]) 1 rfl ?_
          refine xr_getf (v := .ref 188) rfl (ym_165 hA) rfl ?_
          refine xr_steps (pc' := 302) (L' := [(9, .int (Int32.ofInt 0)), (8, .int (Int32.ofInt (k : Int))), (7, .int (Int32.ofInt (c : Int))), (6, .int (Int32.ofInt (z : Int))), (4, .int (Int32.ofInt (n : Int))), (0, .ref 165), (1, .int (Int32.ofInt (a : Int))), (2, .int (Int32.ofInt (fr : Int))), (3, .int (Int32.ofInt (tt : Int)))]) (st' := [.int (Int32.ofInt 1), .int (Int32.ofInt (k : Int)), .ref 188]) 2 rfl ?_
          refine xr_iadd rfl ?_
          refine xr_steps (pc' := 304) (L' := [(9, .int (Int32.ofInt 0)), (8, .int (Int32.ofInt (k : Int))), (7, .int (Int32.ofInt (c : Int))), (6, .int (Int32.ofInt (z : Int))), (4, .int (Int32.ofInt (n : Int))), (0, .ref 165), (1, .int (Int32.ofInt (a : Int))), (2, .int (Int32.ofInt (fr : Int))), (3, .int (Int32.ofInt (tt : Int)))]) (st' := [.ref 165, .int (Int32.ofInt ((k : Int) + 1)), .ref 188]) 1 rfl ?_
          refine xr_getf (v := .ref 188) rfl (ym_165 hA) rfl ?_
          refine xr_steps (pc' := 310) (L' := [(9, .int (Int32.ofInt 0)), (8, .int (Int32.ofInt (k : Int))), (7, .int (Int32.ofInt (c : Int))), (6, .int (Int32.ofInt (z : Int))), (4, .int (Int32.ofInt (n : Int))), (0, .ref 165), (1, .int (Int32.ofInt (a : Int))), (2, .int (Int32.ofInt (fr : Int))), (3, .int (Int32.ofInt (tt : Int)))]) (st' := [.int (Int32.ofInt 1), .int (Int32.ofInt (k : Int)), .ref 188, .int (Int32.ofInt ((k : Int) + 1)), .ref 188]) 2 rfl ?_
          refine xr_iadd rfl ?_
          refine ym_baload (e := (va_up t 188 (va_up (t 188) k 1)) 188 ((k : Int) + 1).toNat) hA rfl rfl (by decide) (by omega) (by omega) rfl ?_
          rw [show ((k : Int) + 1).toNat = k + 1 by omega]
          rw [show (va_up t 188 (va_up (t 188) k 1)) 188 (k + 1) = t 188 (k + 1) by rw [ya_up_same, ya_up_ne _ _ (by omega)]]
          refine xr_if_ne rfl (by omega) (fun z50 => ?_) (fun z50 => ?_)
          · refine xr_steps (pc' := 325) (L' := [(9, .int (Int32.ofInt 0)), (8, .int (Int32.ofInt (k : Int))), (7, .int (Int32.ofInt (c : Int))), (6, .int (Int32.ofInt (z : Int))), (4, .int (Int32.ofInt (n : Int))), (0, .ref 165), (1, .int (Int32.ofInt (a : Int))), (2, .int (Int32.ofInt (fr : Int))), (3, .int (Int32.ofInt (tt : Int)))]) (st' := [.int (Int32.ofInt 1), .int (Int32.ofInt ((k : Int) + 1)), .ref 188]) 2 rfl ?_
            refine ym_bastore hA rfl rfl (by decide) (by omega) (by omega) (by omega) ?_
            rw [show ((k : Int) + 1).toNat = k + 1 by omega]
            refine xr_loc (L := [(8, .int (Int32.ofInt (k : Int))), (7, .int (Int32.ofInt (c : Int))), (6, .int (Int32.ofInt (z : Int))), (4, .int (Int32.ofInt (n : Int))), (0, .ref 165), (1, .int (Int32.ofInt (a : Int))), (2, .int (Int32.ofInt (fr : Int))), (3, .int (Int32.ofInt (tt : Int)))]) (show [8, 7, 6, 4, 0, 1, 2, 3].Nodup by decide) ⟨rfl, rfl, rfl, rfl, rfl, rfl, rfl, rfl, trivial⟩ ?_
            exact hgo 0 1 1 (by omega) (by omega) (by omega)
          · refine xr_steps (pc' := 317) (L' := [(9, .int (Int32.ofInt 0)), (8, .int (Int32.ofInt (k : Int))), (7, .int (Int32.ofInt (c : Int))), (6, .int (Int32.ofInt (z : Int))), (4, .int (Int32.ofInt (n : Int))), (0, .ref 165), (1, .int (Int32.ofInt (a : Int))), (2, .int (Int32.ofInt (fr : Int))), (3, .int (Int32.ofInt (tt : Int)))]) (st' := [.int (Int32.ofInt 0), .int (Int32.ofInt ((k : Int) + 1)), .ref 188]) 1 rfl ?_
            refine xr_if_eq rfl (by omega) (fun z51 => ?_) (fun z51 => ?_)
            · refine xr_steps (pc' := 325) (L' := [(9, .int (Int32.ofInt 0)), (8, .int (Int32.ofInt (k : Int))), (7, .int (Int32.ofInt (c : Int))), (6, .int (Int32.ofInt (z : Int))), (4, .int (Int32.ofInt (n : Int))), (0, .ref 165), (1, .int (Int32.ofInt (a : Int))), (2, .int (Int32.ofInt (fr : Int))), (3, .int (Int32.ofInt (tt : Int)))]) (st' := [.int (Int32.ofInt 0), .int (Int32.ofInt ((k : Int) + 1)), .ref 188]) 1 rfl ?_
              refine ym_bastore hA rfl rfl (by decide) (by omega) (by omega) (by omega) ?_
              rw [show ((k : Int) + 1).toNat = k + 1 by omega]
              refine xr_loc (L := [(8, .int (Int32.ofInt (k : Int))), (7, .int (Int32.ofInt (c : Int))), (6, .int (Int32.ofInt (z : Int))), (4, .int (Int32.ofInt (n : Int))), (0, .ref 165), (1, .int (Int32.ofInt (a : Int))), (2, .int (Int32.ofInt (fr : Int))), (3, .int (Int32.ofInt (tt : Int)))]) (show [8, 7, 6, 4, 0, 1, 2, 3].Nodup by decide) ⟨rfl, rfl, rfl, rfl, rfl, rfl, rfl, rfl, trivial⟩ ?_
              exact hgo 0 1 0 (by omega) (by omega) (by omega)
            · exfalso; omega
        · refine xr_steps (pc' := 274) (L' := [(9, .int (Int32.ofInt 0)), (8, .int (Int32.ofInt (k : Int))), (7, .int (Int32.ofInt (c : Int))), (6, .int (Int32.ofInt (z : Int))), (4, .int (Int32.ofInt (n : Int))), (0, .ref 165), (1, .int (Int32.ofInt (a : Int))), (2, .int (Int32.ofInt (fr : Int))), (3, .int (Int32.ofInt (tt : Int)))]) (st' := [.int (Int32.ofInt 0), .int (Int32.ofInt (k : Int)), .ref 188]) 1 rfl ?_
          refine xr_if_eq rfl (by omega) (fun z52 => ?_) (fun z52 => ?_)
          · refine xr_steps (pc' := 294) (L' := [(9, .int (Int32.ofInt 0)), (8, .int (Int32.ofInt (k : Int))), (7, .int (Int32.ofInt (c : Int))), (6, .int (Int32.ofInt (z : Int))), (4, .int (Int32.ofInt (n : Int))), (0, .ref 165), (1, .int (Int32.ofInt (a : Int))), (2, .int (Int32.ofInt (fr : Int))), (3, .int (Int32.ofInt (tt : Int)))]) (st' := [.int (Int32.ofInt 0), .int (Int32.ofInt (k : Int)), .ref 188]) 1 rfl ?_
            refine ym_bastore hA rfl rfl (by decide) (by omega) (by omega) (by omega) ?_
            rw [show (k : Int).toNat = k by omega]
            refine xr_steps (pc' := 296) (L' := [(9, .int (Int32.ofInt 0)), (8, .int (Int32.ofInt (k : Int))), (7, .int (Int32.ofInt (c : Int))), (6, .int (Int32.ofInt (z : Int))), (4, .int (Int32.ofInt (n : Int))), (0, .ref 165), (1, .int (Int32.ofInt (a : Int))), (2, .int (Int32.ofInt (fr : Int))), (3, .int (Int32.ofInt (tt : Int)))]) (st' := [.ref 165]) 1 rfl ?_
            refine xr_getf (v := .ref 188) rfl (ym_165 hA) rfl ?_
            refine xr_steps (pc' := 302) (L' := [(9, .int (Int32.ofInt 0)), (8, .int (Int32.ofInt (k : Int))), (7, .int (Int32.ofInt (c : Int))), (6, .int (Int32.ofInt (z : Int))), (4, .int (Int32.ofInt (n : Int))), (0, .ref 165), (1, .int (Int32.ofInt (a : Int))), (2, .int (Int32.ofInt (fr : Int))), (3, .int (Int32.ofInt (tt : Int)))]) (st' := [.int (Int32.ofInt 1), .int (Int32.ofInt (k : Int)), .ref 188]) 2 rfl ?_
            refine xr_iadd rfl ?_
            refine xr_steps (pc' := 304) (L' := [(9, .int (Int32.ofInt 0)), (8, .int (Int32.ofInt (k : Int))), (7, .int (Int32.ofInt (c : Int))), (6, .int (Int32.ofInt (z : Int))), (4, .int (Int32.ofInt (n : Int))), (0, .ref 165), (1, .int (Int32.ofInt (a : Int))), (2, .int (Int32.ofInt (fr : Int))), (3, .int (Int32.ofInt (tt : Int)))]) (st' := [.ref 165, .int (Int32.ofInt ((k : Int) + 1)), .ref 188]) 1 rfl ?_
            refine xr_getf (v := .ref 188) rfl (ym_165 hA) rfl ?_
            refine xr_steps (pc' := 310) (L' := [(9, .int (Int32.ofInt 0)), (8, .int (Int32.ofInt (k : Int))), (7, .int (Int32.ofInt (c : Int))), (6, .int (Int32.ofInt (z : Int))), (4, .int (Int32.ofInt (n : Int))), (0, .ref 165), (1, .int (Int32.ofInt (a : Int))), (2, .int (Int32.ofInt (fr : Int))), (3, .int (Int32.ofInt (tt : Int)))]) (st' := [.int (Int32.ofInt 1), .int (Int32.ofInt (k : Int)), .ref 188, .int (Int32.ofInt ((k : Int) + 1)), .ref 188]) 2 rfl ?_
            refine xr_iadd rfl ?_
            refine ym_baload (e := (va_up t 188 (va_up (t 188) k 0)) 188 ((k : Int) + 1).toNat) hA rfl rfl (by decide) (by omega) (by omega) rfl ?_
            rw [show ((k : Int) + 1).toNat = k + 1 by omega]
            rw [show (va_up t 188 (va_up (t 188) k 0)) 188 (k + 1) = t 188 (k + 1) by rw [ya_up_same, ya_up_ne _ _ (by omega)]]
            refine xr_if_ne rfl (by omega) (fun z53 => ?_) (fun z53 => ?_)
            · refine xr_steps (pc' := 325) (L' := [(9, .int (Int32.ofInt 0)), (8, .int (Int32.ofInt (k : Int))), (7, .int (Int32.ofInt (c : Int))), (6, .int (Int32.ofInt (z : Int))), (4, .int (Int32.ofInt (n : Int))), (0, .ref 165), (1, .int (Int32.ofInt (a : Int))), (2, .int (Int32.ofInt (fr : Int))), (3, .int (Int32.ofInt (tt : Int)))]) (st' := [.int (Int32.ofInt 1), .int (Int32.ofInt ((k : Int) + 1)), .ref 188]) 2 rfl ?_
              refine ym_bastore hA rfl rfl (by decide) (by omega) (by omega) (by omega) ?_
              rw [show ((k : Int) + 1).toNat = k + 1 by omega]
              refine xr_loc (L := [(8, .int (Int32.ofInt (k : Int))), (7, .int (Int32.ofInt (c : Int))), (6, .int (Int32.ofInt (z : Int))), (4, .int (Int32.ofInt (n : Int))), (0, .ref 165), (1, .int (Int32.ofInt (a : Int))), (2, .int (Int32.ofInt (fr : Int))), (3, .int (Int32.ofInt (tt : Int)))]) (show [8, 7, 6, 4, 0, 1, 2, 3].Nodup by decide) ⟨rfl, rfl, rfl, rfl, rfl, rfl, rfl, rfl, trivial⟩ ?_
              exact hgo 0 0 1 (by omega) (by omega) (by omega)
            · refine xr_steps (pc' := 317) (L' := [(9, .int (Int32.ofInt 0)), (8, .int (Int32.ofInt (k : Int))), (7, .int (Int32.ofInt (c : Int))), (6, .int (Int32.ofInt (z : Int))), (4, .int (Int32.ofInt (n : Int))), (0, .ref 165), (1, .int (Int32.ofInt (a : Int))), (2, .int (Int32.ofInt (fr : Int))), (3, .int (Int32.ofInt (tt : Int)))]) (st' := [.int (Int32.ofInt 0), .int (Int32.ofInt ((k : Int) + 1)), .ref 188]) 1 rfl ?_
              refine xr_if_eq rfl (by omega) (fun z54 => ?_) (fun z54 => ?_)
              · refine xr_steps (pc' := 325) (L' := [(9, .int (Int32.ofInt 0)), (8, .int (Int32.ofInt (k : Int))), (7, .int (Int32.ofInt (c : Int))), (6, .int (Int32.ofInt (z : Int))), (4, .int (Int32.ofInt (n : Int))), (0, .ref 165), (1, .int (Int32.ofInt (a : Int))), (2, .int (Int32.ofInt (fr : Int))), (3, .int (Int32.ofInt (tt : Int)))]) (st' := [.int (Int32.ofInt 0), .int (Int32.ofInt ((k : Int) + 1)), .ref 188]) 1 rfl ?_
                refine ym_bastore hA rfl rfl (by decide) (by omega) (by omega) (by omega) ?_
                rw [show ((k : Int) + 1).toNat = k + 1 by omega]
                refine xr_loc (L := [(8, .int (Int32.ofInt (k : Int))), (7, .int (Int32.ofInt (c : Int))), (6, .int (Int32.ofInt (z : Int))), (4, .int (Int32.ofInt (n : Int))), (0, .ref 165), (1, .int (Int32.ofInt (a : Int))), (2, .int (Int32.ofInt (fr : Int))), (3, .int (Int32.ofInt (tt : Int)))]) (show [8, 7, 6, 4, 0, 1, 2, 3].Nodup by decide) ⟨rfl, rfl, rfl, rfl, rfl, rfl, rfl, rfl, trivial⟩ ?_
                exact hgo 0 0 0 (by omega) (by omega) (by omega)
              · exfalso; omega
          · exfalso; omega
      · refine xr_steps (pc' := 254) (L' := [(8, .int (Int32.ofInt (k : Int))), (7, .int (Int32.ofInt (c : Int))), (6, .int (Int32.ofInt (z : Int))), (4, .int (Int32.ofInt (n : Int))), (0, .ref 165), (1, .int (Int32.ofInt (a : Int))), (2, .int (Int32.ofInt (fr : Int))), (3, .int (Int32.ofInt (tt : Int)))]) (st' := [.int (Int32.ofInt 1)]) 2 rfl ?_
        refine xr_steps (pc' := 257) (L' := [(9, .int (Int32.ofInt 1)), (8, .int (Int32.ofInt (k : Int))), (7, .int (Int32.ofInt (c : Int))), (6, .int (Int32.ofInt (z : Int))), (4, .int (Int32.ofInt (n : Int))), (0, .ref 165), (1, .int (Int32.ofInt (a : Int))), (2, .int (Int32.ofInt (fr : Int))), (3, .int (Int32.ofInt (tt : Int)))]) (st' := [.ref 165]) 2 rfl ?_
        refine xr_getf (v := .ref 188) rfl (ym_165 hA) rfl ?_
        refine xr_steps (pc' := 263) (L' := [(9, .int (Int32.ofInt 1)), (8, .int (Int32.ofInt (k : Int))), (7, .int (Int32.ofInt (c : Int))), (6, .int (Int32.ofInt (z : Int))), (4, .int (Int32.ofInt (n : Int))), (0, .ref 165), (1, .int (Int32.ofInt (a : Int))), (2, .int (Int32.ofInt (fr : Int))), (3, .int (Int32.ofInt (tt : Int)))]) (st' := [.ref 165, .int (Int32.ofInt (k : Int)), .ref 188]) 2 rfl ?_
        refine xr_getf (v := .ref 188) rfl (ym_165 hA) rfl ?_
        refine xr_steps (pc' := 268) (L' := [(9, .int (Int32.ofInt 1)), (8, .int (Int32.ofInt (k : Int))), (7, .int (Int32.ofInt (c : Int))), (6, .int (Int32.ofInt (z : Int))), (4, .int (Int32.ofInt (n : Int))), (0, .ref 165), (1, .int (Int32.ofInt (a : Int))), (2, .int (Int32.ofInt (fr : Int))), (3, .int (Int32.ofInt (tt : Int)))]) (st' := [.int (Int32.ofInt (k : Int)), .ref 188, .int (Int32.ofInt (k : Int)), .ref 188]) 1 rfl ?_
        refine ym_baload (e := t 188 (k : Int).toNat) hA rfl rfl (by decide) (by omega) (by omega) rfl ?_
        rw [show (k : Int).toNat = k by omega]
        refine xr_if_ne rfl (by omega) (fun z55 => ?_) (fun z55 => ?_)
        · refine xr_steps (pc' := 294) (L' := [(9, .int (Int32.ofInt 1)), (8, .int (Int32.ofInt (k : Int))), (7, .int (Int32.ofInt (c : Int))), (6, .int (Int32.ofInt (z : Int))), (4, .int (Int32.ofInt (n : Int))), (0, .ref 165), (1, .int (Int32.ofInt (a : Int))), (2, .int (Int32.ofInt (fr : Int))), (3, .int (Int32.ofInt (tt : Int)))]) (st' := [.int (Int32.ofInt 1), .int (Int32.ofInt (k : Int)), .ref 188]) 2 rfl ?_
          refine ym_bastore hA rfl rfl (by decide) (by omega) (by omega) (by omega) ?_
          rw [show (k : Int).toNat = k by omega]
          refine xr_steps (pc' := 296) (L' := [(9, .int (Int32.ofInt 1)), (8, .int (Int32.ofInt (k : Int))), (7, .int (Int32.ofInt (c : Int))), (6, .int (Int32.ofInt (z : Int))), (4, .int (Int32.ofInt (n : Int))), (0, .ref 165), (1, .int (Int32.ofInt (a : Int))), (2, .int (Int32.ofInt (fr : Int))), (3, .int (Int32.ofInt (tt : Int)))]) (st' := [.ref 165]) 1 rfl ?_
          refine xr_getf (v := .ref 188) rfl (ym_165 hA) rfl ?_
          refine xr_steps (pc' := 302) (L' := [(9, .int (Int32.ofInt 1)), (8, .int (Int32.ofInt (k : Int))), (7, .int (Int32.ofInt (c : Int))), (6, .int (Int32.ofInt (z : Int))), (4, .int (Int32.ofInt (n : Int))), (0, .ref 165), (1, .int (Int32.ofInt (a : Int))), (2, .int (Int32.ofInt (fr : Int))), (3, .int (Int32.ofInt (tt : Int)))]) (st' := [.int (Int32.ofInt 1), .int (Int32.ofInt (k : Int)), .ref 188]) 2 rfl ?_
          refine xr_iadd rfl ?_
          refine xr_steps (pc' := 304) (L' := [(9, .int (Int32.ofInt 1)), (8, .int (Int32.ofInt (k : Int))), (7, .int (Int32.ofInt (c : Int))), (6, .int (Int32.ofInt (z : Int))), (4, .int (Int32.ofInt (n : Int))), (0, .ref 165), (1, .int (Int32.ofInt (a : Int))), (2, .int (Int32.ofInt (fr : Int))), (3, .int (Int32.ofInt (tt : Int)))]) (st' := [.ref 165, .int (Int32.ofInt ((k : Int) + 1)), .ref 188]) 1 rfl ?_
          refine xr_getf (v := .ref 188) rfl (ym_165 hA) rfl ?_
          refine xr_steps (pc' := 310) (L' := [(9, .int (Int32.ofInt 1)), (8, .int (Int32.ofInt (k : Int))), (7, .int (Int32.ofInt (c : Int))), (6, .int (Int32.ofInt (z : Int))), (4, .int (Int32.ofInt (n : Int))), (0, .ref 165), (1, .int (Int32.ofInt (a : Int))), (2, .int (Int32.ofInt (fr : Int))), (3, .int (Int32.ofInt (tt : Int)))]) (st' := [.int (Int32.ofInt 1), .int (Int32.ofInt (k : Int)), .ref 188, .int (Int32.ofInt ((k : Int) + 1)), .ref 188]) 2 rfl ?_
          refine xr_iadd rfl ?_
          refine ym_baload (e := (va_up t 188 (va_up (t 188) k 1)) 188 ((k : Int) + 1).toNat) hA rfl rfl (by decide) (by omega) (by omega) rfl ?_
          rw [show ((k : Int) + 1).toNat = k + 1 by omega]
          rw [show (va_up t 188 (va_up (t 188) k 1)) 188 (k + 1) = t 188 (k + 1) by rw [ya_up_same, ya_up_ne _ _ (by omega)]]
          refine xr_if_ne rfl (by omega) (fun z56 => ?_) (fun z56 => ?_)
          · refine xr_steps (pc' := 325) (L' := [(9, .int (Int32.ofInt 1)), (8, .int (Int32.ofInt (k : Int))), (7, .int (Int32.ofInt (c : Int))), (6, .int (Int32.ofInt (z : Int))), (4, .int (Int32.ofInt (n : Int))), (0, .ref 165), (1, .int (Int32.ofInt (a : Int))), (2, .int (Int32.ofInt (fr : Int))), (3, .int (Int32.ofInt (tt : Int)))]) (st' := [.int (Int32.ofInt 1), .int (Int32.ofInt ((k : Int) + 1)), .ref 188]) 2 rfl ?_
            refine ym_bastore hA rfl rfl (by decide) (by omega) (by omega) (by omega) ?_
            rw [show ((k : Int) + 1).toNat = k + 1 by omega]
            refine xr_loc (L := [(8, .int (Int32.ofInt (k : Int))), (7, .int (Int32.ofInt (c : Int))), (6, .int (Int32.ofInt (z : Int))), (4, .int (Int32.ofInt (n : Int))), (0, .ref 165), (1, .int (Int32.ofInt (a : Int))), (2, .int (Int32.ofInt (fr : Int))), (3, .int (Int32.ofInt (tt : Int)))]) (show [8, 7, 6, 4, 0, 1, 2, 3].Nodup by decide) ⟨rfl, rfl, rfl, rfl, rfl, rfl, rfl, rfl, trivial⟩ ?_
            exact hgo 1 1 1 (by omega) (by omega) (by omega)
          · refine xr_steps (pc' := 317) (L' := [(9, .int (Int32.ofInt 1)), (8, .int (Int32.ofInt (k : Int))), (7, .int (Int32.ofInt (c : Int))), (6, .int (Int32.ofInt (z : Int))), (4, .int (Int32.ofInt (n : Int))), (0, .ref 165), (1, .int (Int32.ofInt (a : Int))), (2, .int (Int32.ofInt (fr : Int))), (3, .int (Int32.ofInt (tt : Int)))]) (st' := [.int (Int32.ofInt 1), .int (Int32.ofInt ((k : Int) + 1)), .ref 188]) 1 rfl ?_
            refine xr_if_eq rfl (by omega) (fun z57 => ?_) (fun z57 => ?_)
            · exfalso; omega
            · refine xr_steps (pc' := 325) (L' := [(9, .int (Int32.ofInt 1)), (8, .int (Int32.ofInt (k : Int))), (7, .int (Int32.ofInt (c : Int))), (6, .int (Int32.ofInt (z : Int))), (4, .int (Int32.ofInt (n : Int))), (0, .ref 165), (1, .int (Int32.ofInt (a : Int))), (2, .int (Int32.ofInt (fr : Int))), (3, .int (Int32.ofInt (tt : Int)))]) (st' := [.int (Int32.ofInt 1), .int (Int32.ofInt ((k : Int) + 1)), .ref 188]) 2 rfl ?_
              refine ym_bastore hA rfl rfl (by decide) (by omega) (by omega) (by omega) ?_
              rw [show ((k : Int) + 1).toNat = k + 1 by omega]
              refine xr_loc (L := [(8, .int (Int32.ofInt (k : Int))), (7, .int (Int32.ofInt (c : Int))), (6, .int (Int32.ofInt (z : Int))), (4, .int (Int32.ofInt (n : Int))), (0, .ref 165), (1, .int (Int32.ofInt (a : Int))), (2, .int (Int32.ofInt (fr : Int))), (3, .int (Int32.ofInt (tt : Int)))]) (show [8, 7, 6, 4, 0, 1, 2, 3].Nodup by decide) ⟨rfl, rfl, rfl, rfl, rfl, rfl, rfl, rfl, trivial⟩ ?_
              exact hgo 1 1 1 (by omega) (by omega) (by omega)
        · refine xr_steps (pc' := 274) (L' := [(9, .int (Int32.ofInt 1)), (8, .int (Int32.ofInt (k : Int))), (7, .int (Int32.ofInt (c : Int))), (6, .int (Int32.ofInt (z : Int))), (4, .int (Int32.ofInt (n : Int))), (0, .ref 165), (1, .int (Int32.ofInt (a : Int))), (2, .int (Int32.ofInt (fr : Int))), (3, .int (Int32.ofInt (tt : Int)))]) (st' := [.int (Int32.ofInt 1), .int (Int32.ofInt (k : Int)), .ref 188]) 1 rfl ?_
          refine xr_if_eq rfl (by omega) (fun z58 => ?_) (fun z58 => ?_)
          · exfalso; omega
          · refine xr_steps (pc' := 278) (L' := [(9, .int (Int32.ofInt 1)), (8, .int (Int32.ofInt (k : Int))), (7, .int (Int32.ofInt (c : Int))), (6, .int (Int32.ofInt (z : Int))), (4, .int (Int32.ofInt (n : Int))), (0, .ref 165), (1, .int (Int32.ofInt (a : Int))), (2, .int (Int32.ofInt (fr : Int))), (3, .int (Int32.ofInt (tt : Int)))]) (st' := [.ref 165, .int (Int32.ofInt (k : Int)), .ref 188]) 1 rfl ?_
            refine xr_getf (v := .ref 190) rfl (ym_165 hA) rfl ?_
            refine xr_steps (pc' := 283) (L' := [(9, .int (Int32.ofInt 1)), (8, .int (Int32.ofInt (k : Int))), (7, .int (Int32.ofInt (c : Int))), (6, .int (Int32.ofInt (z : Int))), (4, .int (Int32.ofInt (n : Int))), (0, .ref 165), (1, .int (Int32.ofInt (a : Int))), (2, .int (Int32.ofInt (fr : Int))), (3, .int (Int32.ofInt (tt : Int)))]) (st' := [.int (Int32.ofInt (k : Int)), .ref 190, .int (Int32.ofInt (k : Int)), .ref 188]) 1 rfl ?_
            refine ym_caload (e := t 190 (k : Int).toNat) hA rfl rfl (by decide) (by omega) (by omega) rfl ?_
            rw [show (k : Int).toNat = k by omega]
            refine xr_steps (pc' := 286) (L' := [(9, .int (Int32.ofInt 1)), (8, .int (Int32.ofInt (k : Int))), (7, .int (Int32.ofInt (c : Int))), (6, .int (Int32.ofInt (z : Int))), (4, .int (Int32.ofInt (n : Int))), (0, .ref 165), (1, .int (Int32.ofInt (a : Int))), (2, .int (Int32.ofInt (fr : Int))), (3, .int (Int32.ofInt (tt : Int)))]) (st' := [.int (Int32.ofInt 49), .int (Int32.ofInt (t 190 k)), .int (Int32.ofInt (k : Int)), .ref 188]) 1 rfl ?_
            refine xr_icmp_eq rfl (by omega) (by omega) (fun z59 => ?_) (fun z59 => ?_)
            · refine xr_steps (pc' := 294) (L' := [(9, .int (Int32.ofInt 1)), (8, .int (Int32.ofInt (k : Int))), (7, .int (Int32.ofInt (c : Int))), (6, .int (Int32.ofInt (z : Int))), (4, .int (Int32.ofInt (n : Int))), (0, .ref 165), (1, .int (Int32.ofInt (a : Int))), (2, .int (Int32.ofInt (fr : Int))), (3, .int (Int32.ofInt (tt : Int)))]) (st' := [.int (Int32.ofInt 0), .int (Int32.ofInt (k : Int)), .ref 188]) 1 rfl ?_
              refine ym_bastore hA rfl rfl (by decide) (by omega) (by omega) (by omega) ?_
              rw [show (k : Int).toNat = k by omega]
              refine xr_steps (pc' := 296) (L' := [(9, .int (Int32.ofInt 1)), (8, .int (Int32.ofInt (k : Int))), (7, .int (Int32.ofInt (c : Int))), (6, .int (Int32.ofInt (z : Int))), (4, .int (Int32.ofInt (n : Int))), (0, .ref 165), (1, .int (Int32.ofInt (a : Int))), (2, .int (Int32.ofInt (fr : Int))), (3, .int (Int32.ofInt (tt : Int)))]) (st' := [.ref 165]) 1 rfl ?_
              refine xr_getf (v := .ref 188) rfl (ym_165 hA) rfl ?_
              refine xr_steps (pc' := 302) (L' := [(9, .int (Int32.ofInt 1)), (8, .int (Int32.ofInt (k : Int))), (7, .int (Int32.ofInt (c : Int))), (6, .int (Int32.ofInt (z : Int))), (4, .int (Int32.ofInt (n : Int))), (0, .ref 165), (1, .int (Int32.ofInt (a : Int))), (2, .int (Int32.ofInt (fr : Int))), (3, .int (Int32.ofInt (tt : Int)))]) (st' := [.int (Int32.ofInt 1), .int (Int32.ofInt (k : Int)), .ref 188]) 2 rfl ?_
              refine xr_iadd rfl ?_
              refine xr_steps (pc' := 304) (L' := [(9, .int (Int32.ofInt 1)), (8, .int (Int32.ofInt (k : Int))), (7, .int (Int32.ofInt (c : Int))), (6, .int (Int32.ofInt (z : Int))), (4, .int (Int32.ofInt (n : Int))), (0, .ref 165), (1, .int (Int32.ofInt (a : Int))), (2, .int (Int32.ofInt (fr : Int))), (3, .int (Int32.ofInt (tt : Int)))]) (st' := [.ref 165, .int (Int32.ofInt ((k : Int) + 1)), .ref 188]) 1 rfl ?_
              refine xr_getf (v := .ref 188) rfl (ym_165 hA) rfl ?_
              refine xr_steps (pc' := 310) (L' := [(9, .int (Int32.ofInt 1)), (8, .int (Int32.ofInt (k : Int))), (7, .int (Int32.ofInt (c : Int))), (6, .int (Int32.ofInt (z : Int))), (4, .int (Int32.ofInt (n : Int))), (0, .ref 165), (1, .int (Int32.ofInt (a : Int))), (2, .int (Int32.ofInt (fr : Int))), (3, .int (Int32.ofInt (tt : Int)))]) (st' := [.int (Int32.ofInt 1), .int (Int32.ofInt (k : Int)), .ref 188, .int (Int32.ofInt ((k : Int) + 1)), .ref 188]) 2 rfl ?_
              refine xr_iadd rfl ?_
              refine ym_baload (e := (va_up t 188 (va_up (t 188) k 0)) 188 ((k : Int) + 1).toNat) hA rfl rfl (by decide) (by omega) (by omega) rfl ?_
              rw [show ((k : Int) + 1).toNat = k + 1 by omega]
              rw [show (va_up t 188 (va_up (t 188) k 0)) 188 (k + 1) = t 188 (k + 1) by rw [ya_up_same, ya_up_ne _ _ (by omega)]]
              refine xr_if_ne rfl (by omega) (fun z60 => ?_) (fun z60 => ?_)
              · refine xr_steps (pc' := 325) (L' := [(9, .int (Int32.ofInt 1)), (8, .int (Int32.ofInt (k : Int))), (7, .int (Int32.ofInt (c : Int))), (6, .int (Int32.ofInt (z : Int))), (4, .int (Int32.ofInt (n : Int))), (0, .ref 165), (1, .int (Int32.ofInt (a : Int))), (2, .int (Int32.ofInt (fr : Int))), (3, .int (Int32.ofInt (tt : Int)))]) (st' := [.int (Int32.ofInt 1), .int (Int32.ofInt ((k : Int) + 1)), .ref 188]) 2 rfl ?_
                refine ym_bastore hA rfl rfl (by decide) (by omega) (by omega) (by omega) ?_
                rw [show ((k : Int) + 1).toNat = k + 1 by omega]
                refine xr_loc (L := [(8, .int (Int32.ofInt (k : Int))), (7, .int (Int32.ofInt (c : Int))), (6, .int (Int32.ofInt (z : Int))), (4, .int (Int32.ofInt (n : Int))), (0, .ref 165), (1, .int (Int32.ofInt (a : Int))), (2, .int (Int32.ofInt (fr : Int))), (3, .int (Int32.ofInt (tt : Int)))]) (show [8, 7, 6, 4, 0, 1, 2, 3].Nodup by decide) ⟨rfl, rfl, rfl, rfl, rfl, rfl, rfl, rfl, trivial⟩ ?_
                exact hgo 1 0 1 (by omega) (by omega) (by omega)
              · refine xr_steps (pc' := 317) (L' := [(9, .int (Int32.ofInt 1)), (8, .int (Int32.ofInt (k : Int))), (7, .int (Int32.ofInt (c : Int))), (6, .int (Int32.ofInt (z : Int))), (4, .int (Int32.ofInt (n : Int))), (0, .ref 165), (1, .int (Int32.ofInt (a : Int))), (2, .int (Int32.ofInt (fr : Int))), (3, .int (Int32.ofInt (tt : Int)))]) (st' := [.int (Int32.ofInt 1), .int (Int32.ofInt ((k : Int) + 1)), .ref 188]) 1 rfl ?_
                refine xr_if_eq rfl (by omega) (fun z61 => ?_) (fun z61 => ?_)
                · exfalso; omega
                · refine xr_steps (pc' := 325) (L' := [(9, .int (Int32.ofInt 1)), (8, .int (Int32.ofInt (k : Int))), (7, .int (Int32.ofInt (c : Int))), (6, .int (Int32.ofInt (z : Int))), (4, .int (Int32.ofInt (n : Int))), (0, .ref 165), (1, .int (Int32.ofInt (a : Int))), (2, .int (Int32.ofInt (fr : Int))), (3, .int (Int32.ofInt (tt : Int)))]) (st' := [.int (Int32.ofInt 1), .int (Int32.ofInt ((k : Int) + 1)), .ref 188]) 2 rfl ?_
                  refine ym_bastore hA rfl rfl (by decide) (by omega) (by omega) (by omega) ?_
                  rw [show ((k : Int) + 1).toNat = k + 1 by omega]
                  refine xr_loc (L := [(8, .int (Int32.ofInt (k : Int))), (7, .int (Int32.ofInt (c : Int))), (6, .int (Int32.ofInt (z : Int))), (4, .int (Int32.ofInt (n : Int))), (0, .ref 165), (1, .int (Int32.ofInt (a : Int))), (2, .int (Int32.ofInt (fr : Int))), (3, .int (Int32.ofInt (tt : Int)))]) (show [8, 7, 6, 4, 0, 1, 2, 3].Nodup by decide) ⟨rfl, rfl, rfl, rfl, rfl, rfl, rfl, rfl, trivial⟩ ?_
                  exact hgo 1 0 1 (by omega) (by omega) (by omega)
            · refine xr_steps (pc' := 294) (L' := [(9, .int (Int32.ofInt 1)), (8, .int (Int32.ofInt (k : Int))), (7, .int (Int32.ofInt (c : Int))), (6, .int (Int32.ofInt (z : Int))), (4, .int (Int32.ofInt (n : Int))), (0, .ref 165), (1, .int (Int32.ofInt (a : Int))), (2, .int (Int32.ofInt (fr : Int))), (3, .int (Int32.ofInt (tt : Int)))]) (st' := [.int (Int32.ofInt 1), .int (Int32.ofInt (k : Int)), .ref 188]) 2 rfl ?_
              refine ym_bastore hA rfl rfl (by decide) (by omega) (by omega) (by omega) ?_
              rw [show (k : Int).toNat = k by omega]
              refine xr_steps (pc' := 296) (L' := [(9, .int (Int32.ofInt 1)), (8, .int (Int32.ofInt (k : Int))), (7, .int (Int32.ofInt (c : Int))), (6, .int (Int32.ofInt (z : Int))), (4, .int (Int32.ofInt (n : Int))), (0, .ref 165), (1, .int (Int32.ofInt (a : Int))), (2, .int (Int32.ofInt (fr : Int))), (3, .int (Int32.ofInt (tt : Int)))]) (st' := [.ref 165]) 1 rfl ?_
              refine xr_getf (v := .ref 188) rfl (ym_165 hA) rfl ?_
              refine xr_steps (pc' := 302) (L' := [(9, .int (Int32.ofInt 1)), (8, .int (Int32.ofInt (k : Int))), (7, .int (Int32.ofInt (c : Int))), (6, .int (Int32.ofInt (z : Int))), (4, .int (Int32.ofInt (n : Int))), (0, .ref 165), (1, .int (Int32.ofInt (a : Int))), (2, .int (Int32.ofInt (fr : Int))), (3, .int (Int32.ofInt (tt : Int)))]) (st' := [.int (Int32.ofInt 1), .int (Int32.ofInt (k : Int)), .ref 188]) 2 rfl ?_
              refine xr_iadd rfl ?_
              refine xr_steps (pc' := 304) (L' := [(9, .int (Int32.ofInt 1)), (8, .int (Int32.ofInt (k : Int))), (7, .int (Int32.ofInt (c : Int))), (6, .int (Int32.ofInt (z : Int))), (4, .int (Int32.ofInt (n : Int))), (0, .ref 165), (1, .int (Int32.ofInt (a : Int))), (2, .int (Int32.ofInt (fr : Int))), (3, .int (Int32.ofInt (tt : Int)))]) (st' := [.ref 165, .int (Int32.ofInt ((k : Int) + 1)), .ref 188]) 1 rfl ?_
              refine xr_getf (v := .ref 188) rfl (ym_165 hA) rfl ?_
              refine xr_steps (pc' := 310) (L' := [(9, .int (Int32.ofInt 1)), (8, .int (Int32.ofInt (k : Int))), (7, .int (Int32.ofInt (c : Int))), (6, .int (Int32.ofInt (z : Int))), (4, .int (Int32.ofInt (n : Int))), (0, .ref 165), (1, .int (Int32.ofInt (a : Int))), (2, .int (Int32.ofInt (fr : Int))), (3, .int (Int32.ofInt (tt : Int)))]) (st' := [.int (Int32.ofInt 1), .int (Int32.ofInt (k : Int)), .ref 188, .int (Int32.ofInt ((k : Int) + 1)), .ref 188]) 2 rfl ?_
              refine xr_iadd rfl ?_
              refine ym_baload (e := (va_up t 188 (va_up (t 188) k 1)) 188 ((k : Int) + 1).toNat) hA rfl rfl (by decide) (by omega) (by omega) rfl ?_
              rw [show ((k : Int) + 1).toNat = k + 1 by omega]
              rw [show (va_up t 188 (va_up (t 188) k 1)) 188 (k + 1) = t 188 (k + 1) by rw [ya_up_same, ya_up_ne _ _ (by omega)]]
              refine xr_if_ne rfl (by omega) (fun z62 => ?_) (fun z62 => ?_)
              · refine xr_steps (pc' := 325) (L' := [(9, .int (Int32.ofInt 1)), (8, .int (Int32.ofInt (k : Int))), (7, .int (Int32.ofInt (c : Int))), (6, .int (Int32.ofInt (z : Int))), (4, .int (Int32.ofInt (n : Int))), (0, .ref 165), (1, .int (Int32.ofInt (a : Int))), (2, .int (Int32.ofInt (fr : Int))), (3, .int (Int32.ofInt (tt : Int)))]) (st' := [.int (Int32.ofInt 1), .int (Int32.ofInt ((k : Int) + 1)), .ref 188]) 2 rfl ?_
                refine ym_bastore hA rfl rfl (by decide) (by omega) (by omega) (by omega) ?_
                rw [show ((k : Int) + 1).toNat = k + 1 by omega]
                refine xr_loc (L := [(8, .int (Int32.ofInt (k : Int))), (7, .int (Int32.ofInt (c : Int))), (6, .int (Int32.ofInt (z : Int))), (4, .int (Int32.ofInt (n : Int))), (0, .ref 165), (1, .int (Int32.ofInt (a : Int))), (2, .int (Int32.ofInt (fr : Int))), (3, .int (Int32.ofInt (tt : Int)))]) (show [8, 7, 6, 4, 0, 1, 2, 3].Nodup by decide) ⟨rfl, rfl, rfl, rfl, rfl, rfl, rfl, rfl, trivial⟩ ?_
                exact hgo 1 1 1 (by omega) (by omega) (by omega)
              · refine xr_steps (pc' := 317) (L' := [(9, .int (Int32.ofInt 1)), (8, .int (Int32.ofInt (k : Int))), (7, .int (Int32.ofInt (c : Int))), (6, .int (Int32.ofInt (z : Int))), (4, .int (Int32.ofInt (n : Int))), (0, .ref 165), (1, .int (Int32.ofInt (a : Int))), (2, .int (Int32.ofInt (fr : Int))), (3, .int (Int32.ofInt (tt : Int)))]) (st' := [.int (Int32.ofInt 1), .int (Int32.ofInt ((k : Int) + 1)), .ref 188]) 1 rfl ?_
                refine xr_if_eq rfl (by omega) (fun z63 => ?_) (fun z63 => ?_)
                · exfalso; omega
                · refine xr_steps (pc' := 325) (L' := [(9, .int (Int32.ofInt 1)), (8, .int (Int32.ofInt (k : Int))), (7, .int (Int32.ofInt (c : Int))), (6, .int (Int32.ofInt (z : Int))), (4, .int (Int32.ofInt (n : Int))), (0, .ref 165), (1, .int (Int32.ofInt (a : Int))), (2, .int (Int32.ofInt (fr : Int))), (3, .int (Int32.ofInt (tt : Int)))]) (st' := [.int (Int32.ofInt 1), .int (Int32.ofInt ((k : Int) + 1)), .ref 188]) 2 rfl ?_
                  refine ym_bastore hA rfl rfl (by decide) (by omega) (by omega) (by omega) ?_
                  rw [show ((k : Int) + 1).toNat = k + 1 by omega]
                  refine xr_loc (L := [(8, .int (Int32.ofInt (k : Int))), (7, .int (Int32.ofInt (c : Int))), (6, .int (Int32.ofInt (z : Int))), (4, .int (Int32.ofInt (n : Int))), (0, .ref 165), (1, .int (Int32.ofInt (a : Int))), (2, .int (Int32.ofInt (fr : Int))), (3, .int (Int32.ofInt (tt : Int)))]) (show [8, 7, 6, 4, 0, 1, 2, 3].Nodup by decide) ⟨rfl, rfl, rfl, rfl, rfl, rfl, rfl, rfl, trivial⟩ ?_
                  exact hgo 1 1 1 (by omega) (by omega) (by omega)
end AU
/-! Items: the automaton and the sets of ends -/
def xH (it r : Nat → Int) (n : Nat) (f : Nat → Int) : Nat → Nat → Prop
  | 0 => xspr r (fun k => k = 0)
  | q + 1 => xspr r (xtr it r n (xH it r n f q) (f q))
def xSS (nl : Nat) (f it r : Nat → Int) : Nat → Nat → Prop
  | 0 => fun q => q = 0
  | k + 1 => xes nl f (it k) (r k) (xSS nl f it r k)
def xMM (nl : Nat) (f it r : Nat → Int) (k : Nat) : Nat → Prop
  | 0 => False
  | q + 1 => (it k = 46 ∨ it k = f q) ∧ (xSS nl f it r k q ∨ (¬ r k = 49 ∧ xMM nl f it r k q))
section HH
variable {nl n : Nat} {f it r : Nat → Int}
theorem xSS_step (k : Nat) (hr : r k = 42 ∨ r k = 43 ∨ r k = 49) : ∀ q : Nat, q ≤ nl → (xSS nl f it r (k + 1) q ↔ ((r k = 42 ∧ xSS nl f it r k q) ∨ xMM nl f it r k q)) := by
  intro q
  induction q with
  | zero =>
    intro _
    show (r k = 42 ∧ xSS nl f it r k 0) ↔ ((r k = 42 ∧ xSS nl f it r k 0) ∨ False)
    exact ⟨Or.inl, fun h => h.elim id False.elim⟩
  | succ q ih =>
    intro hq
    have i1 := ih (by omega)
    show ((r k = 42 ∧ xSS nl f it r k (q + 1)) ∨ (q < nl ∧ (it k = 46 ∨ it k = f q) ∧ (xSS nl f it r k q ∨ ((r k = 42 ∨ r k = 43) ∧ xSS nl f it r (k + 1) q)))) ↔ ((r k = 42 ∧ xSS nl f it r k (q + 1)) ∨ ((it k = 46 ∨ it k = f q) ∧ (xSS nl f it r k q ∨ (¬ r k = 49 ∧ xMM nl f it r k q))))
    rw [i1]
    constructor
    · rintro (h | ⟨-, h1, h2⟩)
      · exact Or.inl h
      · refine Or.inr ⟨h1, ?_⟩
        rcases h2 with h2 | ⟨h2, h3 | h3⟩
        · exact Or.inl h2
        · exact Or.inl h3.2
        · exact Or.inr ⟨by omega, h3⟩
    · rintro (h | ⟨h1, h2⟩)
      · exact Or.inl h
      · refine Or.inr ⟨by omega, h1, ?_⟩
        rcases h2 with h2 | ⟨h2, h3⟩
        · exact Or.inl h2
        · exact Or.inr ⟨by omega, Or.inr h3⟩
theorem xH_eq (hr : ∀ k : Nat, k < n → r k = 42 ∨ r k = 43 ∨ r k = 49) : ∀ q : Nat, q ≤ nl → ∀ k : Nat, k ≤ n → (xH it r n f q k ↔ (xSS nl f it r k q ∨ (k < n ∧ ¬ r k = 49 ∧ xMM nl f it r k q))) := by
  intro q
  induction q with
  | zero =>
    intro _ k
    induction k with
    | zero =>
      intro _
      show ((0 : Nat) = 0) ↔ _
      exact ⟨fun _ => Or.inl rfl, fun _ => rfl⟩
    | succ k ik =>
      intro hk
      have i1 := ik (by omega)
      have i2 := xSS_step (nl := nl) (f := f) (it := it) k (hr k (by omega)) 0 (Nat.zero_le _)
      rw [i2]
      show ((k + 1 = 0) ∨ (xspr r (fun k => k = 0) k ∧ r k = 42)) ↔ _
      have i3 : xspr r (fun k => k = 0) k ↔ (xSS nl f it r k 0 ∨ (k < n ∧ ¬ r k = 49 ∧ False)) := i1
      rw [i3]
      constructor
      · rintro (h | ⟨h1 | h1, h2⟩)
        · omega
        · exact Or.inl (Or.inl ⟨h2, h1⟩)
        · exact absurd h1.2.2 id
      · rintro ((h | h) | h)
        · exact Or.inr ⟨Or.inl h.2, h.1⟩
        · exact absurd h id
        · exact absurd h.2.2 id
  | succ q ih =>
    intro hq
    have i0 := ih (by omega)
    have hM : ∀ k : Nat, k < n → (xtk it (xH it r n f q) (f q) k ↔ xMM nl f it r k (q + 1)) := by
      intro k hk
      show (xH it r n f q k ∧ (it k = 46 ∨ it k = f q)) ↔ ((it k = 46 ∨ it k = f q) ∧ (xSS nl f it r k q ∨ (¬ r k = 49 ∧ xMM nl f it r k q)))
      rw [i0 k (by omega)]
      constructor
      · rintro ⟨h1 | h1, h2⟩
        · exact ⟨h2, Or.inl h1⟩
        · exact ⟨h2, Or.inr h1.2⟩
      · rintro ⟨h1, h2 | h2⟩
        · exact ⟨Or.inl h2, h1⟩
        · exact ⟨Or.inr ⟨hk, h2⟩, h1⟩
    intro k
    induction k with
    | zero =>
      intro _
      show ((1 ≤ 0 ∧ _) ∨ (0 < n ∧ xtk it (xH it r n f q) (f q) 0 ∧ ¬ r 0 = 49)) ↔ ((q + 1 = 0) ∨ (0 < n ∧ ¬ r 0 = 49 ∧ xMM nl f it r 0 (q + 1)))
      constructor
      · rintro (h | ⟨h1, h2, h3⟩)
        · omega
        · exact Or.inr ⟨h1, h3, (hM 0 h1).1 h2⟩
      · rintro (h | ⟨h1, h2, h3⟩)
        · omega
        · exact Or.inr ⟨h1, (hM 0 h1).2 h3, h2⟩
    | succ k ik =>
      intro hk
      have i1 := ik (by omega)
      have i2 := xSS_step (nl := nl) (f := f) (it := it) k (hr k (by omega)) (q + 1) hq
      have hMk := hM k (by omega)
      rw [i2]
      show (((1 ≤ k + 1 ∧ xtk it (xH it r n f q) (f q) (k + 1 - 1)) ∨ (k + 1 < n ∧ xtk it (xH it r n f q) (f q) (k + 1) ∧ ¬ r (k + 1) = 49)) ∨ (xspr r (xtr it r n (xH it r n f q) (f q)) k ∧ r k = 42)) ↔ _
      have i3 : xspr r (xtr it r n (xH it r n f q) (f q)) k ↔ (xSS nl f it r k (q + 1) ∨ (k < n ∧ ¬ r k = 49 ∧ xMM nl f it r k (q + 1))) := i1
      rw [i3, Nat.add_sub_cancel]
      constructor
      · rintro ((h | ⟨h1, h2, h3⟩) | ⟨h1 | h1, h2⟩)
        · exact Or.inl (Or.inr (hMk.1 h.2))
        · exact Or.inr ⟨h1, h3, (hM (k + 1) h1).1 h2⟩
        · exact Or.inl (Or.inl ⟨h2, h1⟩)
        · exact Or.inl (Or.inr h1.2.2)
      · rintro ((h | h) | ⟨h1, h2, h3⟩)
        · exact Or.inr ⟨Or.inl h.2, h.1⟩
        · exact Or.inl (Or.inl ⟨by omega, hMk.2 h⟩)
        · exact Or.inl (Or.inr ⟨h1, (hM (k + 1) h1).2 h3, h2⟩)
theorem xH_end (hr : ∀ k : Nat, k < n → r k = 42 ∨ r k = 43 ∨ r k = 49) : xH it r n f nl n ↔ xSS nl f it r n nl := by
  rw [xH_eq hr nl (Nat.le_refl _) n (Nat.le_refl _)]
  exact ⟨fun h => h.elim id (fun h => absurd h.1 (by omega)), Or.inl⟩
end HH
/-- the items of the letters g, from i on -/
def xil (g : Nat → Int) (M : Nat) : Nat → Nat → List (Int × Int)
  | 0, _ => []
  | k + 1, i => if i < M then (if i + 1 < M ∧ (g (i + 1) = 42 ∨ g (i + 1) = 43) then (g i, g (i + 1)) :: xil g M k (i + 2) else (g i, 49) :: xil g M k (i + 1)) else []
/-- the letters g are items from i on, k at most -/
def xvl (g : Nat → Int) (M : Nat) : Nat → Nat → Prop
  | 0, i => i = M
  | k + 1, i => i = M ∨ (i < M ∧ (g i = 46 ∨ (97 ≤ g i ∧ g i ≤ 122)) ∧ (if i + 1 < M ∧ (g (i + 1) = 42 ∨ g (i + 1) = 43) then xvl g M k (i + 2) else xvl g M k (i + 1)))
theorem xil_end (g : Nat → Int) (M k : Nat) : xil g M k M = [] := by
  cases k with
  | zero => rfl
  | succ k => rw [xil, if_neg (by omega)]
theorem xvl_it {e g : Nat → Int} {p0 M : Nat} (hg : ∀ j : Nat, j < M → g j = e (p0 + j)) : ∀ (k i : Nat), i ≤ M → xit e k (p0 + i) = p0 + M → xvl g M k i := by
  intro k
  induction k with
  | zero => intro i hi h; show i = M; have : p0 + i = p0 + M := h; omega
  | succ k ih =>
    intro i hi h
    by_cases hM : i = M
    · exact Or.inl hM
    · refine Or.inr ⟨by omega, ?_⟩
      rw [xit] at h
      by_cases hc : e (p0 + i) = 46 ∨ (97 ≤ e (p0 + i) ∧ e (p0 + i) ≤ 122)
      · rw [if_pos hc] at h
        refine ⟨by rw [hg i (by omega)]; exact hc, ?_⟩
        have hge : ∀ k q, q ≤ xit e k q := by
          intro k
          induction k with
          | zero => intro q; exact Nat.le_refl _
          | succ k ik =>
            intro q
            rw [xit]
            split
            · refine Nat.le_trans ?_ (ik _)
              split <;> omega
            · exact Nat.le_refl _
        by_cases h2 : e (p0 + i + 1) = 42 ∨ e (p0 + i + 1) = 43
        · rw [if_pos h2] at h
          have := hge k (p0 + i + 2)
          rw [if_pos ⟨by omega, by rw [hg (i + 1) (by omega)]; exact h2⟩]
          exact ih (i + 2) (by omega) h
        · rw [if_neg h2] at h
          rw [if_neg (fun hh => h2 (by have := hh.2; rw [hg (i + 1) hh.1] at this; exact this))]
          exact ih (i + 1) (by omega) h
      · rw [if_neg hc] at h
        omega
def xfo (nl : Nat) (f : Nat → Int) : List (Int × Int) → (Nat → Prop) → Nat → Prop
  | [], S => S
  | c :: l, S => xfo nl f l (xes nl f c.1 c.2 S)
theorem xes_r (nl : Nat) (f : Nat → Int) (c r r' : Int) (S : Nat → Prop) (h1 : r = 42 ↔ r' = 42) (h2 : r = 43 ↔ r' = 43) : xes nl f c r S = xes nl f c r' S := by
  funext q
  induction q with
  | zero => show (r = 42 ∧ S 0) = (r' = 42 ∧ S 0); rw [h1]
  | succ q ih =>
    show ((r = 42 ∧ S (q + 1)) ∨ (q < nl ∧ (c = 46 ∨ c = f q) ∧ (S q ∨ ((r = 42 ∨ r = 43) ∧ xes nl f c r S q)))) = ((r' = 42 ∧ S (q + 1)) ∨ (q < nl ∧ (c = 46 ∨ c = f q) ∧ (S q ∨ ((r' = 42 ∨ r' = 43) ∧ xes nl f c r' S q))))
    rw [ih, h1, h2]
theorem xfi_fo (nl : Nat) (f g : Nat → Int) (M : Nat) : ∀ (k i j : Nat) (S : Nat → Prop), i + j = M → xvl g M k i → xfi nl f g M j i S = xfo nl f (xil g M k i) S := by
  intro k
  induction k with
  | zero =>
    intro i j S hj h
    obtain rfl : i = M := h
    obtain rfl : j = 0 := by omega
    rfl
  | succ k ih =>
    intro i j S hj h
    rcases h with h | ⟨h1, h2, h3⟩
    · subst h
      obtain rfl : j = 0 := by omega
      rw [xil_end]
      rfl
    · obtain ⟨j, rfl⟩ : ∃ j0, j = j0 + 1 := ⟨j - 1, by omega⟩
      rw [xfi, if_neg (by omega), xil, if_pos h1]
      by_cases hc : i + 1 < M ∧ (g (i + 1) = 42 ∨ g (i + 1) = 43)
      · rw [if_pos hc] at h3 ⊢
        obtain ⟨j, rfl⟩ : ∃ j0, j = j0 + 1 := ⟨j - 1, by omega⟩
        rw [if_pos hc.1, xfi, if_pos hc.2]
        exact ih (i + 2) j _ (by omega) h3
      · rw [if_neg hc] at h3 ⊢
        rw [ih (i + 1) j _ (by omega) h3]
        show xfo nl f (xil g M k (i + 1)) _ = xfo nl f (xil g M k (i + 1)) (xes nl f (g i) 49 S)
        by_cases hl : i + 1 < M
        · rw [if_pos hl, xes_r nl f (g i) (g (i + 1)) 49 S (by omega) (by omega)]
        · rw [if_neg hl, xes_r nl f (g i) (g i) 49 S (by omega) (by omega)]
theorem xfo_app (nl : Nat) (f : Nat → Int) (l : List (Int × Int)) (c : Int × Int) : ∀ S, xfo nl f (l ++ [c]) S = xes nl f c.1 c.2 (xfo nl f l S) := by
  induction l with
  | nil => intro S; rfl
  | cons a l ih => intro S; exact ih _
theorem xSS_fo (nl : Nat) (f : Nat → Int) (l : List (Int × Int)) : ∀ k : Nat, k ≤ l.length → xSS nl f (fun i => (l.getD i (0, 0)).1) (fun i => (l.getD i (0, 0)).2) k = xfo nl f (l.take k) (fun q => q = 0) := by
  intro k
  induction k with
  | zero => intro _; rw [List.take_zero]; rfl
  | succ k ih =>
    intro hk
    rw [List.take_add_one, List.getElem?_eq_getElem (show k < l.length by omega)]
    show xes nl f (l.getD k (0, 0)).1 (l.getD k (0, 0)).2 (xSS nl f _ _ k) = xfo nl f (l.take k ++ [l[k]]) (fun q => q = 0)
    rw [xfo_app, ih (by omega), List.getD_eq_getElem?_getD, List.getElem?_eq_getElem (show k < l.length by omega)]
    rfl
theorem xil_len (g : Nat → Int) (M : Nat) : ∀ k i : Nat, (xil g M k i).length ≤ k := by
  intro k
  induction k with
  | zero => intro i; exact Nat.le_refl _
  | succ k ih =>
    intro i
    rw [xil]
    split
    · split
      · rw [List.length_cons]; have := ih (i + 2); omega
      · rw [List.length_cons]; have := ih (i + 1); omega
    · exact Nat.zero_le _
theorem xil_r (g : Nat → Int) (M : Nat) : ∀ k i : Nat, ∀ c ∈ xil g M k i, c.2 = 42 ∨ c.2 = 43 ∨ c.2 = 49 := by
  intro k
  induction k with
  | zero => intro i c hc; exact absurd hc List.not_mem_nil
  | succ k ih =>
    intro i c hc
    rw [xil] at hc
    split at hc
    · split at hc
      · rename_i h
        rcases List.mem_cons.mp hc with rfl | hc
        · have := h.2
          show g (i + 1) = 42 ∨ g (i + 1) = 43 ∨ g (i + 1) = 49
          omega
        · exact ih (i + 2) c hc
      · rcases List.mem_cons.mp hc with rfl | hc
        · exact Or.inr (Or.inr rfl)
        · exact ih (i + 1) c hc
    · exact absurd hc List.not_mem_nil
/-- what the automaton says is what the sets say -/
theorem xH_IM (p l : List Int) {k : Nat} (hv : xvl (fun j => p.getD j 0) p.length k 0) : xH (fun i => ((xil (fun j => p.getD j 0) p.length k 0).getD i (0, 0)).1) (fun i => ((xil (fun j => p.getD j 0) p.length k 0).getD i (0, 0)).2) (xil (fun j => p.getD j 0) p.length k 0).length (fun j => l.getD j 0) l.length (xil (fun j => p.getD j 0) p.length k 0).length ↔ xIM p l := by
  rw [xH_end (nl := l.length) (fun i hi => ?_)]
  · rw [xSS_fo l.length _ _ _ (Nat.le_refl _), List.take_length]
    unfold xIM
    rw [xfi_fo l.length _ _ p.length k 0 p.length _ (by omega) hv]
  · have h1 : (xil (fun j => p.getD j 0) p.length k 0).getD i (0, 0) ∈ xil (fun j => p.getD j 0) p.length k 0 := by
      rw [List.getD_eq_getElem?_getD, List.getElem?_eq_getElem hi]
      exact List.getElem_mem _
    exact xil_r _ _ _ _ _ h1
/-! The reference: isAs -/
section AS
variable {w : Value} {d : Nat} {A : xb_H} {s : Nat → Int} {n a fr tt c z : Nat} {Q : xb_R → xb_H → Prop}
theorem mo_250t {t0 : Nat → Nat → Int} {it r : Nat → Int} {h : Nat → Prop} (hA : 194 ≤ A.1) (hE : ∀ j : Nat, 0 ≤ t0 166 j ∧ t0 166 j ≤ 127) (hn : n ≤ 8) (hc : c < 3711) : ∀ (j k : Nat) (t : Nat → Nat → Int), k + j = n → t 166 = t0 166 → (∀ i : Nat, i ≤ n → xbr t 187 i (h i)) → (∀ i : Nat, i < n → t 189 i = it i ∧ 0 ≤ it i ∧ it i ≤ 127) → (∀ i : Nat, i < n → t 190 i = r i ∧ 0 ≤ r i ∧ r i ≤ 127) → (∀ i : Nat, i ≤ n → xbr t 188 i (if i < k then xtr it r n h (t0 166 c) i else if i = k then (1 ≤ i ∧ xtk it h (t0 166 c) (i - 1)) else False)) → (∀ t' : Nat → Nat → Int, (∀ i : Nat, i ≤ n → xbr t' 188 i (xtr it r n h (t0 166 c) i)) → (∀ x : Nat, ¬ x = 188 → t' x = t x) → xr_ok (xt_G w) d 250 332 [(7, .int (Int32.ofInt (c : Int))), (6, .int (Int32.ofInt (z : Int))), (4, .int (Int32.ofInt (n : Int))), (0, .ref 165), (1, .int (Int32.ofInt (a : Int))), (2, .int (Int32.ofInt (fr : Int))), (3, .int (Int32.ofInt (tt : Int)))] [] (ym A s t') Q) → xr_ok (xt_G w) d 250 203 [(8, .int (Int32.ofInt (k : Int))), (7, .int (Int32.ofInt (c : Int))), (6, .int (Int32.ofInt (z : Int))), (4, .int (Int32.ofInt (n : Int))), (0, .ref 165), (1, .int (Int32.ofInt (a : Int))), (2, .int (Int32.ofInt (fr : Int))), (3, .int (Int32.ofInt (tt : Int)))] [] (ym A s t) Q := by
  intro j
  induction j using Nat.strongRecOn with
  | _ j ih =>
    intro k t hk e166 hh hit hr hin hQ
    refine xr_steps (pc' := 207) (L' := [(8, .int (Int32.ofInt (k : Int))), (7, .int (Int32.ofInt (c : Int))), (6, .int (Int32.ofInt (z : Int))), (4, .int (Int32.ofInt (n : Int))), (0, .ref 165), (1, .int (Int32.ofInt (a : Int))), (2, .int (Int32.ofInt (fr : Int))), (3, .int (Int32.ofInt (tt : Int)))]) (st' := [.int (Int32.ofInt (n : Int)), .int (Int32.ofInt (k : Int))]) 2 rfl ?_
    refine xr_icmp_ge rfl (by omega) (by omega) (fun z31 => ?_) (fun z31 => ?_)
    · refine xr_loc (L := [(7, .int (Int32.ofInt (c : Int))), (6, .int (Int32.ofInt (z : Int))), (4, .int (Int32.ofInt (n : Int))), (0, .ref 165), (1, .int (Int32.ofInt (a : Int))), (2, .int (Int32.ofInt (fr : Int))), (3, .int (Int32.ofInt (tt : Int)))]) (show [7, 6, 4, 0, 1, 2, 3].Nodup by decide) ⟨rfl, rfl, rfl, rfl, rfl, rfl, rfl, trivial⟩ ?_
      obtain rfl : k = n := by omega
      refine hQ t (fun i hi => ?_) (fun _ _ => rfl)
      have := hin i hi
      by_cases e : i < k
      · rw [if_pos e] at this; exact this
      · obtain rfl : i = k := by omega
        rw [if_neg e, if_pos rfl] at this
        exact xbr_iff this ⟨Or.inl, fun h => h.elim id (fun h => absurd h.1 (by omega))⟩
    · refine xr_loc (L := [(8, .int (Int32.ofInt (k : Int))), (7, .int (Int32.ofInt (c : Int))), (6, .int (Int32.ofInt (z : Int))), (4, .int (Int32.ofInt (n : Int))), (0, .ref 165), (1, .int (Int32.ofInt (a : Int))), (2, .int (Int32.ofInt (fr : Int))), (3, .int (Int32.ofInt (tt : Int)))]) (show [8, 7, 6, 4, 0, 1, 2, 3].Nodup by decide) ⟨rfl, rfl, rfl, rfl, rfl, rfl, rfl, rfl, trivial⟩ ?_
      have hb0 := hin k (by omega)
      have hb1 := hin (k + 1) (by omega)
      refine mo_250s hA (by rw [e166]; exact hE) (by omega) hc (hh k (by omega)) hb0 hb1 (hit k (by omega)) (hr k (by omega)) (fun tk v1 v2 h1 h2 h3 => ?_)
      obtain ⟨T1, eT⟩ : ∃ T1, va_up (va_up t 188 (va_up (t 188) k v1)) 188 (va_up ((va_up t 188 (va_up (t 188) k v1)) 188) (k + 1) v2) = T1 := ⟨_, rfl⟩
      rw [eT]
      have eT8 : ∀ x : Nat, ¬ x = 188 → T1 x = t x := fun x hx => by rw [← eT, ya_up_ne _ _ hx, ya_up_ne _ _ hx]
      have e188 : T1 188 = va_up (va_up (t 188) k v1) (k + 1) v2 := by rw [← eT, ya_up_same, ya_up_same]
      refine xr_iinc (L' := [(8, .int (Int32.ofInt ((k : Int) + 1))), (7, .int (Int32.ofInt (c : Int))), (6, .int (Int32.ofInt (z : Int))), (4, .int (Int32.ofInt (n : Int))), (0, .ref 165), (1, .int (Int32.ofInt (a : Int))), (2, .int (Int32.ofInt (fr : Int))), (3, .int (Int32.ofInt (tt : Int)))]) rfl rfl rfl ?_
      refine xr_steps (pc' := 203) (L' := [(8, .int (Int32.ofInt ((k : Int) + 1))), (7, .int (Int32.ofInt (c : Int))), (6, .int (Int32.ofInt (z : Int))), (4, .int (Int32.ofInt (n : Int))), (0, .ref 165), (1, .int (Int32.ofInt (a : Int))), (2, .int (Int32.ofInt (fr : Int))), (3, .int (Int32.ofInt (tt : Int)))]) (st' := []) 1 rfl ?_
      refine xr_loc (L := [(8, .int (Int32.ofInt ((k : Int) + 1))), (7, .int (Int32.ofInt (c : Int))), (6, .int (Int32.ofInt (z : Int))), (4, .int (Int32.ofInt (n : Int))), (0, .ref 165), (1, .int (Int32.ofInt (a : Int))), (2, .int (Int32.ofInt (fr : Int))), (3, .int (Int32.ofInt (tt : Int)))]) (show [8, 7, 6, 4, 0, 1, 2, 3].Nodup by decide) ⟨rfl, rfl, rfl, rfl, rfl, rfl, rfl, rfl, trivial⟩ ?_
      rw [show (k : Int) + 1 = ((k + 1 : Nat) : Int) by omega]
      have hhk := hh k (by omega)
      have htk : (tk = 1 ∧ xtk it h (t0 166 c) k) ∨ (tk = 0 ∧ ¬ xtk it h (t0 166 c) k) := by
        rw [e166] at h1
        unfold xtk
        rcases hhk with ⟨a1, a2⟩ | ⟨a1, a2⟩
        · rcases h1 with ⟨b1, b2, b3⟩ | ⟨b1, b2⟩
          · exact Or.inl ⟨b1, a2, b3⟩
          · exact Or.inr ⟨b1, fun hh => b2 ⟨a1, hh.2⟩⟩
        · exact Or.inr ⟨by omega, fun hh => a2 hh.1⟩
      refine ih (j - 1) (by omega) (k + 1) T1 (by omega) (by rw [eT8 166 (by omega)]; exact e166) (fun i hi => by have := hh i hi; unfold xbr at this ⊢; rw [eT8 187 (by omega)]; exact this) (fun i hi => by rw [eT8 189 (by omega)]; exact hit i hi) (fun i hi => by rw [eT8 190 (by omega)]; exact hr i hi) (fun i hi => ?_) (fun t' g1 g2 => hQ t' g1 (fun x hx => (g2 x hx).trans (eT8 x hx)))
      have hini := hin i hi
      unfold xbr at hini hb0 hb1 ⊢
      rw [e188]
      by_cases e1 : i = k + 1
      · rw [e1, ya_up_same, if_neg (by omega), if_pos rfl]
        rw [if_neg (by omega), if_neg (by omega)] at hb1
        rw [Nat.add_sub_cancel]
        rcases htk with ⟨c1, c2⟩ | ⟨c1, c2⟩
        · exact Or.inl ⟨by omega, by omega, c2⟩
        · refine Or.inr ⟨?_, fun hh => c2 hh.2⟩
          rcases hb1 with hb1 | hb1
          · exact absurd hb1.2 id
          · omega
      · rw [ya_up_ne _ _ e1]
        by_cases e2 : i = k
        · rw [e2, ya_up_same, if_pos (by omega)]
          rw [if_neg (by omega), if_pos rfl] at hb0
          unfold xtr
          have hri := (hr k (by omega)).1
          rcases hb0 with ⟨d1, d2⟩ | ⟨d1, d2⟩
          · exact Or.inl ⟨by omega, Or.inl d2⟩
          · rcases htk with ⟨c1, c2⟩ | ⟨c1, c2⟩
            · by_cases h49 : r k = 49
              · exact Or.inr ⟨by omega, fun hh => hh.elim d2 (fun hh => hh.2.2 h49)⟩
              · exact Or.inl ⟨by omega, Or.inr ⟨by omega, c2, h49⟩⟩
            · exact Or.inr ⟨by omega, fun hh => hh.elim d2 (fun hh => c2 hh.2.1)⟩
        · rw [ya_up_ne _ _ e2]
          by_cases e3 : i < k
          · rw [if_pos (by omega)]
            rw [if_pos e3] at hini
            exact hini
          · rw [if_neg (by omega), if_neg (by omega)]
            rw [if_neg e3, if_neg e2] at hini
            exact hini
theorem mo_250m {t0 : Nat → Nat → Int} {it r f : Nat → Int} (hA : 194 ≤ A.1) (hE : ∀ j : Nat, 0 ≤ t0 166 j ∧ t0 166 j ≤ 127) (hn : n ≤ 8) (hz : z < 3711) (hf : ∀ j : Nat, a + 1 + j < z → t0 166 (a + 1 + j) = f j) : ∀ (j c : Nat) (t : Nat → Nat → Int), c + j = z → a + 1 ≤ c → t 166 = t0 166 → (∀ i : Nat, i ≤ n → xbr t 187 i (xH it r n f (c - (a + 1)) i)) → (∀ i : Nat, i < n → t 189 i = it i ∧ 0 ≤ it i ∧ it i ≤ 127) → (∀ i : Nat, i < n → t 190 i = r i ∧ 0 ≤ r i ∧ r i ≤ 127) → (∀ (b : Int) (t' : Nat → Nat → Int), ((b = 1 ∧ xH it r n f (z - (a + 1)) n) ∨ (b = 0 ∧ ¬ xH it r n f (z - (a + 1)) n)) → xna t t' → Q (.inl (some (.int (Int32.ofInt b)))) (ym A s t')) → xr_ok (xt_G w) (d + 1) 250 169 [(7, .int (Int32.ofInt (c : Int))), (6, .int (Int32.ofInt (z : Int))), (4, .int (Int32.ofInt (n : Int))), (0, .ref 165), (1, .int (Int32.ofInt (a : Int))), (2, .int (Int32.ofInt (fr : Int))), (3, .int (Int32.ofInt (tt : Int)))] [] (ym A s t) Q := by
  intro j
  induction j using Nat.strongRecOn with
  | _ j ih =>
    intro c t hc hac e166 hh hit hr hQ
    refine xr_steps (pc' := 173) (L' := [(7, .int (Int32.ofInt (c : Int))), (6, .int (Int32.ofInt (z : Int))), (4, .int (Int32.ofInt (n : Int))), (0, .ref 165), (1, .int (Int32.ofInt (a : Int))), (2, .int (Int32.ofInt (fr : Int))), (3, .int (Int32.ofInt (tt : Int)))]) (st' := [.int (Int32.ofInt (z : Int)), .int (Int32.ofInt (c : Int))]) 2 rfl ?_
    refine xr_icmp_ge rfl (by omega) (by omega) (fun z31 => ?_) (fun z31 => ?_)
    · refine xr_steps (pc' := 375) (L' := [(7, .int (Int32.ofInt (c : Int))), (6, .int (Int32.ofInt (z : Int))), (4, .int (Int32.ofInt (n : Int))), (0, .ref 165), (1, .int (Int32.ofInt (a : Int))), (2, .int (Int32.ofInt (fr : Int))), (3, .int (Int32.ofInt (tt : Int)))]) (st' := [.ref 165]) 1 rfl ?_
      refine xr_getf (v := .ref 187) rfl (ym_165 hA) rfl ?_
      refine xr_steps (pc' := 380) (L' := [(7, .int (Int32.ofInt (c : Int))), (6, .int (Int32.ofInt (z : Int))), (4, .int (Int32.ofInt (n : Int))), (0, .ref 165), (1, .int (Int32.ofInt (a : Int))), (2, .int (Int32.ofInt (fr : Int))), (3, .int (Int32.ofInt (tt : Int)))]) (st' := [.int (Int32.ofInt (n : Int)), .ref 187]) 1 rfl ?_
      refine ym_baload (e := t 187 (n : Int).toNat) hA rfl rfl (by decide) (by omega) (by omega) rfl ?_
      rw [show (n : Int).toNat = n by omega]
      obtain rfl : c = z := by omega
      have hhn := hh n (Nat.le_refl _)
      have hhr := xbr_rng hhn
      exact xr_retZ rfl rfl (by omega) (hQ _ t hhn (fun _ _ => rfl))
    · refine xr_steps (pc' := 179) (L' := [(8, .int (Int32.ofInt ((0 : Nat) : Int))), (7, .int (Int32.ofInt (c : Int))), (6, .int (Int32.ofInt (z : Int))), (4, .int (Int32.ofInt (n : Int))), (0, .ref 165), (1, .int (Int32.ofInt (a : Int))), (2, .int (Int32.ofInt (fr : Int))), (3, .int (Int32.ofInt (tt : Int)))]) (st' := []) 2 rfl ?_
      refine xr_loc (L := [(8, .int (Int32.ofInt ((0 : Nat) : Int))), (7, .int (Int32.ofInt (c : Int))), (6, .int (Int32.ofInt (z : Int))), (4, .int (Int32.ofInt (n : Int))), (0, .ref 165), (1, .int (Int32.ofInt (a : Int))), (2, .int (Int32.ofInt (fr : Int))), (3, .int (Int32.ofInt (tt : Int)))]) (show [8, 7, 6, 4, 0, 1, 2, 3].Nodup by decide) ⟨rfl, rfl, rfl, rfl, rfl, rfl, rfl, rfl, trivial⟩ ?_
      refine mo_250c (c := c) (z := z) hA hn (n + 1) 0 t (by omega) (fun i hi => absurd hi (Nat.not_lt_zero _)) (fun T1 a1 a2 => ?_)
      refine xr_steps (pc' := 203) (L' := [(8, .int (Int32.ofInt ((0 : Nat) : Int))), (7, .int (Int32.ofInt (c : Int))), (6, .int (Int32.ofInt (z : Int))), (4, .int (Int32.ofInt (n : Int))), (0, .ref 165), (1, .int (Int32.ofInt (a : Int))), (2, .int (Int32.ofInt (fr : Int))), (3, .int (Int32.ofInt (tt : Int)))]) (st' := []) 2 rfl ?_
      refine xr_loc (L := [(8, .int (Int32.ofInt ((0 : Nat) : Int))), (7, .int (Int32.ofInt (c : Int))), (6, .int (Int32.ofInt (z : Int))), (4, .int (Int32.ofInt (n : Int))), (0, .ref 165), (1, .int (Int32.ofInt (a : Int))), (2, .int (Int32.ofInt (fr : Int))), (3, .int (Int32.ofInt (tt : Int)))]) (show [8, 7, 6, 4, 0, 1, 2, 3].Nodup by decide) ⟨rfl, rfl, rfl, rfl, rfl, rfl, rfl, rfl, trivial⟩ ?_
      have b6 : T1 166 = t0 166 := (a2 166 (by omega)).trans e166
      refine mo_250t (t0 := t0) (it := it) (r := r) (h := xH it r n f (c - (a + 1))) hA hE hn (by omega) n 0 T1 (by omega) b6 (fun i hi => by have := hh i hi; unfold xbr at this ⊢; rw [a2 187 (by omega)]; exact this) (fun i hi => by rw [a2 189 (by omega)]; exact hit i hi) (fun i hi => by rw [a2 190 (by omega)]; exact hr i hi) (fun i hi => xbr_iff (a1 i hi) ⟨False.elim, fun h => ?_⟩) (fun T2 b1 b2 => ?_)
      · by_cases e : i = 0
        · rw [if_neg (by omega), if_pos e] at h; omega
        · rw [if_neg (by omega), if_neg e] at h; exact h
      refine xr_steps (pc' := 335) (L' := [(8, .int (Int32.ofInt ((0 : Nat) : Int))), (7, .int (Int32.ofInt (c : Int))), (6, .int (Int32.ofInt (z : Int))), (4, .int (Int32.ofInt (n : Int))), (0, .ref 165), (1, .int (Int32.ofInt (a : Int))), (2, .int (Int32.ofInt (fr : Int))), (3, .int (Int32.ofInt (tt : Int)))]) (st' := []) 2 rfl ?_
      refine xr_loc (L := [(8, .int (Int32.ofInt ((0 : Nat) : Int))), (7, .int (Int32.ofInt (c : Int))), (6, .int (Int32.ofInt (z : Int))), (4, .int (Int32.ofInt (n : Int))), (0, .ref 165), (1, .int (Int32.ofInt (a : Int))), (2, .int (Int32.ofInt (fr : Int))), (3, .int (Int32.ofInt (tt : Int)))]) (show [8, 7, 6, 4, 0, 1, 2, 3].Nodup by decide) ⟨rfl, rfl, rfl, rfl, rfl, rfl, rfl, rfl, trivial⟩ ?_
      refine mo_250p (h := xtr it r n (xH it r n f (c - (a + 1))) (t0 166 c)) hA hn (n + 1) 0 T2 (by omega) b1 (fun i hi => absurd hi (Nat.not_lt_zero _)) (fun T3 c1 c2 => ?_)
      refine xr_steps (pc' := 365) (L' := [(7, .int (Int32.ofInt (c : Int))), (6, .int (Int32.ofInt (z : Int))), (4, .int (Int32.ofInt (n : Int))), (0, .ref 165), (1, .int (Int32.ofInt (a : Int))), (2, .int (Int32.ofInt (fr : Int))), (3, .int (Int32.ofInt (tt : Int)))]) (st' := [.int (Int32.ofInt (n : Int)), .ref 165]) 2 rfl ?_
      refine xr_call (q := (.invokevirtual 192, 3, 251, 2)) (av := [.ref 165, .int (Int32.ofInt (n : Int))]) (rest := []) rfl rfl (by decide) rfl (ym_rcv hA rfl) (Nat.le_of_ble_eq_true rfl) (mo_251 (r := r) hA hn c1 (fun i hi => by rw [c2 190 (by omega), b2 190 (by omega), a2 190 (by omega)]; exact hr i hi)) ?_
      rintro _ _ ⟨rfl, T4, eA, d1, d2⟩
      rw [eA]
      clear eA
      refine xr_iinc (L' := [(7, .int (Int32.ofInt ((c : Int) + 1))), (6, .int (Int32.ofInt (z : Int))), (4, .int (Int32.ofInt (n : Int))), (0, .ref 165), (1, .int (Int32.ofInt (a : Int))), (2, .int (Int32.ofInt (fr : Int))), (3, .int (Int32.ofInt (tt : Int)))]) rfl rfl rfl ?_
      refine xr_steps (pc' := 169) (L' := [(7, .int (Int32.ofInt ((c : Int) + 1))), (6, .int (Int32.ofInt (z : Int))), (4, .int (Int32.ofInt (n : Int))), (0, .ref 165), (1, .int (Int32.ofInt (a : Int))), (2, .int (Int32.ofInt (fr : Int))), (3, .int (Int32.ofInt (tt : Int)))]) (st' := []) 1 rfl ?_
      refine xr_loc (L := [(7, .int (Int32.ofInt ((c : Int) + 1))), (6, .int (Int32.ofInt (z : Int))), (4, .int (Int32.ofInt (n : Int))), (0, .ref 165), (1, .int (Int32.ofInt (a : Int))), (2, .int (Int32.ofInt (fr : Int))), (3, .int (Int32.ofInt (tt : Int)))]) (show [7, 6, 4, 0, 1, 2, 3].Nodup by decide) ⟨rfl, rfl, rfl, rfl, rfl, rfl, rfl, trivial⟩ ?_
      rw [show (c : Int) + 1 = ((c + 1 : Nat) : Int) by omega]
      have dx : ∀ x : Nat, ¬ (187 ≤ x ∧ x ≤ 190) → T4 x = t x := fun x hx => by rw [d2 x (by omega), c2 x (by omega), b2 x (by omega), a2 x (by omega)]
      refine ih (j - 1) (by omega) (c + 1) T4 (by omega) (by omega) ((dx 166 (by omega)).trans e166) (fun i hi => ?_) (fun i hi => by rw [d2 189 (by omega), c2 189 (by omega), b2 189 (by omega), a2 189 (by omega)]; exact hit i hi) (fun i hi => by rw [d2 190 (by omega), c2 190 (by omega), b2 190 (by omega), a2 190 (by omega)]; exact hr i hi) (fun b t' g1 g2 => hQ b t' g1 (fun x hx => (g2 x hx).trans (dx x hx)))
      have h4 := d1 i hi
      rw [show c + 1 - (a + 1) = (c - (a + 1)) + 1 by omega]
      rw [show t0 166 c = f (c - (a + 1)) by rw [← hf (c - (a + 1)) (by omega)]; congr 1; omega] at h4
      exact h4
variable {M : Nat}
theorem mo_250l {g : Nat → Int} (hA : 194 ≤ A.1) (hE : ∀ j : Nat, 0 ≤ g j ∧ g j ≤ 127) (hM : fr + M ≤ 3710) : ∀ (k i n : Nat) (t : Nat → Nat → Int), n + k ≤ 8 → xvl g M k i → i ≤ M → (∀ j : Nat, j < M → t 166 (fr + j) = g j) → (∀ (n' : Nat) (t' : Nat → Nat → Int), n' = n + (xil g M k i).length → (∀ j : Nat, j < (xil g M k i).length → t' 189 (n + j) = ((xil g M k i).getD j (0, 0)).1 ∧ t' 190 (n + j) = ((xil g M k i).getD j (0, 0)).2) → (∀ j : Nat, j < n → t' 189 j = t 189 j ∧ t' 190 j = t 190 j) → xna t t' → xr_ok (xt_G w) d 250 116 [(4, .int (Int32.ofInt (n' : Int))), (0, .ref 165), (1, .int (Int32.ofInt (a : Int))), (2, .int (Int32.ofInt (fr : Int))), (3, .int (Int32.ofInt ((fr + M : Nat) : Int)))] [] (ym A s t') Q) → xr_ok (xt_G w) d 250 6 [(5, .int (Int32.ofInt ((fr + i : Nat) : Int))), (4, .int (Int32.ofInt (n : Int))), (0, .ref 165), (1, .int (Int32.ofInt (a : Int))), (2, .int (Int32.ofInt (fr : Int))), (3, .int (Int32.ofInt ((fr + M : Nat) : Int)))] [] (ym A s t) Q := by
  intro k
  induction k using Nat.strongRecOn with
  | _ k ih =>
    intro i n t hn hv hi hg hQ
    refine xr_steps (pc' := 9) (L' := [(5, .int (Int32.ofInt ((fr + i : Nat) : Int))), (4, .int (Int32.ofInt (n : Int))), (0, .ref 165), (1, .int (Int32.ofInt (a : Int))), (2, .int (Int32.ofInt (fr : Int))), (3, .int (Int32.ofInt ((fr + M : Nat) : Int)))]) (st' := [.int (Int32.ofInt ((fr + M : Nat) : Int)), .int (Int32.ofInt ((fr + i : Nat) : Int))]) 2 rfl ?_
    refine xr_icmp_ge rfl (by omega) (by omega) (fun z31 => ?_) (fun z31 => ?_)
    · refine xr_loc (L := [(4, .int (Int32.ofInt (n : Int))), (0, .ref 165), (1, .int (Int32.ofInt (a : Int))), (2, .int (Int32.ofInt (fr : Int))), (3, .int (Int32.ofInt ((fr + M : Nat) : Int)))]) (show [4, 0, 1, 2, 3].Nodup by decide) ⟨rfl, rfl, rfl, rfl, rfl, trivial⟩ ?_
      obtain rfl : i = M := by omega
      exact hQ n t (by rw [xil_end]; rfl) (fun j hj => by rw [xil_end] at hj; exact absurd hj (Nat.not_lt_zero _)) (fun _ _ => ⟨rfl, rfl⟩) (xna_refl t)
    · have hgi := hg i (by omega)
      have hEi := hE i
      have hEi1 := hE (i + 1)
      have hk1 : 1 ≤ k := by rcases Nat.eq_zero_or_pos k with h | h; (rw [h] at hv; exact absurd (show i = M from hv) (by omega)); exact h
      refine xr_steps (pc' := 13) (L' := [(5, .int (Int32.ofInt ((fr + i : Nat) : Int))), (4, .int (Int32.ofInt (n : Int))), (0, .ref 165), (1, .int (Int32.ofInt (a : Int))), (2, .int (Int32.ofInt (fr : Int))), (3, .int (Int32.ofInt ((fr + M : Nat) : Int)))]) (st' := [.ref 165]) 1 rfl ?_
      refine xr_getf (v := .ref 189) rfl (ym_165 hA) rfl ?_
      refine xr_steps (pc' := 19) (L' := [(5, .int (Int32.ofInt ((fr + i : Nat) : Int))), (4, .int (Int32.ofInt (n : Int))), (0, .ref 165), (1, .int (Int32.ofInt (a : Int))), (2, .int (Int32.ofInt (fr : Int))), (3, .int (Int32.ofInt ((fr + M : Nat) : Int)))]) (st' := [.ref 165, .int (Int32.ofInt (n : Int)), .ref 189]) 2 rfl ?_
      refine xr_getf (v := .ref 166) rfl (ym_165 hA) rfl ?_
      refine xr_steps (pc' := 24) (L' := [(5, .int (Int32.ofInt ((fr + i : Nat) : Int))), (4, .int (Int32.ofInt (n : Int))), (0, .ref 165), (1, .int (Int32.ofInt (a : Int))), (2, .int (Int32.ofInt (fr : Int))), (3, .int (Int32.ofInt ((fr + M : Nat) : Int)))]) (st' := [.int (Int32.ofInt ((fr + i : Nat) : Int)), .ref 166, .int (Int32.ofInt (n : Int)), .ref 189]) 1 rfl ?_
      refine ym_caload (e := t 166 ((fr + i : Nat) : Int).toNat) hA rfl rfl (by decide) (by omega) (by omega) rfl ?_
      rw [Int.toNat_natCast, show t 166 (fr + i) = g i from hg i (by omega)]
      refine ym_castore hA rfl rfl (by decide) (by omega) (by omega) (by omega) ?_
      rw [show (n : Int).toNat = n by omega]
      refine xr_steps (pc' := 29) (L' := [(5, .int (Int32.ofInt ((fr + i : Nat) : Int))), (4, .int (Int32.ofInt (n : Int))), (0, .ref 165), (1, .int (Int32.ofInt (a : Int))), (2, .int (Int32.ofInt (fr : Int))), (3, .int (Int32.ofInt ((fr + M : Nat) : Int)))]) (st' := [.int (Int32.ofInt 1), .int (Int32.ofInt ((fr + i : Nat) : Int))]) 2 rfl ?_
      refine xr_iadd rfl ?_
      refine xr_steps (pc' := 31) (L' := [(5, .int (Int32.ofInt ((fr + i : Nat) : Int))), (4, .int (Int32.ofInt (n : Int))), (0, .ref 165), (1, .int (Int32.ofInt (a : Int))), (2, .int (Int32.ofInt (fr : Int))), (3, .int (Int32.ofInt ((fr + M : Nat) : Int)))]) (st' := [.int (Int32.ofInt ((fr + M : Nat) : Int)), .int (Int32.ofInt (((fr + i : Nat) : Int) + 1))]) 1 rfl ?_
      refine xr_icmp_ge rfl (by omega) (by omega) (fun z32 => ?_) (fun z32 => ?_)
      · refine xr_steps (pc' := 70) (L' := [(6, .int (Int32.ofInt 0)), (5, .int (Int32.ofInt ((fr + i : Nat) : Int))), (4, .int (Int32.ofInt (n : Int))), (0, .ref 165), (1, .int (Int32.ofInt (a : Int))), (2, .int (Int32.ofInt (fr : Int))), (3, .int (Int32.ofInt ((fr + M : Nat) : Int)))]) (st' := [.ref 165]) 3 rfl ?_
        refine xr_getf (v := .ref 190) rfl (ym_165 hA) rfl ?_
        refine xr_steps (pc' := 77) (L' := [(6, .int (Int32.ofInt 0)), (5, .int (Int32.ofInt ((fr + i : Nat) : Int))), (4, .int (Int32.ofInt (n : Int))), (0, .ref 165), (1, .int (Int32.ofInt (a : Int))), (2, .int (Int32.ofInt (fr : Int))), (3, .int (Int32.ofInt ((fr + M : Nat) : Int)))]) (st' := [.int (Int32.ofInt 0), .int (Int32.ofInt (n : Int)), .ref 190]) 2 rfl ?_
        refine xr_if_eq rfl (by omega) (fun z33 => ?_) (fun z33 => ?_)
        · refine xr_steps (pc' := 94) (L' := [(6, .int (Int32.ofInt 0)), (5, .int (Int32.ofInt ((fr + i : Nat) : Int))), (4, .int (Int32.ofInt (n : Int))), (0, .ref 165), (1, .int (Int32.ofInt (a : Int))), (2, .int (Int32.ofInt (fr : Int))), (3, .int (Int32.ofInt ((fr + M : Nat) : Int)))]) (st' := [.int (Int32.ofInt 49), .int (Int32.ofInt (n : Int)), .ref 190]) 1 rfl ?_
          refine ym_castore hA rfl rfl (by decide) (by omega) (by omega) (by omega) ?_
          rw [show (n : Int).toNat = n by omega]
          refine xr_iinc (L' := [(4, .int (Int32.ofInt ((n : Int) + 1))), (6, .int (Int32.ofInt 0)), (5, .int (Int32.ofInt ((fr + i : Nat) : Int))), (0, .ref 165), (1, .int (Int32.ofInt (a : Int))), (2, .int (Int32.ofInt (fr : Int))), (3, .int (Int32.ofInt ((fr + M : Nat) : Int)))]) rfl rfl rfl ?_
          refine xr_steps (pc' := 102) (L' := [(4, .int (Int32.ofInt ((n : Int) + 1))), (6, .int (Int32.ofInt 0)), (5, .int (Int32.ofInt ((fr + i : Nat) : Int))), (0, .ref 165), (1, .int (Int32.ofInt (a : Int))), (2, .int (Int32.ofInt (fr : Int))), (3, .int (Int32.ofInt ((fr + M : Nat) : Int)))]) (st' := [.int (Int32.ofInt 0), .int (Int32.ofInt ((fr + i : Nat) : Int))]) 2 rfl ?_
          refine xr_if_eq rfl (by omega) (fun z34 => ?_) (fun z34 => ?_)
          · refine xr_steps (pc' := 110) (L' := [(4, .int (Int32.ofInt ((n : Int) + 1))), (6, .int (Int32.ofInt 0)), (5, .int (Int32.ofInt ((fr + i : Nat) : Int))), (0, .ref 165), (1, .int (Int32.ofInt (a : Int))), (2, .int (Int32.ofInt (fr : Int))), (3, .int (Int32.ofInt ((fr + M : Nat) : Int)))]) (st' := [.int (Int32.ofInt 1), .int (Int32.ofInt ((fr + i : Nat) : Int))]) 1 rfl ?_
            refine xr_iadd rfl ?_
            refine xr_steps (pc' := 6) (L' := [(5, .int (Int32.ofInt (((fr + i : Nat) : Int) + 1))), (4, .int (Int32.ofInt ((n : Int) + 1))), (6, .int (Int32.ofInt 0)), (0, .ref 165), (1, .int (Int32.ofInt (a : Int))), (2, .int (Int32.ofInt (fr : Int))), (3, .int (Int32.ofInt ((fr + M : Nat) : Int)))]) (st' := []) 2 rfl ?_
            refine xr_loc (L := [(5, .int (Int32.ofInt (((fr + i : Nat) : Int) + 1))), (4, .int (Int32.ofInt ((n : Int) + 1))), (0, .ref 165), (1, .int (Int32.ofInt (a : Int))), (2, .int (Int32.ofInt (fr : Int))), (3, .int (Int32.ofInt ((fr + M : Nat) : Int)))]) (show [5, 4, 0, 1, 2, 3].Nodup by decide) ⟨rfl, rfl, rfl, rfl, rfl, rfl, trivial⟩ ?_
            obtain ⟨k, rfl⟩ : ∃ k0, k = k0 + 1 := ⟨k - 1, by rcases Nat.eq_zero_or_pos k with h | h; (rw [h] at hv; exact absurd (show i = M from hv) (by omega)); omega⟩
            have hv2 : xvl g M k (i + 1) := by
              rcases hv with hv | ⟨-, -, hv⟩
              · omega
              · rw [if_neg (by omega)] at hv; exact hv
            rw [show ((fr + i : Nat) : Int) + 1 = ((fr + (i + 1) : Nat) : Int) by omega, show (n : Int) + 1 = ((n + 1 : Nat) : Int) by omega]
            refine ih k (by omega) (i + 1) (n + 1) _ (by omega) hv2 (by omega) (fun j hj => hg j hj) (fun n' t' g1 g2 g3 g4 => hQ n' t' ?_ ?_ ?_ ?_)
            · rw [xil, if_pos (by omega), if_neg (by omega), List.length_cons]; omega
            · intro j hj
              rw [xil, if_pos (by omega), if_neg (by omega), List.length_cons] at hj
              rw [xil, if_pos (by omega), if_neg (by omega)]
              cases j with
              | zero =>
                have e1 := g3 n (by omega)
                rw [Nat.add_zero, e1.1, e1.2]
                exact ⟨ya_up_same _ _ _, ya_up_same _ _ _⟩
              | succ j =>
                have e1 := g2 j (by omega)
                rw [show n + (j + 1) = n + 1 + j by omega]
                exact e1
            · intro j hj
              have e1 := g3 j (by omega)
              rw [e1.1, e1.2]
              exact ⟨ya_up_ne _ _ (by omega), ya_up_ne _ _ (by omega)⟩
            · exact fun x hx => (g4 x hx).trans (by rw [ya_up_ne _ _ (by omega), ya_up_ne _ _ (by omega)])
          · exfalso; omega
        · exfalso; omega
      · refine xr_steps (pc' := 35) (L' := [(5, .int (Int32.ofInt ((fr + i : Nat) : Int))), (4, .int (Int32.ofInt (n : Int))), (0, .ref 165), (1, .int (Int32.ofInt (a : Int))), (2, .int (Int32.ofInt (fr : Int))), (3, .int (Int32.ofInt ((fr + M : Nat) : Int)))]) (st' := [.ref 165]) 1 rfl ?_
        refine xr_getf (v := .ref 166) rfl (ym_165 hA) rfl ?_
        refine xr_steps (pc' := 41) (L' := [(5, .int (Int32.ofInt ((fr + i : Nat) : Int))), (4, .int (Int32.ofInt (n : Int))), (0, .ref 165), (1, .int (Int32.ofInt (a : Int))), (2, .int (Int32.ofInt (fr : Int))), (3, .int (Int32.ofInt ((fr + M : Nat) : Int)))]) (st' := [.int (Int32.ofInt 1), .int (Int32.ofInt ((fr + i : Nat) : Int)), .ref 166]) 2 rfl ?_
        refine xr_iadd rfl ?_
        refine ym_caload (e := t 166 (((fr + i : Nat) : Int) + 1).toNat) hA rfl rfl (by decide) (by omega) (by omega) rfl ?_
        rw [show (t 166 (((fr + i : Nat) : Int) + 1).toNat) = g (i + 1) by rw [show (((fr + i : Nat) : Int) + 1).toNat = fr + (i + 1) by omega]; exact hg (i + 1) (by omega)]
        refine xr_steps (pc' := 45) (L' := [(5, .int (Int32.ofInt ((fr + i : Nat) : Int))), (4, .int (Int32.ofInt (n : Int))), (0, .ref 165), (1, .int (Int32.ofInt (a : Int))), (2, .int (Int32.ofInt (fr : Int))), (3, .int (Int32.ofInt ((fr + M : Nat) : Int)))]) (st' := [.int (Int32.ofInt 42), .int (Int32.ofInt (g (i + 1)))]) 1 rfl ?_
        refine xr_icmp_eq rfl (by omega) (by omega) (fun z35 => ?_) (fun z35 => ?_)
        · refine xr_steps (pc' := 70) (L' := [(6, .int (Int32.ofInt 1)), (5, .int (Int32.ofInt ((fr + i : Nat) : Int))), (4, .int (Int32.ofInt (n : Int))), (0, .ref 165), (1, .int (Int32.ofInt (a : Int))), (2, .int (Int32.ofInt (fr : Int))), (3, .int (Int32.ofInt ((fr + M : Nat) : Int)))]) (st' := [.ref 165]) 4 rfl ?_
          refine xr_getf (v := .ref 190) rfl (ym_165 hA) rfl ?_
          refine xr_steps (pc' := 77) (L' := [(6, .int (Int32.ofInt 1)), (5, .int (Int32.ofInt ((fr + i : Nat) : Int))), (4, .int (Int32.ofInt (n : Int))), (0, .ref 165), (1, .int (Int32.ofInt (a : Int))), (2, .int (Int32.ofInt (fr : Int))), (3, .int (Int32.ofInt ((fr + M : Nat) : Int)))]) (st' := [.int (Int32.ofInt 1), .int (Int32.ofInt (n : Int)), .ref 190]) 2 rfl ?_
          refine xr_if_eq rfl (by omega) (fun z36 => ?_) (fun z36 => ?_)
          · exfalso; omega
          · refine xr_steps (pc' := 81) (L' := [(6, .int (Int32.ofInt 1)), (5, .int (Int32.ofInt ((fr + i : Nat) : Int))), (4, .int (Int32.ofInt (n : Int))), (0, .ref 165), (1, .int (Int32.ofInt (a : Int))), (2, .int (Int32.ofInt (fr : Int))), (3, .int (Int32.ofInt ((fr + M : Nat) : Int)))]) (st' := [.ref 165, .int (Int32.ofInt (n : Int)), .ref 190]) 1 rfl ?_
            refine xr_getf (v := .ref 166) rfl (ym_165 hA) rfl ?_
            refine xr_steps (pc' := 87) (L' := [(6, .int (Int32.ofInt 1)), (5, .int (Int32.ofInt ((fr + i : Nat) : Int))), (4, .int (Int32.ofInt (n : Int))), (0, .ref 165), (1, .int (Int32.ofInt (a : Int))), (2, .int (Int32.ofInt (fr : Int))), (3, .int (Int32.ofInt ((fr + M : Nat) : Int)))]) (st' := [.int (Int32.ofInt 1), .int (Int32.ofInt ((fr + i : Nat) : Int)), .ref 166, .int (Int32.ofInt (n : Int)), .ref 190]) 2 rfl ?_
            refine xr_iadd rfl ?_
            refine ym_caload (e := t 166 (((fr + i : Nat) : Int) + 1).toNat) hA rfl rfl (by decide) (by omega) (by omega) rfl ?_
            rw [show (t 166 (((fr + i : Nat) : Int) + 1).toNat) = g (i + 1) by rw [show (((fr + i : Nat) : Int) + 1).toNat = fr + (i + 1) by omega]; exact hg (i + 1) (by omega)]
            refine xr_steps (pc' := 94) (L' := [(6, .int (Int32.ofInt 1)), (5, .int (Int32.ofInt ((fr + i : Nat) : Int))), (4, .int (Int32.ofInt (n : Int))), (0, .ref 165), (1, .int (Int32.ofInt (a : Int))), (2, .int (Int32.ofInt (fr : Int))), (3, .int (Int32.ofInt ((fr + M : Nat) : Int)))]) (st' := [.int (Int32.ofInt (g (i + 1))), .int (Int32.ofInt (n : Int)), .ref 190]) 1 rfl ?_
            refine ym_castore hA rfl rfl (by decide) (by omega) (by omega) (by omega) ?_
            rw [show (n : Int).toNat = n by omega]
            refine xr_iinc (L' := [(4, .int (Int32.ofInt ((n : Int) + 1))), (6, .int (Int32.ofInt 1)), (5, .int (Int32.ofInt ((fr + i : Nat) : Int))), (0, .ref 165), (1, .int (Int32.ofInt (a : Int))), (2, .int (Int32.ofInt (fr : Int))), (3, .int (Int32.ofInt ((fr + M : Nat) : Int)))]) rfl rfl rfl ?_
            refine xr_steps (pc' := 102) (L' := [(4, .int (Int32.ofInt ((n : Int) + 1))), (6, .int (Int32.ofInt 1)), (5, .int (Int32.ofInt ((fr + i : Nat) : Int))), (0, .ref 165), (1, .int (Int32.ofInt (a : Int))), (2, .int (Int32.ofInt (fr : Int))), (3, .int (Int32.ofInt ((fr + M : Nat) : Int)))]) (st' := [.int (Int32.ofInt 1), .int (Int32.ofInt ((fr + i : Nat) : Int))]) 2 rfl ?_
            refine xr_if_eq rfl (by omega) (fun z37 => ?_) (fun z37 => ?_)
            · exfalso; omega
            · refine xr_steps (pc' := 110) (L' := [(4, .int (Int32.ofInt ((n : Int) + 1))), (6, .int (Int32.ofInt 1)), (5, .int (Int32.ofInt ((fr + i : Nat) : Int))), (0, .ref 165), (1, .int (Int32.ofInt (a : Int))), (2, .int (Int32.ofInt (fr : Int))), (3, .int (Int32.ofInt ((fr + M : Nat) : Int)))]) (st' := [.int (Int32.ofInt 2), .int (Int32.ofInt ((fr + i : Nat) : Int))]) 2 rfl ?_
              refine xr_iadd rfl ?_
              refine xr_steps (pc' := 6) (L' := [(5, .int (Int32.ofInt (((fr + i : Nat) : Int) + 2))), (4, .int (Int32.ofInt ((n : Int) + 1))), (6, .int (Int32.ofInt 1)), (0, .ref 165), (1, .int (Int32.ofInt (a : Int))), (2, .int (Int32.ofInt (fr : Int))), (3, .int (Int32.ofInt ((fr + M : Nat) : Int)))]) (st' := []) 2 rfl ?_
              refine xr_loc (L := [(5, .int (Int32.ofInt (((fr + i : Nat) : Int) + 2))), (4, .int (Int32.ofInt ((n : Int) + 1))), (0, .ref 165), (1, .int (Int32.ofInt (a : Int))), (2, .int (Int32.ofInt (fr : Int))), (3, .int (Int32.ofInt ((fr + M : Nat) : Int)))]) (show [5, 4, 0, 1, 2, 3].Nodup by decide) ⟨rfl, rfl, rfl, rfl, rfl, rfl, trivial⟩ ?_
              obtain ⟨k, rfl⟩ : ∃ k0, k = k0 + 1 := ⟨k - 1, by rcases Nat.eq_zero_or_pos k with h | h; (rw [h] at hv; exact absurd (show i = M from hv) (by omega)); omega⟩
              have hv2 : xvl g M k (i + 2) := by
                rcases hv with hv | ⟨-, -, hv⟩
                · omega
                · rw [if_pos ⟨by omega, by omega⟩] at hv; exact hv
              rw [show ((fr + i : Nat) : Int) + 2 = ((fr + (i + 2) : Nat) : Int) by omega, show (n : Int) + 1 = ((n + 1 : Nat) : Int) by omega]
              refine ih k (by omega) (i + 2) (n + 1) _ (by omega) hv2 (by omega) (fun j hj => hg j hj) (fun n' t' g1 g2 g3 g4 => hQ n' t' ?_ ?_ ?_ ?_)
              · rw [xil, if_pos (by omega), if_pos ⟨by omega, by omega⟩, List.length_cons]; omega
              · intro j hj
                rw [xil, if_pos (by omega), if_pos ⟨by omega, by omega⟩, List.length_cons] at hj
                rw [xil, if_pos (by omega), if_pos ⟨by omega, by omega⟩]
                cases j with
                | zero =>
                  have e1 := g3 n (by omega)
                  rw [Nat.add_zero, e1.1, e1.2]
                  exact ⟨ya_up_same _ _ _, ya_up_same _ _ _⟩
                | succ j =>
                  have e1 := g2 j (by omega)
                  rw [show n + (j + 1) = n + 1 + j by omega]
                  exact e1
              · intro j hj
                have e1 := g3 j (by omega)
                rw [e1.1, e1.2]
                exact ⟨ya_up_ne _ _ (by omega), ya_up_ne _ _ (by omega)⟩
              · exact fun x hx => (g4 x hx).trans (by rw [ya_up_ne _ _ (by omega), ya_up_ne _ _ (by omega)])
        · refine xr_steps (pc' := 49) (L' := [(5, .int (Int32.ofInt ((fr + i : Nat) : Int))), (4, .int (Int32.ofInt (n : Int))), (0, .ref 165), (1, .int (Int32.ofInt (a : Int))), (2, .int (Int32.ofInt (fr : Int))), (3, .int (Int32.ofInt ((fr + M : Nat) : Int)))]) (st' := [.ref 165]) 1 rfl ?_
          refine xr_getf (v := .ref 166) rfl (ym_165 hA) rfl ?_
          refine xr_steps (pc' := 55) (L' := [(5, .int (Int32.ofInt ((fr + i : Nat) : Int))), (4, .int (Int32.ofInt (n : Int))), (0, .ref 165), (1, .int (Int32.ofInt (a : Int))), (2, .int (Int32.ofInt (fr : Int))), (3, .int (Int32.ofInt ((fr + M : Nat) : Int)))]) (st' := [.int (Int32.ofInt 1), .int (Int32.ofInt ((fr + i : Nat) : Int)), .ref 166]) 2 rfl ?_
          refine xr_iadd rfl ?_
          refine ym_caload (e := t 166 (((fr + i : Nat) : Int) + 1).toNat) hA rfl rfl (by decide) (by omega) (by omega) rfl ?_
          rw [show (t 166 (((fr + i : Nat) : Int) + 1).toNat) = g (i + 1) by rw [show (((fr + i : Nat) : Int) + 1).toNat = fr + (i + 1) by omega]; exact hg (i + 1) (by omega)]
          refine xr_steps (pc' := 59) (L' := [(5, .int (Int32.ofInt ((fr + i : Nat) : Int))), (4, .int (Int32.ofInt (n : Int))), (0, .ref 165), (1, .int (Int32.ofInt (a : Int))), (2, .int (Int32.ofInt (fr : Int))), (3, .int (Int32.ofInt ((fr + M : Nat) : Int)))]) (st' := [.int (Int32.ofInt 43), .int (Int32.ofInt (g (i + 1)))]) 1 rfl ?_
          refine xr_icmp_ne rfl (by omega) (by omega) (fun z38 => ?_) (fun z38 => ?_)
          · refine xr_steps (pc' := 70) (L' := [(6, .int (Int32.ofInt 0)), (5, .int (Int32.ofInt ((fr + i : Nat) : Int))), (4, .int (Int32.ofInt (n : Int))), (0, .ref 165), (1, .int (Int32.ofInt (a : Int))), (2, .int (Int32.ofInt (fr : Int))), (3, .int (Int32.ofInt ((fr + M : Nat) : Int)))]) (st' := [.ref 165]) 3 rfl ?_
            refine xr_getf (v := .ref 190) rfl (ym_165 hA) rfl ?_
            refine xr_steps (pc' := 77) (L' := [(6, .int (Int32.ofInt 0)), (5, .int (Int32.ofInt ((fr + i : Nat) : Int))), (4, .int (Int32.ofInt (n : Int))), (0, .ref 165), (1, .int (Int32.ofInt (a : Int))), (2, .int (Int32.ofInt (fr : Int))), (3, .int (Int32.ofInt ((fr + M : Nat) : Int)))]) (st' := [.int (Int32.ofInt 0), .int (Int32.ofInt (n : Int)), .ref 190]) 2 rfl ?_
            refine xr_if_eq rfl (by omega) (fun z39 => ?_) (fun z39 => ?_)
            · refine xr_steps (pc' := 94) (L' := [(6, .int (Int32.ofInt 0)), (5, .int (Int32.ofInt ((fr + i : Nat) : Int))), (4, .int (Int32.ofInt (n : Int))), (0, .ref 165), (1, .int (Int32.ofInt (a : Int))), (2, .int (Int32.ofInt (fr : Int))), (3, .int (Int32.ofInt ((fr + M : Nat) : Int)))]) (st' := [.int (Int32.ofInt 49), .int (Int32.ofInt (n : Int)), .ref 190]) 1 rfl ?_
              refine ym_castore hA rfl rfl (by decide) (by omega) (by omega) (by omega) ?_
              rw [show (n : Int).toNat = n by omega]
              refine xr_iinc (L' := [(4, .int (Int32.ofInt ((n : Int) + 1))), (6, .int (Int32.ofInt 0)), (5, .int (Int32.ofInt ((fr + i : Nat) : Int))), (0, .ref 165), (1, .int (Int32.ofInt (a : Int))), (2, .int (Int32.ofInt (fr : Int))), (3, .int (Int32.ofInt ((fr + M : Nat) : Int)))]) rfl rfl rfl ?_
              refine xr_steps (pc' := 102) (L' := [(4, .int (Int32.ofInt ((n : Int) + 1))), (6, .int (Int32.ofInt 0)), (5, .int (Int32.ofInt ((fr + i : Nat) : Int))), (0, .ref 165), (1, .int (Int32.ofInt (a : Int))), (2, .int (Int32.ofInt (fr : Int))), (3, .int (Int32.ofInt ((fr + M : Nat) : Int)))]) (st' := [.int (Int32.ofInt 0), .int (Int32.ofInt ((fr + i : Nat) : Int))]) 2 rfl ?_
              refine xr_if_eq rfl (by omega) (fun z40 => ?_) (fun z40 => ?_)
              · refine xr_steps (pc' := 110) (L' := [(4, .int (Int32.ofInt ((n : Int) + 1))), (6, .int (Int32.ofInt 0)), (5, .int (Int32.ofInt ((fr + i : Nat) : Int))), (0, .ref 165), (1, .int (Int32.ofInt (a : Int))), (2, .int (Int32.ofInt (fr : Int))), (3, .int (Int32.ofInt ((fr + M : Nat) : Int)))]) (st' := [.int (Int32.ofInt 1), .int (Int32.ofInt ((fr + i : Nat) : Int))]) 1 rfl ?_
                refine xr_iadd rfl ?_
                refine xr_steps (pc' := 6) (L' := [(5, .int (Int32.ofInt (((fr + i : Nat) : Int) + 1))), (4, .int (Int32.ofInt ((n : Int) + 1))), (6, .int (Int32.ofInt 0)), (0, .ref 165), (1, .int (Int32.ofInt (a : Int))), (2, .int (Int32.ofInt (fr : Int))), (3, .int (Int32.ofInt ((fr + M : Nat) : Int)))]) (st' := []) 2 rfl ?_
                refine xr_loc (L := [(5, .int (Int32.ofInt (((fr + i : Nat) : Int) + 1))), (4, .int (Int32.ofInt ((n : Int) + 1))), (0, .ref 165), (1, .int (Int32.ofInt (a : Int))), (2, .int (Int32.ofInt (fr : Int))), (3, .int (Int32.ofInt ((fr + M : Nat) : Int)))]) (show [5, 4, 0, 1, 2, 3].Nodup by decide) ⟨rfl, rfl, rfl, rfl, rfl, rfl, trivial⟩ ?_
                obtain ⟨k, rfl⟩ : ∃ k0, k = k0 + 1 := ⟨k - 1, by rcases Nat.eq_zero_or_pos k with h | h; (rw [h] at hv; exact absurd (show i = M from hv) (by omega)); omega⟩
                have hv2 : xvl g M k (i + 1) := by
                  rcases hv with hv | ⟨-, -, hv⟩
                  · omega
                  · rw [if_neg (by omega)] at hv; exact hv
                rw [show ((fr + i : Nat) : Int) + 1 = ((fr + (i + 1) : Nat) : Int) by omega, show (n : Int) + 1 = ((n + 1 : Nat) : Int) by omega]
                refine ih k (by omega) (i + 1) (n + 1) _ (by omega) hv2 (by omega) (fun j hj => hg j hj) (fun n' t' g1 g2 g3 g4 => hQ n' t' ?_ ?_ ?_ ?_)
                · rw [xil, if_pos (by omega), if_neg (by omega), List.length_cons]; omega
                · intro j hj
                  rw [xil, if_pos (by omega), if_neg (by omega), List.length_cons] at hj
                  rw [xil, if_pos (by omega), if_neg (by omega)]
                  cases j with
                  | zero =>
                    have e1 := g3 n (by omega)
                    rw [Nat.add_zero, e1.1, e1.2]
                    exact ⟨ya_up_same _ _ _, ya_up_same _ _ _⟩
                  | succ j =>
                    have e1 := g2 j (by omega)
                    rw [show n + (j + 1) = n + 1 + j by omega]
                    exact e1
                · intro j hj
                  have e1 := g3 j (by omega)
                  rw [e1.1, e1.2]
                  exact ⟨ya_up_ne _ _ (by omega), ya_up_ne _ _ (by omega)⟩
                · exact fun x hx => (g4 x hx).trans (by rw [ya_up_ne _ _ (by omega), ya_up_ne _ _ (by omega)])
              · exfalso; omega
            · exfalso; omega
          · refine xr_steps (pc' := 70) (L' := [(6, .int (Int32.ofInt 1)), (5, .int (Int32.ofInt ((fr + i : Nat) : Int))), (4, .int (Int32.ofInt (n : Int))), (0, .ref 165), (1, .int (Int32.ofInt (a : Int))), (2, .int (Int32.ofInt (fr : Int))), (3, .int (Int32.ofInt ((fr + M : Nat) : Int)))]) (st' := [.ref 165]) 4 rfl ?_
            refine xr_getf (v := .ref 190) rfl (ym_165 hA) rfl ?_
            refine xr_steps (pc' := 77) (L' := [(6, .int (Int32.ofInt 1)), (5, .int (Int32.ofInt ((fr + i : Nat) : Int))), (4, .int (Int32.ofInt (n : Int))), (0, .ref 165), (1, .int (Int32.ofInt (a : Int))), (2, .int (Int32.ofInt (fr : Int))), (3, .int (Int32.ofInt ((fr + M : Nat) : Int)))]) (st' := [.int (Int32.ofInt 1), .int (Int32.ofInt (n : Int)), .ref 190]) 2 rfl ?_
            refine xr_if_eq rfl (by omega) (fun z41 => ?_) (fun z41 => ?_)
            · exfalso; omega
            · refine xr_steps (pc' := 81) (L' := [(6, .int (Int32.ofInt 1)), (5, .int (Int32.ofInt ((fr + i : Nat) : Int))), (4, .int (Int32.ofInt (n : Int))), (0, .ref 165), (1, .int (Int32.ofInt (a : Int))), (2, .int (Int32.ofInt (fr : Int))), (3, .int (Int32.ofInt ((fr + M : Nat) : Int)))]) (st' := [.ref 165, .int (Int32.ofInt (n : Int)), .ref 190]) 1 rfl ?_
              refine xr_getf (v := .ref 166) rfl (ym_165 hA) rfl ?_
              refine xr_steps (pc' := 87) (L' := [(6, .int (Int32.ofInt 1)), (5, .int (Int32.ofInt ((fr + i : Nat) : Int))), (4, .int (Int32.ofInt (n : Int))), (0, .ref 165), (1, .int (Int32.ofInt (a : Int))), (2, .int (Int32.ofInt (fr : Int))), (3, .int (Int32.ofInt ((fr + M : Nat) : Int)))]) (st' := [.int (Int32.ofInt 1), .int (Int32.ofInt ((fr + i : Nat) : Int)), .ref 166, .int (Int32.ofInt (n : Int)), .ref 190]) 2 rfl ?_
              refine xr_iadd rfl ?_
              refine ym_caload (e := t 166 (((fr + i : Nat) : Int) + 1).toNat) hA rfl rfl (by decide) (by omega) (by omega) rfl ?_
              rw [show (t 166 (((fr + i : Nat) : Int) + 1).toNat) = g (i + 1) by rw [show (((fr + i : Nat) : Int) + 1).toNat = fr + (i + 1) by omega]; exact hg (i + 1) (by omega)]
              refine xr_steps (pc' := 94) (L' := [(6, .int (Int32.ofInt 1)), (5, .int (Int32.ofInt ((fr + i : Nat) : Int))), (4, .int (Int32.ofInt (n : Int))), (0, .ref 165), (1, .int (Int32.ofInt (a : Int))), (2, .int (Int32.ofInt (fr : Int))), (3, .int (Int32.ofInt ((fr + M : Nat) : Int)))]) (st' := [.int (Int32.ofInt (g (i + 1))), .int (Int32.ofInt (n : Int)), .ref 190]) 1 rfl ?_
              refine ym_castore hA rfl rfl (by decide) (by omega) (by omega) (by omega) ?_
              rw [show (n : Int).toNat = n by omega]
              refine xr_iinc (L' := [(4, .int (Int32.ofInt ((n : Int) + 1))), (6, .int (Int32.ofInt 1)), (5, .int (Int32.ofInt ((fr + i : Nat) : Int))), (0, .ref 165), (1, .int (Int32.ofInt (a : Int))), (2, .int (Int32.ofInt (fr : Int))), (3, .int (Int32.ofInt ((fr + M : Nat) : Int)))]) rfl rfl rfl ?_
              refine xr_steps (pc' := 102) (L' := [(4, .int (Int32.ofInt ((n : Int) + 1))), (6, .int (Int32.ofInt 1)), (5, .int (Int32.ofInt ((fr + i : Nat) : Int))), (0, .ref 165), (1, .int (Int32.ofInt (a : Int))), (2, .int (Int32.ofInt (fr : Int))), (3, .int (Int32.ofInt ((fr + M : Nat) : Int)))]) (st' := [.int (Int32.ofInt 1), .int (Int32.ofInt ((fr + i : Nat) : Int))]) 2 rfl ?_
              refine xr_if_eq rfl (by omega) (fun z42 => ?_) (fun z42 => ?_)
              · exfalso; omega
              · refine xr_steps (pc' := 110) (L' := [(4, .int (Int32.ofInt ((n : Int) + 1))), (6, .int (Int32.ofInt 1)), (5, .int (Int32.ofInt ((fr + i : Nat) : Int))), (0, .ref 165), (1, .int (Int32.ofInt (a : Int))), (2, .int (Int32.ofInt (fr : Int))), (3, .int (Int32.ofInt ((fr + M : Nat) : Int)))]) (st' := [.int (Int32.ofInt 2), .int (Int32.ofInt ((fr + i : Nat) : Int))]) 2 rfl ?_
                refine xr_iadd rfl ?_
                refine xr_steps (pc' := 6) (L' := [(5, .int (Int32.ofInt (((fr + i : Nat) : Int) + 2))), (4, .int (Int32.ofInt ((n : Int) + 1))), (6, .int (Int32.ofInt 1)), (0, .ref 165), (1, .int (Int32.ofInt (a : Int))), (2, .int (Int32.ofInt (fr : Int))), (3, .int (Int32.ofInt ((fr + M : Nat) : Int)))]) (st' := []) 2 rfl ?_
                refine xr_loc (L := [(5, .int (Int32.ofInt (((fr + i : Nat) : Int) + 2))), (4, .int (Int32.ofInt ((n : Int) + 1))), (0, .ref 165), (1, .int (Int32.ofInt (a : Int))), (2, .int (Int32.ofInt (fr : Int))), (3, .int (Int32.ofInt ((fr + M : Nat) : Int)))]) (show [5, 4, 0, 1, 2, 3].Nodup by decide) ⟨rfl, rfl, rfl, rfl, rfl, rfl, trivial⟩ ?_
                obtain ⟨k, rfl⟩ : ∃ k0, k = k0 + 1 := ⟨k - 1, by rcases Nat.eq_zero_or_pos k with h | h; (rw [h] at hv; exact absurd (show i = M from hv) (by omega)); omega⟩
                have hv2 : xvl g M k (i + 2) := by
                  rcases hv with hv | ⟨-, -, hv⟩
                  · omega
                  · rw [if_pos ⟨by omega, by omega⟩] at hv; exact hv
                rw [show ((fr + i : Nat) : Int) + 2 = ((fr + (i + 2) : Nat) : Int) by omega, show (n : Int) + 1 = ((n + 1 : Nat) : Int) by omega]
                refine ih k (by omega) (i + 2) (n + 1) _ (by omega) hv2 (by omega) (fun j hj => hg j hj) (fun n' t' g1 g2 g3 g4 => hQ n' t' ?_ ?_ ?_ ?_)
                · rw [xil, if_pos (by omega), if_pos ⟨by omega, by omega⟩, List.length_cons]; omega
                · intro j hj
                  rw [xil, if_pos (by omega), if_pos ⟨by omega, by omega⟩, List.length_cons] at hj
                  rw [xil, if_pos (by omega), if_pos ⟨by omega, by omega⟩]
                  cases j with
                  | zero =>
                    have e1 := g3 n (by omega)
                    rw [Nat.add_zero, e1.1, e1.2]
                    exact ⟨ya_up_same _ _ _, ya_up_same _ _ _⟩
                  | succ j =>
                    have e1 := g2 j (by omega)
                    rw [show n + (j + 1) = n + 1 + j by omega]
                    exact e1
                · intro j hj
                  have e1 := g3 j (by omega)
                  rw [e1.1, e1.2]
                  exact ⟨ya_up_ne _ _ (by omega), ya_up_ne _ _ (by omega)⟩
                · exact fun x hx => (g4 x hx).trans (by rw [ya_up_ne _ _ (by omega), ya_up_ne _ _ (by omega)])
end AS
/-! The reference: isAs, all of it -/
theorem xgd_rng {p : List Int} (h : ∀ j : Nat, j < p.length → 0 ≤ p.getD j 0 ∧ p.getD j 0 ≤ 127) (j : Nat) : 0 ≤ p.getD j 0 ∧ p.getD j 0 ≤ 127 := by
  by_cases hj : j < p.length
  · exact h j hj
  · rw [List.getD_eq_getElem?_getD, List.getElem?_eq_none (by omega)]
    exact ⟨by decide, by decide⟩
theorem xil_rng {g : Nat → Int} {M : Nat} (hE : ∀ j : Nat, 0 ≤ g j ∧ g j ≤ 127) : ∀ k i : Nat, ∀ c ∈ xil g M k i, (0 ≤ c.1 ∧ c.1 ≤ 127) ∧ 0 ≤ c.2 ∧ c.2 ≤ 127 := by
  intro k
  induction k with
  | zero => intro i c hc; exact absurd hc List.not_mem_nil
  | succ k ih =>
    intro i c hc
    rw [xil] at hc
    split at hc
    · split at hc
      · rcases List.mem_cons.mp hc with rfl | hc
        · exact ⟨hE i, hE (i + 1)⟩
        · exact ih (i + 2) c hc
      · rcases List.mem_cons.mp hc with rfl | hc
        · exact ⟨hE i, show (0 : Int) ≤ 49 by omega, show (49 : Int) ≤ 127 by omega⟩
        · exact ih (i + 1) c hc
    · exact absurd hc List.not_mem_nil
theorem xil_at {g : Nat → Int} {M n i : Nat} (hn : n = (xil g M 8 0).length) (hi : i < n) : (xil g M 8 0).getD i (0, 0) ∈ xil g M 8 0 := by
  rw [List.getD_eq_getElem?_getD, List.getElem?_eq_getElem (by omega)]
  exact List.getElem_mem _
theorem xil_rows {g it : Nat → Int} {M n : Nat} {t : Nat → Nat → Int} (hE : ∀ j : Nat, 0 ≤ g j ∧ g j ≤ 127) (hit : it = fun i => ((xil g M 8 0).getD i (0, 0)).1) (hn : n = (xil g M 8 0).length) (h : ∀ j : Nat, j < (xil g M 8 0).length → t 189 j = ((xil g M 8 0).getD j (0, 0)).1) (i : Nat) (hi : i < n) : t 189 i = it i ∧ 0 ≤ it i ∧ it i ≤ 127 := by
  rw [hit]
  exact ⟨h i (by omega), (xil_rng hE 8 0 _ (xil_at hn hi)).1⟩
theorem xil_rows2 {g r : Nat → Int} {M n : Nat} {t : Nat → Nat → Int} (hE : ∀ j : Nat, 0 ≤ g j ∧ g j ≤ 127) (hr : r = fun i => ((xil g M 8 0).getD i (0, 0)).2) (hn : n = (xil g M 8 0).length) (h : ∀ j : Nat, j < (xil g M 8 0).length → t 190 j = ((xil g M 8 0).getD j (0, 0)).2) (i : Nat) (hi : i < n) : t 190 i = r i ∧ 0 ≤ r i ∧ r i ≤ 127 := by
  rw [hr]
  exact ⟨h i (by omega), (xil_rng hE 8 0 _ (xil_at hn hi)).2⟩
theorem mo_250 {w : Value} {d : Nat} {A : xb_H} {s : Nat → Int} {t : Nat → Nat → Int} {a fr m z : Nat} {p l : List Int} {u : xv m} (hA : 194 ≤ A.1) (hE : ∀ j : Nat, 0 ≤ t 166 j ∧ t 166 j ≤ 127) (hm : m ≤ 6) (hu : xV (t 166) m a u z) (hz : z < 3711 ∧ z = a + l.length + 2) (hl : ∀ j : Nat, j < l.length → t 166 (a + 1 + j) = l.getD j 0) (hM : fr + p.length ≤ 3710) (hp : ∀ j : Nat, j < p.length → t 166 (fr + j) = p.getD j 0) (hv : xvl (fun j => p.getD j 0) p.length 8 0) : xr_ok (xt_G w) (d + 1 + 1) 250 0 [(0, .ref 165), (1, .int (Int32.ofInt (a : Int))), (2, .int (Int32.ofInt (fr : Int))), (3, .int (Int32.ofInt ((fr + p.length : Nat) : Int)))] [] (ym A s t) (fun o A' => ∃ v0, o = .inl v0 ∧ ∃ (b : Int) (t' : Nat → Nat → Int), (v0 = some (.int (Int32.ofInt b)) ∧ A' = ym A s t' ∧ xna t t') ∧ ((b = 1 ∧ xIM p l) ∨ (b = 0 ∧ ¬ xIM p l))) := by
  have hgE : ∀ j : Nat, 0 ≤ (fun j => p.getD j 0) j ∧ (fun j => p.getD j 0) j ≤ 127 := fun j => xgd_rng (fun j hj => by rw [← hp j hj]; exact hE _) j
  refine xr_steps (pc' := 6) (L' := [(5, .int (Int32.ofInt (fr : Int))), (4, .int (Int32.ofInt 0)), (0, .ref 165), (1, .int (Int32.ofInt (a : Int))), (2, .int (Int32.ofInt (fr : Int))), (3, .int (Int32.ofInt ((fr + p.length : Nat) : Int)))]) (st' := []) 4 rfl ?_
  refine xr_loc (L := [(5, .int (Int32.ofInt (fr : Int))), (4, .int (Int32.ofInt 0)), (0, .ref 165), (1, .int (Int32.ofInt (a : Int))), (2, .int (Int32.ofInt (fr : Int))), (3, .int (Int32.ofInt ((fr + p.length : Nat) : Int)))]) (show [5, 4, 0, 1, 2, 3].Nodup by decide) ⟨rfl, rfl, rfl, rfl, rfl, rfl, trivial⟩ ?_
  have hL : xr_ok (xt_G w) (d + 1 + 1) 250 6 [(5, .int (Int32.ofInt ((fr + 0 : Nat) : Int))), (4, .int (Int32.ofInt ((0 : Nat) : Int))), (0, .ref 165), (1, .int (Int32.ofInt (a : Int))), (2, .int (Int32.ofInt (fr : Int))), (3, .int (Int32.ofInt ((fr + p.length : Nat) : Int)))] [] (ym A s t) (fun o A' => ∃ v0, o = .inl v0 ∧ ∃ (b : Int) (t' : Nat → Nat → Int), (v0 = some (.int (Int32.ofInt b)) ∧ A' = ym A s t' ∧ xna t t') ∧ ((b = 1 ∧ xIM p l) ∨ (b = 0 ∧ ¬ xIM p l))) := ?_
  · exact hL
  refine mo_250l (g := fun j => p.getD j 0) hA hgE hM 8 0 0 t (by omega) hv (Nat.zero_le _) hp (fun n T1 hn1 h1 _ hx1 => ?_)
  have hn : n ≤ 8 := by have := xil_len (fun j => p.getD j 0) p.length 8 0; omega
  obtain ⟨it, hit⟩ : ∃ it : Nat → Int, it = fun i => ((xil (fun j => p.getD j 0) p.length 8 0).getD i (0, 0)).1 := ⟨_, rfl⟩
  obtain ⟨r, hr⟩ : ∃ r : Nat → Int, r = fun i => ((xil (fun j => p.getD j 0) p.length 8 0).getD i (0, 0)).2 := ⟨_, rfl⟩
  have hnl : n = (xil (fun j => p.getD j 0) p.length 8 0).length := by omega
  have g1 : ∀ i : Nat, i < n → T1 189 i = it i ∧ 0 ≤ it i ∧ it i ≤ 127 := fun i hi => xil_rows hgE hit hnl (fun j hj => by have := h1 j hj; rw [Nat.zero_add] at this; exact this.1) i hi
  have g2 : ∀ i : Nat, i < n → T1 190 i = r i ∧ 0 ≤ r i ∧ r i ≤ 127 := fun i hi => xil_rows2 hgE hr hnl (fun j hj => by have := h1 j hj; rw [Nat.zero_add] at this; exact this.2) i hi
  refine xr_steps (pc' := 119) (L' := [(6, .int (Int32.ofInt ((0 : Nat) : Int))), (4, .int (Int32.ofInt (n : Int))), (0, .ref 165), (1, .int (Int32.ofInt (a : Int))), (2, .int (Int32.ofInt (fr : Int))), (3, .int (Int32.ofInt ((fr + p.length : Nat) : Int)))]) (st' := []) 2 rfl ?_
  refine xr_loc (L := [(6, .int (Int32.ofInt ((0 : Nat) : Int))), (4, .int (Int32.ofInt (n : Int))), (0, .ref 165), (1, .int (Int32.ofInt (a : Int))), (2, .int (Int32.ofInt (fr : Int))), (3, .int (Int32.ofInt ((fr + p.length : Nat) : Int)))]) (show [6, 4, 0, 1, 2, 3].Nodup by decide) ⟨rfl, rfl, rfl, rfl, rfl, rfl, trivial⟩ ?_
  refine mo_250i (tt := fr + p.length) hA hn (n + 1) 0 T1 (by omega) (fun i hi => absurd hi (Nat.not_lt_zero _)) (fun T2 h2 hx2 => ?_)
  refine xr_steps (pc' := 152) (L' := [(4, .int (Int32.ofInt (n : Int))), (0, .ref 165), (1, .int (Int32.ofInt (a : Int))), (2, .int (Int32.ofInt (fr : Int))), (3, .int (Int32.ofInt ((fr + p.length : Nat) : Int)))]) (st' := [.int (Int32.ofInt (n : Int)), .ref 165]) 2 rfl ?_
  refine xr_call (q := (.invokevirtual 192, 3, 251, 2)) (av := [.ref 165, .int (Int32.ofInt (n : Int))]) (rest := []) rfl rfl (by decide) rfl (ym_rcv hA rfl) (Nat.le_of_ble_eq_true rfl) (mo_251 (r := r) hA hn h2 (fun i hi => by rw [hx2 190 (by omega)]; exact g2 i hi)) ?_
  rintro _ _ ⟨rfl, T3, eA, h3, hx3⟩
  rw [eA]
  clear eA
  have e166 : T3 166 = t 166 := by rw [hx3 166 (by omega), hx2 166 (by omega), hx1 166 (by omega)]
  refine xr_steps (pc' := 157) (L' := [(4, .int (Int32.ofInt (n : Int))), (0, .ref 165), (1, .int (Int32.ofInt (a : Int))), (2, .int (Int32.ofInt (fr : Int))), (3, .int (Int32.ofInt ((fr + p.length : Nat) : Int)))]) (st' := [.int (Int32.ofInt (a : Int)), .ref 165]) 2 rfl ?_
  refine xr_call (q := (.invokevirtual 128, 3, 219, 2)) (av := [.ref 165, .int (Int32.ofInt (a : Int))]) (rest := []) rfl rfl (by decide) rfl (ym_rcv hA rfl) (Nat.le_of_ble_eq_true rfl) (mo_219 (t := T3) (q := z) (u := u) hA (by rw [e166]; exact hE) hm (by rw [e166]; exact hu) (by omega)) ?_
  rintro _ _ ⟨rfl, eA⟩
  rw [eA]
  clear eA
  refine xr_steps (pc' := 161) (L' := [(4, .int (Int32.ofInt (n : Int))), (0, .ref 165), (1, .int (Int32.ofInt (a : Int))), (2, .int (Int32.ofInt (fr : Int))), (3, .int (Int32.ofInt ((fr + p.length : Nat) : Int)))]) (st' := [.int (Int32.ofInt 1), .int (Int32.ofInt (z : Int))]) 1 rfl ?_
  refine xr_isub rfl ?_
  refine xr_steps (pc' := 166) (L' := [(6, .int (Int32.ofInt ((z : Int) - 1))), (4, .int (Int32.ofInt (n : Int))), (0, .ref 165), (1, .int (Int32.ofInt (a : Int))), (2, .int (Int32.ofInt (fr : Int))), (3, .int (Int32.ofInt ((fr + p.length : Nat) : Int)))]) (st' := [.int (Int32.ofInt 1), .int (Int32.ofInt (a : Int))]) 3 rfl ?_
  refine xr_iadd rfl ?_
  refine xr_steps (pc' := 169) (L' := [(7, .int (Int32.ofInt ((a : Int) + 1))), (6, .int (Int32.ofInt ((z : Int) - 1))), (4, .int (Int32.ofInt (n : Int))), (0, .ref 165), (1, .int (Int32.ofInt (a : Int))), (2, .int (Int32.ofInt (fr : Int))), (3, .int (Int32.ofInt ((fr + p.length : Nat) : Int)))]) (st' := []) 1 rfl ?_
  refine xr_loc (L := [(7, .int (Int32.ofInt ((a : Int) + 1))), (6, .int (Int32.ofInt ((z : Int) - 1))), (4, .int (Int32.ofInt (n : Int))), (0, .ref 165), (1, .int (Int32.ofInt (a : Int))), (2, .int (Int32.ofInt (fr : Int))), (3, .int (Int32.ofInt ((fr + p.length : Nat) : Int)))]) (show [7, 6, 4, 0, 1, 2, 3].Nodup by decide) ⟨rfl, rfl, rfl, rfl, rfl, rfl, rfl, trivial⟩ ?_
  rw [show (a : Int) + 1 = ((a + 1 : Nat) : Int) by omega, show (z : Int) - 1 = ((z - 1 : Nat) : Int) by omega]
  refine mo_250m (t0 := t) (it := it) (r := r) (f := fun j => l.getD j 0) hA hE hn (by omega) (fun j hj => hl j (by omega)) (z - 1 - (a + 1)) (a + 1) T3 (by omega) (Nat.le_refl _) e166 (fun i hi => by rw [Nat.sub_self]; exact h3 i hi) (fun i hi => by rw [hx3 189 (by omega), hx2 189 (by omega)]; exact g1 i hi) (fun i hi => by rw [hx3 190 (by omega), hx2 190 (by omega)]; exact g2 i hi) (fun b t' hb hx4 => ⟨_, rfl, b, t', ⟨rfl, rfl, fun x hx => ?_⟩, ?_⟩)
  · rw [hx4 x hx, hx3 x (by omega), hx2 x (by omega), hx1 x hx]
  · rw [show z - 1 - (a + 1) = l.length by omega, hit, hr, hnl, xH_IM p l hv] at hb
    exact hb
