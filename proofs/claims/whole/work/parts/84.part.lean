/-! The reference: parts of a value -/
theorem xV_first {E : Nat → Int} {m p q : Nat} {t : xv m} (h : xV E m p t q) : ¬ E p = 93 ∧ ¬ E p = 125 ∧ ¬ E p = 44 := by
  cases m with
  | zero => exact absurd h id
  | succ m =>
    obtain ⟨h1, h2, h3⟩ := h
    rcases h3 with ⟨-, -, -, h3, -⟩ | ⟨-, ⟨-, h3, -⟩ | ⟨-, h3, -⟩⟩
    · have := h3 p (Nat.le_refl _) h1
      unfold xpc at this
      omega
    · omega
    · omega
def xpL (b : Bool) (p k n q ob : Nat) : xb_L := if b = true then [(5, .int (Int32.ofInt (ob : Int))), (4, .int (Int32.ofInt (n : Int))), (3, .int (Int32.ofInt (q : Int))), (0, .ref 165), (1, .int (Int32.ofInt (p : Int))), (2, .int (Int32.ofInt (k : Int)))] else [(3, .int (Int32.ofInt (q : Int))), (4, .int (Int32.ofInt (n : Int))), (5, .int (Int32.ofInt (ob : Int))), (0, .ref 165), (1, .int (Int32.ofInt (p : Int))), (2, .int (Int32.ofInt (k : Int)))]
section MP
variable {w : Value} {d : Nat} {A : xb_H} {s : Nat → Int} {t : Nat → Nat → Int} {p k m : Nat} {Q : xb_R → xb_H → Prop}
theorem mo_222e (hA : 194 ≤ A.1) (hE : ∀ j : Nat, 0 ≤ t 166 j ∧ t 166 j ≤ 127) {b : Bool} {n q oz : Nat} (hc : t 166 q = 93 ∨ t 166 q = 125) (hq : q < 3712) (hQ : Q (.inl (some (.int (Int32.ofInt (-1))))) (ym A s t)) : xr_ok (xt_G w) (d + 1 + 1) 222 25 (xpL b p k n q oz) [] (ym A s t) Q := by
  refine xr_steps (pc' := 26) (L' := xpL b p k n q oz) (st' := [.ref 165]) 1 (by cases b <;> rfl) ?_
  refine xr_getf (v := .ref 166) rfl (ym_165 hA) rfl ?_
  refine xr_steps (pc' := 30) (L' := xpL b p k n q oz) (st' := [.int (Int32.ofInt (q : Int)), .ref 166]) 1 (by cases b <;> rfl) ?_
  refine ym_caload (e := t 166 (q : Int).toNat) hA rfl rfl (by decide) (by omega) (by omega) rfl ?_
  rw [show (q : Int).toNat = q by omega]
  refine xr_steps (pc' := 33) (L' := xpL b p k n q oz) (st' := [.int (Int32.ofInt 93), .int (Int32.ofInt (t 166 q))]) 1 (by cases b <;> rfl) ?_
  refine xr_icmp_eq rfl (by omega) (by omega) (fun z31 => ?_) (fun z31 => ?_)
  · refine xr_steps (pc' := 98) (L' := xpL b p k n q oz) (st' := [.int (Int32.ofInt (-1))]) 1 (by cases b <;> rfl) ?_
    exact xr_retI2 rfl rfl hQ
  · refine xr_steps (pc' := 37) (L' := xpL b p k n q oz) (st' := [.ref 165]) 1 (by cases b <;> rfl) ?_
    refine xr_getf (v := .ref 166) rfl (ym_165 hA) rfl ?_
    refine xr_steps (pc' := 41) (L' := xpL b p k n q oz) (st' := [.int (Int32.ofInt (q : Int)), .ref 166]) 1 (by cases b <;> rfl) ?_
    refine ym_caload (e := t 166 (q : Int).toNat) hA rfl rfl (by decide) (by omega) (by omega) rfl ?_
    rw [show (q : Int).toNat = q by omega]
    refine xr_steps (pc' := 44) (L' := xpL b p k n q oz) (st' := [.int (Int32.ofInt 125), .int (Int32.ofInt (t 166 q))]) 1 (by cases b <;> rfl) ?_
    refine xr_icmp_eq rfl (by omega) (by omega) (fun z32 => ?_) (fun z32 => ?_)
    · refine xr_steps (pc' := 98) (L' := xpL b p k n q oz) (st' := [.int (Int32.ofInt (-1))]) 1 (by cases b <;> rfl) ?_
      exact xr_retI2 rfl rfl hQ
    · exfalso; omega
theorem mo_222f (hA : 194 ≤ A.1) (hE : ∀ j : Nat, 0 ≤ t 166 j ∧ t 166 j ≤ 127) {b : Bool} {n q oz : Nat} (hc : ¬ t 166 q = 93 ∧ ¬ t 166 q = 125) (hq : q < 3712) (hn : n = k) (hk : k ≤ 1000) (hQ : Q (.inl (some (.int (Int32.ofInt (q : Int))))) (ym A s t)) : xr_ok (xt_G w) (d + 1 + 1) 222 25 (xpL b p k n q oz) [] (ym A s t) Q := by
  have hEq := hE q
  refine xr_steps (pc' := 26) (L' := xpL b p k n q oz) (st' := [.ref 165]) 1 (by cases b <;> rfl) ?_
  refine xr_getf (v := .ref 166) rfl (ym_165 hA) rfl ?_
  refine xr_steps (pc' := 30) (L' := xpL b p k n q oz) (st' := [.int (Int32.ofInt (q : Int)), .ref 166]) 1 (by cases b <;> rfl) ?_
  refine ym_caload (e := t 166 (q : Int).toNat) hA rfl rfl (by decide) (by omega) (by omega) rfl ?_
  rw [show (q : Int).toNat = q by omega]
  refine xr_steps (pc' := 33) (L' := xpL b p k n q oz) (st' := [.int (Int32.ofInt 93), .int (Int32.ofInt (t 166 q))]) 1 (by cases b <;> rfl) ?_
  refine xr_icmp_eq rfl (by omega) (by omega) (fun z31 => ?_) (fun z31 => ?_)
  · exfalso; omega
  · refine xr_steps (pc' := 37) (L' := xpL b p k n q oz) (st' := [.ref 165]) 1 (by cases b <;> rfl) ?_
    refine xr_getf (v := .ref 166) rfl (ym_165 hA) rfl ?_
    refine xr_steps (pc' := 41) (L' := xpL b p k n q oz) (st' := [.int (Int32.ofInt (q : Int)), .ref 166]) 1 (by cases b <;> rfl) ?_
    refine ym_caload (e := t 166 (q : Int).toNat) hA rfl rfl (by decide) (by omega) (by omega) rfl ?_
    rw [show (q : Int).toNat = q by omega]
    refine xr_steps (pc' := 44) (L' := xpL b p k n q oz) (st' := [.int (Int32.ofInt 125), .int (Int32.ofInt (t 166 q))]) 1 (by cases b <;> rfl) ?_
    refine xr_icmp_eq rfl (by omega) (by omega) (fun z32 => ?_) (fun z32 => ?_)
    · exfalso; omega
    · refine xr_steps (pc' := 50) (L' := xpL b p k n q oz) (st' := [.int (Int32.ofInt (k : Int)), .int (Int32.ofInt (n : Int))]) 2 (by cases b <;> rfl) ?_
      refine xr_icmp_ne rfl (by omega) (by omega) (fun z33 => ?_) (fun z33 => ?_)
      · exfalso; omega
      · refine xr_steps (pc' := 54) (L' := xpL b p k n q oz) (st' := [.int (Int32.ofInt (q : Int))]) 1 (by cases b <;> rfl) ?_
        exact xr_retI2 rfl rfl hQ
theorem mo_222g (hA : 194 ≤ A.1) (hE : ∀ j : Nat, 0 ≤ t 166 j ∧ t 166 j ≤ 127) {b : Bool} {n q oz ob r : Nat} {u : xv m} (hm : m ≤ 6) (hob : (oz = 0 ∧ ob = 0) ∨ (oz = 1 ∧ ob = 4)) (hc : ¬ t 166 q = 93 ∧ ¬ t 166 q = 125) (hu : xV (t 166) m (q + ob) u r) (hq : r < 3711) (hn : n < k) (hk : k ≤ 1000) (hQ1 : t 166 r = 44 → xr_ok (xt_G w) (d + 1 + 1) 222 25 (xpL false p k (n + 1) (r + 1) oz) [] (ym A s t) Q) (hQ2 : ¬ t 166 r = 44 → xr_ok (xt_G w) (d + 1 + 1) 222 25 (xpL false p k (n + 1) r oz) [] (ym A s t) Q) : xr_ok (xt_G w) (d + 1 + 1) 222 25 (xpL b p k n q oz) [] (ym A s t) Q := by
  have hlt := xV_lt hu
  have hEr := hE r
  have hEq := hE q
  refine xr_steps (pc' := 26) (L' := xpL b p k n q oz) (st' := [.ref 165]) 1 (by cases b <;> rfl) ?_
  refine xr_getf (v := .ref 166) rfl (ym_165 hA) rfl ?_
  refine xr_steps (pc' := 30) (L' := xpL b p k n q oz) (st' := [.int (Int32.ofInt (q : Int)), .ref 166]) 1 (by cases b <;> rfl) ?_
  refine ym_caload (e := t 166 (q : Int).toNat) hA rfl rfl (by decide) (by omega) (by omega) rfl ?_
  rw [show (q : Int).toNat = q by omega]
  refine xr_steps (pc' := 33) (L' := xpL b p k n q oz) (st' := [.int (Int32.ofInt 93), .int (Int32.ofInt (t 166 q))]) 1 (by cases b <;> rfl) ?_
  refine xr_icmp_eq rfl (by omega) (by omega) (fun z31 => ?_) (fun z31 => ?_)
  · exfalso; omega
  · refine xr_steps (pc' := 37) (L' := xpL b p k n q oz) (st' := [.ref 165]) 1 (by cases b <;> rfl) ?_
    refine xr_getf (v := .ref 166) rfl (ym_165 hA) rfl ?_
    refine xr_steps (pc' := 41) (L' := xpL b p k n q oz) (st' := [.int (Int32.ofInt (q : Int)), .ref 166]) 1 (by cases b <;> rfl) ?_
    refine ym_caload (e := t 166 (q : Int).toNat) hA rfl rfl (by decide) (by omega) (by omega) rfl ?_
    rw [show (q : Int).toNat = q by omega]
    refine xr_steps (pc' := 44) (L' := xpL b p k n q oz) (st' := [.int (Int32.ofInt 125), .int (Int32.ofInt (t 166 q))]) 1 (by cases b <;> rfl) ?_
    refine xr_icmp_eq rfl (by omega) (by omega) (fun z32 => ?_) (fun z32 => ?_)
    · exfalso; omega
    · refine xr_steps (pc' := 50) (L' := xpL b p k n q oz) (st' := [.int (Int32.ofInt (k : Int)), .int (Int32.ofInt (n : Int))]) 2 (by cases b <;> rfl) ?_
      refine xr_icmp_ne rfl (by omega) (by omega) (fun z33 => ?_) (fun z33 => ?_)
      · refine xr_iinc (L' := xb_st (xpL b p k n q oz) 4 (.int (Int32.ofInt ((n : Int) + 1)))) rfl (by cases b <;> rfl) (by cases b <;> rfl) ?_
        refine xr_steps (pc' := 61) (L' := xb_st (xpL b p k n q oz) 4 (.int (Int32.ofInt ((n : Int) + 1)))) (st' := [.int (Int32.ofInt (oz : Int)), .ref 165]) 2 (by cases b <;> rfl) ?_
        refine xr_if_eq rfl (by omega) (fun z34 => ?_) (fun z34 => ?_)
        · refine xr_steps (pc' := 71) (L' := xb_st (xpL b p k n q oz) 4 (.int (Int32.ofInt ((n : Int) + 1)))) (st' := [.int (Int32.ofInt (q : Int)), .ref 165]) 1 (by cases b <;> rfl) ?_
          obtain rfl : ob = 0 := by omega
          refine xr_call (q := (.invokevirtual 128, 3, 219, 2)) (av := [.ref 165, .int (Int32.ofInt (q : Int))]) (rest := []) rfl rfl (by decide) rfl (ym_rcv hA rfl) (Nat.le_of_ble_eq_true rfl) (mo_219 (p := q) hA hE hm hu (by omega)) ?_
          rintro _ _ ⟨rfl, eA⟩
          rw [eA]
          clear eA
          refine xr_steps (pc' := 76) (L' := [(3, .int (Int32.ofInt (r : Int))), (4, .int (Int32.ofInt ((n : Int) + 1))), (5, .int (Int32.ofInt (oz : Int))), (0, .ref 165), (1, .int (Int32.ofInt (p : Int))), (2, .int (Int32.ofInt (k : Int)))]) (st' := [.ref 165]) 2 (by cases b <;> rfl) ?_
          refine xr_getf (v := .ref 166) rfl (ym_165 hA) rfl ?_
          refine xr_steps (pc' := 80) (L' := [(3, .int (Int32.ofInt (r : Int))), (4, .int (Int32.ofInt ((n : Int) + 1))), (5, .int (Int32.ofInt (oz : Int))), (0, .ref 165), (1, .int (Int32.ofInt (p : Int))), (2, .int (Int32.ofInt (k : Int)))]) (st' := [.int (Int32.ofInt (r : Int)), .ref 166]) 1 rfl ?_
          refine ym_caload (e := t 166 (r : Int).toNat) hA rfl rfl (by decide) (by omega) (by omega) rfl ?_
          rw [show (r : Int).toNat = r by omega]
          refine xr_steps (pc' := 83) (L' := [(3, .int (Int32.ofInt (r : Int))), (4, .int (Int32.ofInt ((n : Int) + 1))), (5, .int (Int32.ofInt (oz : Int))), (0, .ref 165), (1, .int (Int32.ofInt (p : Int))), (2, .int (Int32.ofInt (k : Int)))]) (st' := [.int (Int32.ofInt 44), .int (Int32.ofInt (t 166 r))]) 1 rfl ?_
          refine xr_icmp_ne rfl (by omega) (by omega) (fun z35 => ?_) (fun z35 => ?_)
          · refine xr_steps (pc' := 25) (L' := [(3, .int (Int32.ofInt (r : Int))), (4, .int (Int32.ofInt ((n : Int) + 1))), (5, .int (Int32.ofInt (oz : Int))), (0, .ref 165), (1, .int (Int32.ofInt (p : Int))), (2, .int (Int32.ofInt (k : Int)))]) (st' := []) 3 rfl ?_
            rw [show (n : Int) + 1 = ((n + 1 : Nat) : Int) by omega]
            exact hQ2 (by omega)
          · refine xr_steps (pc' := 88) (L' := [(3, .int (Int32.ofInt (r : Int))), (4, .int (Int32.ofInt ((n : Int) + 1))), (5, .int (Int32.ofInt (oz : Int))), (0, .ref 165), (1, .int (Int32.ofInt (p : Int))), (2, .int (Int32.ofInt (k : Int)))]) (st' := [.int (Int32.ofInt 1), .int (Int32.ofInt (r : Int))]) 2 rfl ?_
            refine xr_iadd rfl ?_
            refine xr_steps (pc' := 25) (L' := [(3, .int (Int32.ofInt ((r : Int) + 1))), (4, .int (Int32.ofInt ((n : Int) + 1))), (5, .int (Int32.ofInt (oz : Int))), (0, .ref 165), (1, .int (Int32.ofInt (p : Int))), (2, .int (Int32.ofInt (k : Int)))]) (st' := []) 3 rfl ?_
            rw [show (n : Int) + 1 = ((n + 1 : Nat) : Int) by omega]
            rw [show (r : Int) + 1 = ((r + 1 : Nat) : Int) by omega]
            exact hQ1 (by omega)
        · refine xr_steps (pc' := 66) (L' := xb_st (xpL b p k n q oz) 4 (.int (Int32.ofInt ((n : Int) + 1)))) (st' := [.int (Int32.ofInt 4), .int (Int32.ofInt (q : Int)), .ref 165]) 2 (by cases b <;> rfl) ?_
          refine xr_iadd rfl ?_
          refine xr_steps (pc' := 71) (L' := xb_st (xpL b p k n q oz) 4 (.int (Int32.ofInt ((n : Int) + 1)))) (st' := [.int (Int32.ofInt ((q : Int) + 4)), .ref 165]) 1 (by cases b <;> rfl) ?_
          obtain rfl : ob = 4 := by omega
          rw [show (q : Int) + 4 = ((q + 4 : Nat) : Int) by omega]
          refine xr_call (q := (.invokevirtual 128, 3, 219, 2)) (av := [.ref 165, .int (Int32.ofInt ((q : Int) + 4))]) (rest := []) rfl rfl (by decide) rfl (ym_rcv hA rfl) (Nat.le_of_ble_eq_true rfl) (mo_219 hA hE hm hu (by omega)) ?_
          rintro _ _ ⟨rfl, eA⟩
          rw [eA]
          clear eA
          refine xr_steps (pc' := 76) (L' := [(3, .int (Int32.ofInt (r : Int))), (4, .int (Int32.ofInt ((n : Int) + 1))), (5, .int (Int32.ofInt (oz : Int))), (0, .ref 165), (1, .int (Int32.ofInt (p : Int))), (2, .int (Int32.ofInt (k : Int)))]) (st' := [.ref 165]) 2 (by cases b <;> rfl) ?_
          refine xr_getf (v := .ref 166) rfl (ym_165 hA) rfl ?_
          refine xr_steps (pc' := 80) (L' := [(3, .int (Int32.ofInt (r : Int))), (4, .int (Int32.ofInt ((n : Int) + 1))), (5, .int (Int32.ofInt (oz : Int))), (0, .ref 165), (1, .int (Int32.ofInt (p : Int))), (2, .int (Int32.ofInt (k : Int)))]) (st' := [.int (Int32.ofInt (r : Int)), .ref 166]) 1 rfl ?_
          refine ym_caload (e := t 166 (r : Int).toNat) hA rfl rfl (by decide) (by omega) (by omega) rfl ?_
          rw [show (r : Int).toNat = r by omega]
          refine xr_steps (pc' := 83) (L' := [(3, .int (Int32.ofInt (r : Int))), (4, .int (Int32.ofInt ((n : Int) + 1))), (5, .int (Int32.ofInt (oz : Int))), (0, .ref 165), (1, .int (Int32.ofInt (p : Int))), (2, .int (Int32.ofInt (k : Int)))]) (st' := [.int (Int32.ofInt 44), .int (Int32.ofInt (t 166 r))]) 1 rfl ?_
          refine xr_icmp_ne rfl (by omega) (by omega) (fun z36 => ?_) (fun z36 => ?_)
          · refine xr_steps (pc' := 25) (L' := [(3, .int (Int32.ofInt (r : Int))), (4, .int (Int32.ofInt ((n : Int) + 1))), (5, .int (Int32.ofInt (oz : Int))), (0, .ref 165), (1, .int (Int32.ofInt (p : Int))), (2, .int (Int32.ofInt (k : Int)))]) (st' := []) 3 rfl ?_
            rw [show (n : Int) + 1 = ((n + 1 : Nat) : Int) by omega]
            exact hQ2 (by omega)
          · refine xr_steps (pc' := 88) (L' := [(3, .int (Int32.ofInt (r : Int))), (4, .int (Int32.ofInt ((n : Int) + 1))), (5, .int (Int32.ofInt (oz : Int))), (0, .ref 165), (1, .int (Int32.ofInt (p : Int))), (2, .int (Int32.ofInt (k : Int)))]) (st' := [.int (Int32.ofInt 1), .int (Int32.ofInt (r : Int))]) 2 rfl ?_
            refine xr_iadd rfl ?_
            refine xr_steps (pc' := 25) (L' := [(3, .int (Int32.ofInt ((r : Int) + 1))), (4, .int (Int32.ofInt ((n : Int) + 1))), (5, .int (Int32.ofInt (oz : Int))), (0, .ref 165), (1, .int (Int32.ofInt (p : Int))), (2, .int (Int32.ofInt (k : Int)))]) (st' := []) 3 rfl ?_
            rw [show (n : Int) + 1 = ((n + 1 : Nat) : Int) by omega]
            rw [show (r : Int) + 1 = ((r + 1 : Nat) : Int) by omega]
            exact hQ1 (by omega)
      · exfalso; omega
/-- part number j of a row, at its place -/
def xAt {α : Type} (E : Nat → Int) (V : Nat → α → Nat → Prop) (ob : Nat) (l : List (Int × α)) (j lo hi x : Nat) : Prop := ∃ (a : Int × α) (y : Nat), l[j]? = some a ∧ V (x + ob) a.2 y ∧ xVK E ob a.1 x ∧ lo ≤ x ∧ y < hi
theorem mo_222l (hA : 194 ≤ A.1) (hE : ∀ j : Nat, 0 ≤ t 166 j ∧ t 166 j ≤ 127) {oz ob : Nat} {c : Int} (hm : m ≤ 6) (hk : k ≤ 1000) (hob : (oz = 0 ∧ ob = 0 ∧ c = 93) ∨ (oz = 1 ∧ ob = 4 ∧ c = 125)) : ∀ (l : List (Int × xv m)) (q y n : Nat) (b : Bool), xVL (t 166) (xV (t 166) m) ob c l q y → y < 3711 → n ≤ k → (∀ x : Nat, xAt (t 166) (xV (t 166) m) ob l (k - n) q y x → Q (.inl (some (.int (Int32.ofInt (x : Int))))) (ym A s t)) → (l.length ≤ k - n → Q (.inl (some (.int (Int32.ofInt (-1))))) (ym A s t)) → xr_ok (xt_G w) (d + 1 + 1) 222 25 (xpL b p k n q oz) [] (ym A s t) Q := by
  intro l
  induction l with
  | nil => intro q y n b h; exact absurd h id
  | cons a l ih =>
    obtain ⟨kk, v⟩ := a
    intro q y n b h hy hn h1 h2
    have hvl := (xVL_get (fun _ _ _ h => xV_lt h) _ _ _ h).1
    obtain ⟨r, g1, g2, g3⟩ := h
    have hrl := xV_lt g1
    have hry : r < y := by
      rcases g3 with ⟨-, -, g3⟩ | ⟨-, -, g3⟩
      · omega
      · have := (xVL_get (fun _ _ _ h => xV_lt h) _ _ _ g3).1
        omega
    have hc : ¬ t 166 q = 93 ∧ ¬ t 166 q = 125 := by
      rcases g2 with ⟨g2, -⟩ | ⟨-, -, g2, -⟩
      · rw [g2, Nat.add_zero] at g1
        have := xV_first g1
        exact ⟨this.1, this.2.1⟩
      · omega
    by_cases hnk : n = k
    · refine mo_222f hA hE hc (by omega) hnk hk (h1 q ⟨(kk, v), r, ?_, g1, g2, Nat.le_refl _, hry⟩)
      rw [hnk, Nat.sub_self]
      rfl
    · refine mo_222g hA hE hm (by omega) hc g1 (by omega) (by omega) hk (fun h44 => ?_) (fun h44 => ?_)
      · rcases g3 with ⟨-, g4, -⟩ | ⟨-, -, g4⟩
        · rw [h44] at g4
          omega
        · refine ih (r + 1) y (n + 1) false g4 hy (by omega) (fun x hx => h1 x ?_) (fun hl => h2 ?_)
          · obtain ⟨a, z, e1, e2, e3, e4, e5⟩ := hx
            refine ⟨a, z, ?_, e2, e3, by omega, e5⟩
            rw [show k - n = (k - (n + 1)) + 1 by omega, List.getElem?_cons_succ]
            exact e1
          · rw [List.length_cons]
            omega
      · rcases g3 with ⟨e, g4, g5⟩ | ⟨-, g4, -⟩
        · refine mo_222e hA hE ?_ (by omega) (h2 ?_)
          · rcases hob with hob | hob <;> omega
          · rw [e, List.length_singleton]
            omega
        · exact absurd g4 h44
end MP
/-- what part answers for the value u at p -/
def xPT (E : Nat → Int) (m p q k : Nat) (u : xv (m + 1)) (r : Int) : Prop := (∃ x : Nat, r = x ∧ xAt E (xV E m) (if xv_k u = 5 then 4 else 0) (xv_p u) k (p + 1) q x) ∨ (r = -1 ∧ (xv_p u).length ≤ k)
theorem mo_222 {w : Value} {d : Nat} {A : xb_H} {s : Nat → Int} {t : Nat → Nat → Int} {p k m q : Nat} {u : xv (m + 1)} (hA : 194 ≤ A.1) (hE : ∀ j : Nat, 0 ≤ t 166 j ∧ t 166 j ≤ 127) (hm : m ≤ 5) (hk : k ≤ 1000) (hu : xV (t 166) (m + 1) p u q) (hu4 : 4 ≤ xv_k u) (hq : q < 3711) : xr_ok (xt_G w) (d + 1 + 1) 222 0 [(0, .ref 165), (1, .int (Int32.ofInt (p : Int))), (2, .int (Int32.ofInt (k : Int)))] [] (ym A s t) (fun o A' => ∃ v0, o = .inl v0 ∧ ∃ r : Int, (v0 = some (.int (Int32.ofInt r)) ∧ A' = ym A s t) ∧ xPT (t 166) m p q k u r) := by
  have hpq := xV_lt hu
  have hEp := hE p
  obtain ⟨h1, h2, h3⟩ := hu
  have h3' : (xv_k u = 4 ∧ t 166 p = 91 ∧ ((xv_p u = [] ∧ t 166 (p + 1) = 93 ∧ q = p + 2) ∨ xVL (t 166) (xV (t 166) m) 0 93 (xv_p u) (p + 1) q)) ∨ (xv_k u = 5 ∧ t 166 p = 123 ∧ ((xv_p u = [] ∧ t 166 (p + 1) = 125 ∧ q = p + 2) ∨ xVL (t 166) (xV (t 166) m) 4 125 (xv_p u) (p + 1) q)) := by
    rcases h3 with ⟨-, h3, -⟩ | ⟨-, h3⟩
    · omega
    · exact h3
  have harr : ¬ t 166 p = 123 → xv_k u = 4 ∧ ((xv_p u = [] ∧ t 166 (p + 1) = 93 ∧ q = p + 2) ∨ xVL (t 166) (xV (t 166) m) 0 93 (xv_p u) (p + 1) q) := by
    intro h
    rcases h3' with ⟨e1, e2, e3⟩ | ⟨-, e2, -⟩
    · exact ⟨e1, e3⟩
    · exact absurd e2 h
  have hobj : t 166 p = 123 → xv_k u = 5 ∧ ((xv_p u = [] ∧ t 166 (p + 1) = 125 ∧ q = p + 2) ∨ xVL (t 166) (xV (t 166) m) 4 125 (xv_p u) (p + 1) q) := by
    intro h
    rcases h3' with ⟨-, e2, -⟩ | ⟨e1, e2, e3⟩
    · omega
    · exact ⟨e1, e3⟩
  refine xr_steps (pc' := 2) (L' := [(0, .ref 165), (1, .int (Int32.ofInt (p : Int))), (2, .int (Int32.ofInt (k : Int)))]) (st' := [.int (Int32.ofInt 1), .int (Int32.ofInt (p : Int))]) 2 rfl ?_
  refine xr_iadd rfl ?_
  refine xr_steps (pc' := 8) (L' := [(4, .int (Int32.ofInt 0)), (3, .int (Int32.ofInt ((p : Int) + 1))), (0, .ref 165), (1, .int (Int32.ofInt (p : Int))), (2, .int (Int32.ofInt (k : Int)))]) (st' := [.ref 165]) 4 rfl ?_
  refine xr_getf (v := .ref 166) rfl (ym_165 hA) rfl ?_
  refine xr_steps (pc' := 12) (L' := [(4, .int (Int32.ofInt 0)), (3, .int (Int32.ofInt ((p : Int) + 1))), (0, .ref 165), (1, .int (Int32.ofInt (p : Int))), (2, .int (Int32.ofInt (k : Int)))]) (st' := [.int (Int32.ofInt (p : Int)), .ref 166]) 1 rfl ?_
  refine ym_caload (e := t 166 (p : Int).toNat) hA rfl rfl (by decide) (by omega) (by omega) rfl ?_
  rw [show (p : Int).toNat = p by omega]
  refine xr_steps (pc' := 15) (L' := [(4, .int (Int32.ofInt 0)), (3, .int (Int32.ofInt ((p : Int) + 1))), (0, .ref 165), (1, .int (Int32.ofInt (p : Int))), (2, .int (Int32.ofInt (k : Int)))]) (st' := [.int (Int32.ofInt 123), .int (Int32.ofInt (t 166 p))]) 1 rfl ?_
  refine xr_icmp_ne rfl (by omega) (by omega) (fun z31 => ?_) (fun z31 => ?_)
  · refine xr_steps (pc' := 25) (L' := [(5, .int (Int32.ofInt 0)), (4, .int (Int32.ofInt 0)), (3, .int (Int32.ofInt ((p : Int) + 1))), (0, .ref 165), (1, .int (Int32.ofInt (p : Int))), (2, .int (Int32.ofInt (k : Int)))]) (st' := []) 2 rfl ?_
    rw [show (p : Int) + 1 = ((p + 1 : Nat) : Int) by omega]
    show xr_ok (xt_G w) (d + 1 + 1) 222 25 (xpL true p k 0 (p + 1) 0) [] (ym A s t) _
    rcases harr (by omega) with ⟨hkd, hp0 | hch⟩
    · obtain ⟨f1, f2, f3⟩ := hp0
      refine mo_222e hA hE (Or.inl f2) (by omega) ⟨_, rfl, -1, ⟨rfl, rfl⟩, Or.inr ⟨rfl, by rw [f1]; exact Nat.zero_le _⟩⟩
    · refine mo_222l (m := m) hA hE (by omega) hk (Or.inl ⟨rfl, rfl, rfl⟩) (xv_p u) (p + 1) q 0 true hch hq (Nat.zero_le _) (fun x hx => ⟨_, rfl, x, ⟨rfl, rfl⟩, Or.inl ⟨x, rfl, ?_⟩⟩) (fun hl => ⟨_, rfl, -1, ⟨rfl, rfl⟩, Or.inr ⟨rfl, hl⟩⟩)
      rw [if_neg (by omega)]
      exact hx
  · refine xr_steps (pc' := 25) (L' := [(5, .int (Int32.ofInt 1)), (4, .int (Int32.ofInt 0)), (3, .int (Int32.ofInt ((p : Int) + 1))), (0, .ref 165), (1, .int (Int32.ofInt (p : Int))), (2, .int (Int32.ofInt (k : Int)))]) (st' := []) 3 rfl ?_
    rw [show (p : Int) + 1 = ((p + 1 : Nat) : Int) by omega]
    show xr_ok (xt_G w) (d + 1 + 1) 222 25 (xpL true p k 0 (p + 1) 1) [] (ym A s t) _
    rcases hobj (by omega) with ⟨hkd, hp0 | hch⟩
    · obtain ⟨f1, f2, f3⟩ := hp0
      refine mo_222e hA hE (Or.inr f2) (by omega) ⟨_, rfl, -1, ⟨rfl, rfl⟩, Or.inr ⟨rfl, by rw [f1]; exact Nat.zero_le _⟩⟩
    · refine mo_222l (m := m) hA hE (by omega) hk (Or.inr ⟨rfl, rfl, rfl⟩) (xv_p u) (p + 1) q 0 true hch hq (Nat.zero_le _) (fun x hx => ⟨_, rfl, x, ⟨rfl, rfl⟩, Or.inl ⟨x, rfl, ?_⟩⟩) (fun hl => ⟨_, rfl, -1, ⟨rfl, rfl⟩, Or.inr ⟨rfl, hl⟩⟩)
      rw [if_pos hkd]
      exact hx
