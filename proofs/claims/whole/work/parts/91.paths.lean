/-! Steps of places and patterns are read -/
/-- the key of a step at p (pt = 1: a pattern's) -/
def xsk (pt : Int) (e : Nat → Int) (p : Nat) : Option (Int × Nat) := if pt = 1 ∧ e p = 42 then some (-1, p + 1) else if 97 ≤ e p ∧ e p ≤ 122 then some (1000 + e p, p + 1) else none
/-- the number of a step at p, with the bracket behind it -/
def xsn (pt : Int) (e : Nat → Int) (p : Nat) : Option (Int × Nat) := if pt = 1 ∧ e p = 42 then (if e (p + 1) = 93 then some (-2, p + 2) else none) else if 48 ≤ e p ∧ e p ≤ 57 then (if ¬ pt = 1 ∧ ¬ e p = 48 ∧ (48 ≤ e (p + 1) ∧ e (p + 1) ≤ 57) then (if e (p + 2) = 93 then some (10 * (e p - 48) + (e (p + 1) - 48), p + 3) else none) else if e (p + 1) = 93 then some (e p - 48, p + 2) else none) else none
/-- what a reader of a step does -/
def yst (A A' : xb_H) (cu sa v n : Nat) (f : Nat → Int) (p : Nat) (r : Option (Int × Nat)) (v0 : Option Value) : Prop := ∃ (x : Int) (p' : Nat), v0 = some (.int (Int32.ofInt x)) ∧ p ≤ p' ∧ ymv A A' cu sa v n f p' 0 0 ∧ (r = some (x, p') ∨ (r = none ∧ x = -3))
theorem mp_78 {w : Value} {d : Nat} {A : xb_H} {c : Int} (hcc : 0 ≤ c ∧ c ≤ 127) : xr_ok (xt_G w) d 78 0 [(0, .int (Int32.ofInt c))] [] A (fun o A' => ∃ v0, o = .inl v0 ∧ v0 = some (.int (Int32.ofInt (1000 + c))) ∧ A' = A) := by
  refine xr_steps (pc' := 4) (L' := [(0, .int (Int32.ofInt c))]) (st' := [.int (Int32.ofInt c), .int (Int32.ofInt 1000)]) 2 rfl ?_
  refine xr_iadd rfl ?_
  exact xr_retI2 rfl rfl ⟨_, rfl, rfl, rfl⟩
theorem mp_76 {w : Value} {d : Nat} {A : xb_H} {cu sa v n p : Nat} {f : Nat → Int} {pt : Int} (hw : w = .null ∨ w = .ref 19) (hc : ycu A cu sa v n f p) (hpt : pt = 0 ∨ pt = 1) : xr_ok (xt_G w) (d + 1 + 1 + 1 + 1 + 1 + 1) 76 0 [(0, .ref cu), (1, .int (Int32.ofInt pt))] [] A (fun o A' => ∃ v0, o = .inl v0 ∧ yst A A' cu sa v n f p (xsk pt (ye n f) p) v0) := by
  have m0 := ymv_refl hc 0 0
  have hlt0 := hc.2.2
  refine xr_steps (pc' := 1) (L' := [(0, .ref cu), (1, .int (Int32.ofInt pt))]) (st' := [.int (Int32.ofInt pt)]) 1 rfl ?_
  refine xr_if_eq rfl (by omega) (fun z31 => ?_) (fun z31 => ?_)
  · refine xr_steps (pc' := 16) (L' := [(0, .ref cu), (1, .int (Int32.ofInt pt))]) (st' := [.ref cu]) 1 rfl ?_
    have hr32 := ye_rng hc p
    refine xr_call (q := (.invokevirtual 32, 3, 68, 1)) (av := [.ref cu]) (rest := []) rfl rfl (by decide) rfl (xr_rcv rfl hc.1) (Nat.le_of_ble_eq_true rfl) (mk_68 hw hc) ?_
    rintro _ _ ⟨rfl, eA⟩
    rw [eA]
    clear eA
    refine xr_steps (pc' := 22) (L' := [(2, .int (Int32.ofInt (ye n f p))), (0, .ref cu), (1, .int (Int32.ofInt pt))]) (st' := [.int (Int32.ofInt 1), .ref cu]) 3 rfl ?_
    have hr33 := ye_rng hc p
    refine xr_call (q := (.invokevirtual 49, 3, 77, 2)) (av := [.ref cu, .int (Int32.ofInt 1)]) (rest := []) rfl rfl (by decide) rfl (xr_rcv rfl hc.1) (Nat.le_of_ble_eq_true rfl) (mk_77 (most := 1) hw hc (by omega)) ?_
    rintro _ B33 ⟨rfl, m33⟩
    rw [show yn (ye n f) 97 122 1 p = if 97 ≤ (ye n f p) ∧ (ye n f p) ≤ 122 then 1 else 0 from rfl] at m33 ⊢
    by_cases y33 : 97 ≤ (ye n f p) ∧ (ye n f p) ≤ 122
    · rw [if_pos y33] at m33 ⊢
      rw [show ((1 : Nat) : Int) = 1 from rfl]
      have M34 := ymv_trans m0 m33
      refine xr_steps (pc' := 26) (L' := [(2, .int (Int32.ofInt (ye n f p))), (0, .ref cu), (1, .int (Int32.ofInt pt))]) (st' := [.int (Int32.ofInt 1), .int (Int32.ofInt 1)]) 1 rfl ?_
      refine xr_icmp_ne rfl (by omega) (by omega) (fun z35 => ?_) (fun z35 => ?_)
      · exfalso; omega
      · refine xr_steps (pc' := 30) (L' := [(2, .int (Int32.ofInt (ye n f p))), (0, .ref cu), (1, .int (Int32.ofInt pt))]) (st' := [.int (Int32.ofInt (ye n f p))]) 1 rfl ?_
        refine xr_call (q := (.invokestatic 53, 3, 78, 1)) (av := [.int (Int32.ofInt (ye n f p))]) (rest := []) rfl rfl (by decide) rfl rfl (Nat.le_of_ble_eq_true rfl) (mp_78 (by omega)) ?_
        rintro _ _ ⟨rfl, eA⟩
        rw [eA]
        clear eA
        refine xr_steps (pc' := 38) (L' := [(2, .int (Int32.ofInt (ye n f p))), (0, .ref cu), (1, .int (Int32.ofInt pt))]) (st' := [.int (Int32.ofInt (1000 + (ye n f p)))]) 1 rfl ?_
        refine xr_retI2 rfl rfl ⟨_, rfl, _, p + 1, rfl, by omega, M34, ?_⟩
        unfold xsk
        rw [if_neg (by omega), if_pos (by omega)]
        exact Or.inl rfl
    · rw [if_neg y33] at m33 ⊢
      rw [show ((0 : Nat) : Int) = 0 from rfl]
      rw [Nat.add_zero] at m33
      have M36 := ymv_trans m0 m33
      refine xr_steps (pc' := 26) (L' := [(2, .int (Int32.ofInt (ye n f p))), (0, .ref cu), (1, .int (Int32.ofInt pt))]) (st' := [.int (Int32.ofInt 1), .int (Int32.ofInt 0)]) 1 rfl ?_
      refine xr_icmp_ne rfl (by omega) (by omega) (fun z37 => ?_) (fun z37 => ?_)
      · refine xr_steps (pc' := 38) (L' := [(2, .int (Int32.ofInt (ye n f p))), (0, .ref cu), (1, .int (Int32.ofInt pt))]) (st' := [.int (Int32.ofInt (-3))]) 1 rfl ?_
        refine xr_retI2 rfl rfl ⟨_, rfl, _, p, rfl, by omega, M36, ?_⟩
        unfold xsk
        rw [if_neg (by omega), if_neg (by omega)]
        exact Or.inr ⟨rfl, rfl⟩
      · exfalso; omega
  · refine xr_steps (pc' := 7) (L' := [(0, .ref cu), (1, .int (Int32.ofInt pt))]) (st' := [.int (Int32.ofInt 42), .ref cu]) 2 rfl ?_
    obtain ⟨b38, hb38⟩ := mo_bool (ye n f p = 42)
    refine xr_call (q := (.invokevirtual 25, 3, 67, 2)) (av := [.ref cu, .int (Int32.ofInt 42)]) (rest := []) rfl rfl (by decide) rfl (xr_rcv rfl hc.1) (Nat.le_of_ble_eq_true rfl) (mk_acc hw hc (by omega) hb38) ?_
    rintro _ B38 ⟨rfl, hcase⟩
    rcases hcase with ⟨rfl, y38, m38⟩ | ⟨rfl, y38, eA⟩
    · have M39 := ymv_trans m0 m38
      refine xr_if_eq rfl (by omega) (fun z40 => ?_) (fun z40 => ?_)
      · exfalso; omega
      · refine xr_steps (pc' := 14) (L' := [(0, .ref cu), (1, .int (Int32.ofInt pt))]) (st' := [.int (Int32.ofInt (-1))]) 1 rfl ?_
        refine xr_retI2 rfl rfl ⟨_, rfl, _, p + 1, rfl, by omega, M39, ?_⟩
        unfold xsk
        exact Or.inl (if_pos (by omega))
    · rw [eA]
      clear eA
      refine xr_if_eq rfl (by omega) (fun z41 => ?_) (fun z41 => ?_)
      · refine xr_steps (pc' := 16) (L' := [(0, .ref cu), (1, .int (Int32.ofInt pt))]) (st' := [.ref cu]) 1 rfl ?_
        have hr42 := ye_rng hc p
        refine xr_call (q := (.invokevirtual 32, 3, 68, 1)) (av := [.ref cu]) (rest := []) rfl rfl (by decide) rfl (xr_rcv rfl hc.1) (Nat.le_of_ble_eq_true rfl) (mk_68 hw hc) ?_
        rintro _ _ ⟨rfl, eA⟩
        rw [eA]
        clear eA
        refine xr_steps (pc' := 22) (L' := [(2, .int (Int32.ofInt (ye n f p))), (0, .ref cu), (1, .int (Int32.ofInt pt))]) (st' := [.int (Int32.ofInt 1), .ref cu]) 3 rfl ?_
        have hr43 := ye_rng hc p
        refine xr_call (q := (.invokevirtual 49, 3, 77, 2)) (av := [.ref cu, .int (Int32.ofInt 1)]) (rest := []) rfl rfl (by decide) rfl (xr_rcv rfl hc.1) (Nat.le_of_ble_eq_true rfl) (mk_77 (most := 1) hw hc (by omega)) ?_
        rintro _ B43 ⟨rfl, m43⟩
        rw [show yn (ye n f) 97 122 1 p = if 97 ≤ (ye n f p) ∧ (ye n f p) ≤ 122 then 1 else 0 from rfl] at m43 ⊢
        by_cases y43 : 97 ≤ (ye n f p) ∧ (ye n f p) ≤ 122
        · rw [if_pos y43] at m43 ⊢
          rw [show ((1 : Nat) : Int) = 1 from rfl]
          have M44 := ymv_trans m0 m43
          refine xr_steps (pc' := 26) (L' := [(2, .int (Int32.ofInt (ye n f p))), (0, .ref cu), (1, .int (Int32.ofInt pt))]) (st' := [.int (Int32.ofInt 1), .int (Int32.ofInt 1)]) 1 rfl ?_
          refine xr_icmp_ne rfl (by omega) (by omega) (fun z45 => ?_) (fun z45 => ?_)
          · exfalso; omega
          · refine xr_steps (pc' := 30) (L' := [(2, .int (Int32.ofInt (ye n f p))), (0, .ref cu), (1, .int (Int32.ofInt pt))]) (st' := [.int (Int32.ofInt (ye n f p))]) 1 rfl ?_
            refine xr_call (q := (.invokestatic 53, 3, 78, 1)) (av := [.int (Int32.ofInt (ye n f p))]) (rest := []) rfl rfl (by decide) rfl rfl (Nat.le_of_ble_eq_true rfl) (mp_78 (by omega)) ?_
            rintro _ _ ⟨rfl, eA⟩
            rw [eA]
            clear eA
            refine xr_steps (pc' := 38) (L' := [(2, .int (Int32.ofInt (ye n f p))), (0, .ref cu), (1, .int (Int32.ofInt pt))]) (st' := [.int (Int32.ofInt (1000 + (ye n f p)))]) 1 rfl ?_
            refine xr_retI2 rfl rfl ⟨_, rfl, _, p + 1, rfl, by omega, M44, ?_⟩
            unfold xsk
            rw [if_neg (by omega), if_pos (by omega)]
            exact Or.inl rfl
        · rw [if_neg y43] at m43 ⊢
          rw [show ((0 : Nat) : Int) = 0 from rfl]
          rw [Nat.add_zero] at m43
          have M46 := ymv_trans m0 m43
          refine xr_steps (pc' := 26) (L' := [(2, .int (Int32.ofInt (ye n f p))), (0, .ref cu), (1, .int (Int32.ofInt pt))]) (st' := [.int (Int32.ofInt 1), .int (Int32.ofInt 0)]) 1 rfl ?_
          refine xr_icmp_ne rfl (by omega) (by omega) (fun z47 => ?_) (fun z47 => ?_)
          · refine xr_steps (pc' := 38) (L' := [(2, .int (Int32.ofInt (ye n f p))), (0, .ref cu), (1, .int (Int32.ofInt pt))]) (st' := [.int (Int32.ofInt (-3))]) 1 rfl ?_
            refine xr_retI2 rfl rfl ⟨_, rfl, _, p, rfl, by omega, M46, ?_⟩
            unfold xsk
            rw [if_neg (by omega), if_neg (by omega)]
            exact Or.inr ⟨rfl, rfl⟩
          · exfalso; omega
      · exfalso; omega
theorem mp_80 {w : Value} {d : Nat} {A : xb_H} {cu sa v n p : Nat} {f : Nat → Int} {pt : Int} (hw : w = .null ∨ w = .ref 19) (hc : ycu A cu sa v n f p) (hpt : pt = 0 ∨ pt = 1) : xr_ok (xt_G w) (d + 1 + 1 + 1 + 1 + 1 + 1) 80 0 [(0, .ref cu), (1, .int (Int32.ofInt pt))] [] A (fun o A' => ∃ v0, o = .inl v0 ∧ ∃ (x : Int) (p' : Nat), v0 = some (.int (Int32.ofInt x)) ∧ p ≤ p' ∧ ymv A A' cu sa v n f p' 0 0 ∧ ((¬ (48 ≤ ye n f p ∧ ye n f p ≤ 57) ∧ x = -3) ∨ ((48 ≤ ye n f p ∧ ye n f p ≤ 57) ∧ (¬ pt = 1 ∧ ¬ ye n f p = 48 ∧ (48 ≤ ye n f (p + 1) ∧ ye n f (p + 1) ≤ 57)) ∧ x = 10 * (ye n f p - 48) + (ye n f (p + 1) - 48) ∧ p' = p + 2) ∨ ((48 ≤ ye n f p ∧ ye n f p ≤ 57) ∧ ¬ (¬ pt = 1 ∧ ¬ ye n f p = 48 ∧ (48 ≤ ye n f (p + 1) ∧ ye n f (p + 1) ≤ 57)) ∧ x = ye n f p - 48 ∧ p' = p + 1))) := by
  have m0 := ymv_refl hc 0 0
  have hlt0 := hc.2.2
  refine xr_steps (pc' := 1) (L' := [(0, .ref cu), (1, .int (Int32.ofInt pt))]) (st' := [.ref cu]) 1 rfl ?_
  have hr31 := ye_rng hc p
  refine xr_call (q := (.invokevirtual 32, 3, 68, 1)) (av := [.ref cu]) (rest := []) rfl rfl (by decide) rfl (xr_rcv rfl hc.1) (Nat.le_of_ble_eq_true rfl) (mk_68 hw hc) ?_
  rintro _ _ ⟨rfl, eA⟩
  rw [eA]
  clear eA
  refine xr_steps (pc' := 6) (L' := [(0, .ref cu), (1, .int (Int32.ofInt pt))]) (st' := [.int (Int32.ofInt 48), .int (Int32.ofInt (ye n f p))]) 1 rfl ?_
  refine xr_isub rfl ?_
  refine xr_steps (pc' := 10) (L' := [(2, .int (Int32.ofInt ((ye n f p) - 48))), (0, .ref cu), (1, .int (Int32.ofInt pt))]) (st' := [.int (Int32.ofInt 1), .ref cu]) 3 rfl ?_
  have hr32 := ye_rng hc p
  refine xr_call (q := (.invokevirtual 60, 3, 81, 2)) (av := [.ref cu, .int (Int32.ofInt 1)]) (rest := []) rfl rfl (by decide) rfl (xr_rcv rfl hc.1) (Nat.le_of_ble_eq_true rfl) (mk_81 (most := 1) hw hc (by omega)) ?_
  rintro _ B32 ⟨rfl, m32⟩
  rw [show yn (ye n f) 48 57 1 p = if 48 ≤ (ye n f p) ∧ (ye n f p) ≤ 57 then 1 else 0 from rfl] at m32 ⊢
  by_cases y32 : 48 ≤ (ye n f p) ∧ (ye n f p) ≤ 57
  · rw [if_pos y32] at m32 ⊢
    rw [show ((1 : Nat) : Int) = 1 from rfl]
    have M33 := ymv_trans m0 m32
    refine xr_if_ne rfl (by omega) (fun z34 => ?_) (fun z34 => ?_)
    · refine xr_steps (pc' := 20) (L' := [(2, .int (Int32.ofInt ((ye n f p) - 48))), (0, .ref cu), (1, .int (Int32.ofInt pt))]) (st' := [.ref cu]) 1 rfl ?_
      have hr35 := ye_rng M33.1 (p + 1)
      refine xr_call (q := (.invokevirtual 32, 3, 68, 1)) (av := [.ref cu]) (rest := []) rfl rfl (by decide) rfl (xr_rcv rfl M33.1.1) (Nat.le_of_ble_eq_true rfl) (mk_68 hw M33.1) ?_
      rintro _ _ ⟨rfl, eA⟩
      rw [eA]
      clear eA
      refine xr_steps (pc' := 25) (L' := [(2, .int (Int32.ofInt ((ye n f p) - 48))), (0, .ref cu), (1, .int (Int32.ofInt pt))]) (st' := [.int (Int32.ofInt 48), .int (Int32.ofInt (ye n f (p + 1)))]) 1 rfl ?_
      refine xr_isub rfl ?_
      refine xr_steps (pc' := 28) (L' := [(3, .int (Int32.ofInt ((ye n f (p + 1)) - 48))), (2, .int (Int32.ofInt ((ye n f p) - 48))), (0, .ref cu), (1, .int (Int32.ofInt pt))]) (st' := [.int (Int32.ofInt pt)]) 2 rfl ?_
      refine xr_if_ne rfl (by omega) (fun z36 => ?_) (fun z36 => ?_)
      · refine xr_steps (pc' := 53) (L' := [(4, .int (Int32.ofInt 0)), (3, .int (Int32.ofInt ((ye n f (p + 1)) - 48))), (2, .int (Int32.ofInt ((ye n f p) - 48))), (0, .ref cu), (1, .int (Int32.ofInt pt))]) (st' := [.int (Int32.ofInt 0)]) 3 rfl ?_
        refine xr_if_eq rfl (by omega) (fun z37 => ?_) (fun z37 => ?_)
        · refine xr_steps (pc' := 66) (L' := [(4, .int (Int32.ofInt 0)), (3, .int (Int32.ofInt ((ye n f (p + 1)) - 48))), (2, .int (Int32.ofInt ((ye n f p) - 48))), (0, .ref cu), (1, .int (Int32.ofInt pt))]) (st' := [.int (Int32.ofInt ((ye n f p) - 48))]) 1 rfl ?_
          exact xr_retI2 rfl rfl ⟨_, rfl, _, p + 1, rfl, by omega, M33, by omega⟩
        · exfalso; omega
      · refine xr_steps (pc' := 32) (L' := [(3, .int (Int32.ofInt ((ye n f (p + 1)) - 48))), (2, .int (Int32.ofInt ((ye n f p) - 48))), (0, .ref cu), (1, .int (Int32.ofInt pt))]) (st' := [.int (Int32.ofInt ((ye n f p) - 48))]) 1 rfl ?_
        refine xr_if_eq rfl (by omega) (fun z38 => ?_) (fun z38 => ?_)
        · refine xr_steps (pc' := 53) (L' := [(4, .int (Int32.ofInt 0)), (3, .int (Int32.ofInt ((ye n f (p + 1)) - 48))), (2, .int (Int32.ofInt ((ye n f p) - 48))), (0, .ref cu), (1, .int (Int32.ofInt pt))]) (st' := [.int (Int32.ofInt 0)]) 3 rfl ?_
          refine xr_if_eq rfl (by omega) (fun z39 => ?_) (fun z39 => ?_)
          · refine xr_steps (pc' := 66) (L' := [(4, .int (Int32.ofInt 0)), (3, .int (Int32.ofInt ((ye n f (p + 1)) - 48))), (2, .int (Int32.ofInt ((ye n f p) - 48))), (0, .ref cu), (1, .int (Int32.ofInt pt))]) (st' := [.int (Int32.ofInt ((ye n f p) - 48))]) 1 rfl ?_
            exact xr_retI2 rfl rfl ⟨_, rfl, _, p + 1, rfl, by omega, M33, by omega⟩
          · exfalso; omega
        · refine xr_steps (pc' := 37) (L' := [(3, .int (Int32.ofInt ((ye n f (p + 1)) - 48))), (2, .int (Int32.ofInt ((ye n f p) - 48))), (0, .ref cu), (1, .int (Int32.ofInt pt))]) (st' := [.int (Int32.ofInt 1), .ref cu]) 2 rfl ?_
          have hr40 := ye_rng M33.1 (p + 1)
          refine xr_call (q := (.invokevirtual 60, 3, 81, 2)) (av := [.ref cu, .int (Int32.ofInt 1)]) (rest := []) rfl rfl (by decide) rfl (xr_rcv rfl M33.1.1) (Nat.le_of_ble_eq_true rfl) (mk_81 (most := 1) hw M33.1 (by omega)) ?_
          rintro _ B40 ⟨rfl, m40⟩
          rw [show yn (ye n f) 48 57 1 (p + 1) = if 48 ≤ (ye n f (p + 1)) ∧ (ye n f (p + 1)) ≤ 57 then 1 else 0 from rfl] at m40 ⊢
          by_cases y40 : 48 ≤ (ye n f (p + 1)) ∧ (ye n f (p + 1)) ≤ 57
          · rw [if_pos y40] at m40 ⊢
            rw [show ((1 : Nat) : Int) = 1 from rfl]
            have M41 := ymv_trans M33 m40
            refine xr_steps (pc' := 41) (L' := [(3, .int (Int32.ofInt ((ye n f (p + 1)) - 48))), (2, .int (Int32.ofInt ((ye n f p) - 48))), (0, .ref cu), (1, .int (Int32.ofInt pt))]) (st' := [.int (Int32.ofInt 1), .int (Int32.ofInt 1)]) 1 rfl ?_
            refine xr_icmp_ne rfl (by omega) (by omega) (fun z42 => ?_) (fun z42 => ?_)
            · exfalso; omega
            · refine xr_steps (pc' := 53) (L' := [(4, .int (Int32.ofInt 1)), (3, .int (Int32.ofInt ((ye n f (p + 1)) - 48))), (2, .int (Int32.ofInt ((ye n f p) - 48))), (0, .ref cu), (1, .int (Int32.ofInt pt))]) (st' := [.int (Int32.ofInt 1)]) 4 rfl ?_
              refine xr_if_eq rfl (by omega) (fun z43 => ?_) (fun z43 => ?_)
              · exfalso; omega
              · refine xr_steps (pc' := 59) (L' := [(4, .int (Int32.ofInt 1)), (3, .int (Int32.ofInt ((ye n f (p + 1)) - 48))), (2, .int (Int32.ofInt ((ye n f p) - 48))), (0, .ref cu), (1, .int (Int32.ofInt pt))]) (st' := [.int (Int32.ofInt ((ye n f p) - 48)), .int (Int32.ofInt 10)]) 2 rfl ?_
                refine xr_imul rfl ?_
                refine xr_steps (pc' := 61) (L' := [(4, .int (Int32.ofInt 1)), (3, .int (Int32.ofInt ((ye n f (p + 1)) - 48))), (2, .int (Int32.ofInt ((ye n f p) - 48))), (0, .ref cu), (1, .int (Int32.ofInt pt))]) (st' := [.int (Int32.ofInt ((ye n f (p + 1)) - 48)), .int (Int32.ofInt (10 * ((ye n f p) - 48)))]) 1 rfl ?_
                refine xr_iadd rfl ?_
                refine xr_steps (pc' := 66) (L' := [(4, .int (Int32.ofInt 1)), (3, .int (Int32.ofInt ((ye n f (p + 1)) - 48))), (2, .int (Int32.ofInt ((ye n f p) - 48))), (0, .ref cu), (1, .int (Int32.ofInt pt))]) (st' := [.int (Int32.ofInt ((10 * ((ye n f p) - 48)) + ((ye n f (p + 1)) - 48)))]) 1 rfl ?_
                exact xr_retI2 rfl rfl ⟨_, rfl, _, p + 1 + 1, rfl, by omega, M41, by omega⟩
          · rw [if_neg y40] at m40 ⊢
            rw [show ((0 : Nat) : Int) = 0 from rfl]
            rw [Nat.add_zero] at m40
            have M44 := ymv_trans M33 m40
            refine xr_steps (pc' := 41) (L' := [(3, .int (Int32.ofInt ((ye n f (p + 1)) - 48))), (2, .int (Int32.ofInt ((ye n f p) - 48))), (0, .ref cu), (1, .int (Int32.ofInt pt))]) (st' := [.int (Int32.ofInt 1), .int (Int32.ofInt 0)]) 1 rfl ?_
            refine xr_icmp_ne rfl (by omega) (by omega) (fun z45 => ?_) (fun z45 => ?_)
            · refine xr_steps (pc' := 53) (L' := [(4, .int (Int32.ofInt 0)), (3, .int (Int32.ofInt ((ye n f (p + 1)) - 48))), (2, .int (Int32.ofInt ((ye n f p) - 48))), (0, .ref cu), (1, .int (Int32.ofInt pt))]) (st' := [.int (Int32.ofInt 0)]) 3 rfl ?_
              refine xr_if_eq rfl (by omega) (fun z46 => ?_) (fun z46 => ?_)
              · refine xr_steps (pc' := 66) (L' := [(4, .int (Int32.ofInt 0)), (3, .int (Int32.ofInt ((ye n f (p + 1)) - 48))), (2, .int (Int32.ofInt ((ye n f p) - 48))), (0, .ref cu), (1, .int (Int32.ofInt pt))]) (st' := [.int (Int32.ofInt ((ye n f p) - 48))]) 1 rfl ?_
                exact xr_retI2 rfl rfl ⟨_, rfl, _, p + 1, rfl, by omega, M44, by omega⟩
              · exfalso; omega
            · exfalso; omega
    · exfalso; omega
  · rw [if_neg y32] at m32 ⊢
    rw [show ((0 : Nat) : Int) = 0 from rfl]
    rw [Nat.add_zero] at m32
    have M47 := ymv_trans m0 m32
    refine xr_if_ne rfl (by omega) (fun z48 => ?_) (fun z48 => ?_)
    · exfalso; omega
    · refine xr_steps (pc' := 18) (L' := [(2, .int (Int32.ofInt ((ye n f p) - 48))), (0, .ref cu), (1, .int (Int32.ofInt pt))]) (st' := [.int (Int32.ofInt (-3))]) 1 rfl ?_
      exact xr_retI2 rfl rfl ⟨_, rfl, _, p, rfl, by omega, M47, by omega⟩
theorem mp_79 {w : Value} {d : Nat} {A : xb_H} {cu sa v n p : Nat} {f : Nat → Int} {pt : Int} (hw : w = .null ∨ w = .ref 19) (hc : ycu A cu sa v n f p) (hpt : pt = 0 ∨ pt = 1) : xr_ok (xt_G w) (d + 1 + 1 + 1 + 1 + 1 + 1 + 1) 79 0 [(0, .ref cu), (1, .int (Int32.ofInt pt))] [] A (fun o A' => ∃ v0, o = .inl v0 ∧ yst A A' cu sa v n f p (xsn pt (ye n f) p) v0) := by
  have m0 := ymv_refl hc 0 0
  have hlt0 := hc.2.2
  refine xr_steps (pc' := 1) (L' := [(0, .ref cu), (1, .int (Int32.ofInt pt))]) (st' := [.int (Int32.ofInt pt)]) 1 rfl ?_
  refine xr_if_eq rfl (by omega) (fun z31 => ?_) (fun z31 => ?_)
  · refine xr_steps (pc' := 20) (L' := [(0, .ref cu), (1, .int (Int32.ofInt pt))]) (st' := [.int (Int32.ofInt pt), .ref cu]) 2 rfl ?_
    refine xr_call (q := (.invokestatic 57, 3, 80, 2)) (av := [.ref cu, .int (Int32.ofInt pt)]) (rest := []) rfl rfl (by decide) rfl rfl (Nat.le_of_ble_eq_true rfl) (mp_80 hw hc hpt) ?_
    rintro _ B32 ⟨x, pz, rfl, hpz, m32, hx⟩
    have hrz := ye_rng hc p
    have hry := ye_rng hc (p + 1)
    have hle := m32.1.2.2
    have M33 := ymv_trans m0 m32
    refine xr_steps (pc' := 27) (L' := [(2, .int (Int32.ofInt x)), (0, .ref cu), (1, .int (Int32.ofInt pt))]) (st' := [.int (Int32.ofInt 93), .ref cu]) 3 rfl ?_
    obtain ⟨b34, hb34⟩ := mo_bool (ye n f pz = 93)
    refine xr_call (q := (.invokevirtual 25, 3, 67, 2)) (av := [.ref cu, .int (Int32.ofInt 93)]) (rest := []) rfl rfl (by decide) rfl (xr_rcv rfl M33.1.1) (Nat.le_of_ble_eq_true rfl) (mk_acc hw M33.1 (by omega) hb34) ?_
    rintro _ B34 ⟨rfl, hcase⟩
    rcases hcase with ⟨rfl, y34, m34⟩ | ⟨rfl, y34, eA⟩
    · have M35 := ymv_trans M33 m34
      refine xr_if_eq rfl (by omega) (fun z36 => ?_) (fun z36 => ?_)
      · exfalso; omega
      · refine xr_steps (pc' := 39) (L' := [(2, .int (Int32.ofInt x)), (0, .ref cu), (1, .int (Int32.ofInt pt))]) (st' := [.int (Int32.ofInt x)]) 2 rfl ?_
        refine xr_retI2 rfl rfl ⟨_, rfl, _, pz + 1, rfl, by omega, M35, ?_⟩
        unfold xsn
        rw [if_neg (by omega)]
        rcases hx with ⟨h1, h2⟩ | ⟨h1, h2, h3, h4⟩ | ⟨h1, h2, h3, h4⟩
        · rw [if_neg h1]
          exact Or.inr ⟨rfl, h2⟩
        · subst h4
          rw [if_pos h1, if_pos h2, if_pos (by assumption), h3]
          exact Or.inl rfl
        · subst h4
          rw [if_pos h1, if_neg h2, if_pos (by assumption), h3]
          exact Or.inl rfl
    · rw [eA]
      clear eA
      refine xr_if_eq rfl (by omega) (fun z37 => ?_) (fun z37 => ?_)
      · refine xr_steps (pc' := 39) (L' := [(2, .int (Int32.ofInt x)), (0, .ref cu), (1, .int (Int32.ofInt pt))]) (st' := [.int (Int32.ofInt (-3))]) 1 rfl ?_
        refine xr_retI2 rfl rfl ⟨_, rfl, _, pz, rfl, by omega, M33, ?_⟩
        unfold xsn
        rw [if_neg (by omega)]
        rcases hx with ⟨h1, h2⟩ | ⟨h1, h2, h3, h4⟩ | ⟨h1, h2, h3, h4⟩
        · rw [if_neg h1]
          exact Or.inr ⟨rfl, rfl⟩
        · subst h4
          rw [if_pos h1, if_pos h2, if_neg (by assumption)]
          exact Or.inr ⟨rfl, rfl⟩
        · subst h4
          rw [if_pos h1, if_neg h2, if_neg (by assumption)]
          exact Or.inr ⟨rfl, rfl⟩
      · exfalso; omega
  · refine xr_steps (pc' := 7) (L' := [(0, .ref cu), (1, .int (Int32.ofInt pt))]) (st' := [.int (Int32.ofInt 42), .ref cu]) 2 rfl ?_
    obtain ⟨b38, hb38⟩ := mo_bool (ye n f p = 42)
    refine xr_call (q := (.invokevirtual 25, 3, 67, 2)) (av := [.ref cu, .int (Int32.ofInt 42)]) (rest := []) rfl rfl (by decide) rfl (xr_rcv rfl hc.1) (Nat.le_of_ble_eq_true rfl) (mk_acc hw hc (by omega) hb38) ?_
    rintro _ B38 ⟨rfl, hcase⟩
    rcases hcase with ⟨rfl, y38, m38⟩ | ⟨rfl, y38, eA⟩
    · have M39 := ymv_trans m0 m38
      refine xr_if_eq rfl (by omega) (fun z40 => ?_) (fun z40 => ?_)
      · exfalso; omega
      · refine xr_steps (pc' := 27) (L' := [(2, .int (Int32.ofInt (-2))), (0, .ref cu), (1, .int (Int32.ofInt pt))]) (st' := [.int (Int32.ofInt 93), .ref cu]) 5 rfl ?_
        obtain ⟨b41, hb41⟩ := mo_bool (ye n f (p + 1) = 93)
        refine xr_call (q := (.invokevirtual 25, 3, 67, 2)) (av := [.ref cu, .int (Int32.ofInt 93)]) (rest := []) rfl rfl (by decide) rfl (xr_rcv rfl M39.1.1) (Nat.le_of_ble_eq_true rfl) (mk_acc hw M39.1 (by omega) hb41) ?_
        rintro _ B41 ⟨rfl, hcase⟩
        rcases hcase with ⟨rfl, y41, m41⟩ | ⟨rfl, y41, eA⟩
        · have M42 := ymv_trans M39 m41
          refine xr_if_eq rfl (by omega) (fun z43 => ?_) (fun z43 => ?_)
          · exfalso; omega
          · refine xr_steps (pc' := 39) (L' := [(2, .int (Int32.ofInt (-2))), (0, .ref cu), (1, .int (Int32.ofInt pt))]) (st' := [.int (Int32.ofInt (-2))]) 2 rfl ?_
            refine xr_retI2 rfl rfl ⟨_, rfl, _, p + 1 + 1, rfl, by omega, M42, ?_⟩
            unfold xsn
            rw [if_pos (by omega), if_pos (by omega)]
            exact Or.inl rfl
        · rw [eA]
          clear eA
          refine xr_if_eq rfl (by omega) (fun z44 => ?_) (fun z44 => ?_)
          · refine xr_steps (pc' := 39) (L' := [(2, .int (Int32.ofInt (-2))), (0, .ref cu), (1, .int (Int32.ofInt pt))]) (st' := [.int (Int32.ofInt (-3))]) 1 rfl ?_
            refine xr_retI2 rfl rfl ⟨_, rfl, _, p + 1, rfl, by omega, M39, ?_⟩
            unfold xsn
            rw [if_pos (by omega), if_neg (by omega)]
            exact Or.inr ⟨rfl, rfl⟩
          · exfalso; omega
    · rw [eA]
      clear eA
      refine xr_if_eq rfl (by omega) (fun z45 => ?_) (fun z45 => ?_)
      · refine xr_steps (pc' := 20) (L' := [(0, .ref cu), (1, .int (Int32.ofInt pt))]) (st' := [.int (Int32.ofInt pt), .ref cu]) 2 rfl ?_
        refine xr_call (q := (.invokestatic 57, 3, 80, 2)) (av := [.ref cu, .int (Int32.ofInt pt)]) (rest := []) rfl rfl (by decide) rfl rfl (Nat.le_of_ble_eq_true rfl) (mp_80 hw hc hpt) ?_
        rintro _ B46 ⟨x, pz, rfl, hpz, m46, hx⟩
        have hrz := ye_rng hc p
        have hry := ye_rng hc (p + 1)
        have hle := m46.1.2.2
        have M47 := ymv_trans m0 m46
        refine xr_steps (pc' := 27) (L' := [(2, .int (Int32.ofInt x)), (0, .ref cu), (1, .int (Int32.ofInt pt))]) (st' := [.int (Int32.ofInt 93), .ref cu]) 3 rfl ?_
        obtain ⟨b48, hb48⟩ := mo_bool (ye n f pz = 93)
        refine xr_call (q := (.invokevirtual 25, 3, 67, 2)) (av := [.ref cu, .int (Int32.ofInt 93)]) (rest := []) rfl rfl (by decide) rfl (xr_rcv rfl M47.1.1) (Nat.le_of_ble_eq_true rfl) (mk_acc hw M47.1 (by omega) hb48) ?_
        rintro _ B48 ⟨rfl, hcase⟩
        rcases hcase with ⟨rfl, y48, m48⟩ | ⟨rfl, y48, eA⟩
        · have M49 := ymv_trans M47 m48
          refine xr_if_eq rfl (by omega) (fun z50 => ?_) (fun z50 => ?_)
          · exfalso; omega
          · refine xr_steps (pc' := 39) (L' := [(2, .int (Int32.ofInt x)), (0, .ref cu), (1, .int (Int32.ofInt pt))]) (st' := [.int (Int32.ofInt x)]) 2 rfl ?_
            refine xr_retI2 rfl rfl ⟨_, rfl, _, pz + 1, rfl, by omega, M49, ?_⟩
            unfold xsn
            rw [if_neg (by omega)]
            rcases hx with ⟨h1, h2⟩ | ⟨h1, h2, h3, h4⟩ | ⟨h1, h2, h3, h4⟩
            · rw [if_neg h1]
              exact Or.inr ⟨rfl, h2⟩
            · subst h4
              rw [if_pos h1, if_pos h2, if_pos (by assumption), h3]
              exact Or.inl rfl
            · subst h4
              rw [if_pos h1, if_neg h2, if_pos (by assumption), h3]
              exact Or.inl rfl
        · rw [eA]
          clear eA
          refine xr_if_eq rfl (by omega) (fun z51 => ?_) (fun z51 => ?_)
          · refine xr_steps (pc' := 39) (L' := [(2, .int (Int32.ofInt x)), (0, .ref cu), (1, .int (Int32.ofInt pt))]) (st' := [.int (Int32.ofInt (-3))]) 1 rfl ?_
            refine xr_retI2 rfl rfl ⟨_, rfl, _, pz, rfl, by omega, M47, ?_⟩
            unfold xsn
            rw [if_neg (by omega)]
            rcases hx with ⟨h1, h2⟩ | ⟨h1, h2, h3, h4⟩ | ⟨h1, h2, h3, h4⟩
            · rw [if_neg h1]
              exact Or.inr ⟨rfl, rfl⟩
            · subst h4
              rw [if_pos h1, if_pos h2, if_neg (by assumption)]
              exact Or.inr ⟨rfl, rfl⟩
            · subst h4
              rw [if_pos h1, if_neg h2, if_neg (by assumption)]
              exact Or.inr ⟨rfl, rfl⟩
          · exfalso; omega
      · exfalso; omega
/-! Paths -/
/-- a path pa with its row ro of rm steps: the steps l -/
def ypa (A : xb_H) (pa ro rm : Nat) (l : List Int) : Prop := ∃ g : Nat → Int, xb_get A pa = some (.inr (6, [.ref ro, .int (Int32.ofInt (l.length : Int))])) ∧ xb_get A ro = some (.inl (.int, rm, .inl fun j => Int32.ofInt (g j))) ∧ (∀ j : Nat, j < l.length → g j = l.getD j 0) ∧ (l.length ≤ rm ∧ rm ≤ 50) ∧ (64 ≤ pa ∧ 64 ≤ ro) ∧ ∀ c ∈ l, -2 ≤ c ∧ c ≤ 1200
theorem ypa_fr {A A' : xb_H} {pa ro rm : Nat} {l : List Int} {M : List Nat} {p q : Nat} (h : ypa A pa ro rm l) (hf : yfr A A' M p q) (h1 : ¬ pa ∈ M) (h2 : ¬ ro ∈ M) : ypa A' pa ro rm l := by
  obtain ⟨g, a, b, c⟩ := h
  exact ⟨g, yfr_get hf a h1, yfr_get hf b h2, c⟩
theorem xl_snoc (l : List Int) (s : Int) (j : Nat) (h : j < (l ++ [s]).length) : (l ++ [s]).getD j 0 = if j = l.length then s else l.getD j 0 := by
  rw [List.getD_eq_getElem?_getD, List.getD_eq_getElem?_getD]
  rw [List.length_append, List.length_singleton] at h
  by_cases e : j = l.length
  · rw [if_pos e, List.getElem?_append_right (by omega), e, Nat.sub_self]
    rfl
  · rw [if_neg e, List.getElem?_append_left (by omega)]
theorem mp_82 {w : Value} {d : Nat} {A : xb_H} {pa ro rm : Nat} {l : List Int} {s : Int} (hp : ypa A pa ro rm l) (hl : l.length < rm) (hs : -2 ≤ s ∧ s ≤ 1200) : xr_ok (xt_G w) d 82 0 [(0, .ref pa), (1, .int (Int32.ofInt s))] [] A (fun o A' => ∃ v0, o = .inl v0 ∧ v0 = none ∧ ypa A' pa ro rm (l ++ [s]) ∧ yfr A A' [pa, ro] 0 0) := by
  obtain ⟨g, h1, h2, h3, h4, h5, h6⟩ := id hp
  have hne : ¬ ro = pa := by
    intro e
    rw [e, h1] at h2
    cases h2
  have f31 := yfr_refl A [pa, ro] 0 0
  refine xr_steps (pc' := 1) (L' := [(0, .ref pa), (1, .int (Int32.ofInt s))]) (st' := [.ref pa]) 1 rfl ?_
  refine xr_getf (v := .int (Int32.ofInt (l.length : Int))) rfl h1 rfl ?_
  refine xr_steps (pc' := 5) (L' := [(0, .ref pa), (1, .int (Int32.ofInt s))]) (st' := [.ref pa, .int (Int32.ofInt (l.length : Int))]) 1 rfl ?_
  refine xr_getf (v := .ref ro) rfl h1 rfl ?_
  refine xr_alen rfl h2 ?_
  refine xr_icmp_ge rfl (by omega) (by omega) (fun z32 => ?_) (fun z32 => ?_)
  · exfalso; omega
  · refine xr_steps (pc' := 13) (L' := [(0, .ref pa), (1, .int (Int32.ofInt s))]) (st' := [.ref pa]) 1 rfl ?_
    refine xr_getf (v := .ref ro) rfl h1 rfl ?_
    refine xr_steps (pc' := 17) (L' := [(0, .ref pa), (1, .int (Int32.ofInt s))]) (st' := [.ref pa, .ref ro]) 1 rfl ?_
    refine xr_getf (v := .int (Int32.ofInt (l.length : Int))) rfl h1 rfl ?_
    refine xr_steps (pc' := 21) (L' := [(0, .ref pa), (1, .int (Int32.ofInt s))]) (st' := [.int (Int32.ofInt s), .int (Int32.ofInt (l.length : Int)), .ref ro]) 1 rfl ?_
    obtain ⟨A33, eA33⟩ : ∃ A0, xb_set A ro (.inl (.int, rm, .inl fun j => Int32.ofInt ((va_up g (l.length : Int).toNat s) j))) = A0 := ⟨_, rfl⟩
    refine xr_iastoreN rfl h2 (show 64 ≤ ro by omega) (by omega) (by omega) (by omega) (xr_heap eA33 ?_)
    have g34 := xr_mv eA33 (xb_get_set_ne h2 h1 (by omega))
    have g35 := xr_mv eA33 (xb_get_set_same h2)
    have nA33 : A33.1 = A.1 := by rw [← eA33]; rfl
    have f36 := yfr_mv eA33 (yfr_step_set f31 h2 (Or.inl (by simp)))
    refine xr_steps (pc' := 24) (L' := [(0, .ref pa), (1, .int (Int32.ofInt s))]) (st' := [.ref pa, .ref pa]) 2 rfl ?_
    refine xr_getf (v := .int (Int32.ofInt (l.length : Int))) rfl g34 rfl ?_
    refine xr_steps (pc' := 28) (L' := [(0, .ref pa), (1, .int (Int32.ofInt s))]) (st' := [.int (Int32.ofInt 1), .int (Int32.ofInt (l.length : Int)), .ref pa]) 1 rfl ?_
    refine xr_iadd rfl ?_
    obtain ⟨A37, eA37⟩ : ∃ A0, xb_set A33 pa (.inr (6, [.ref ro, .int (Int32.ofInt ((l.length : Int) + 1))])) = A0 := ⟨_, rfl⟩
    refine xr_putf (t := .int) rfl g34 (show 64 ≤ pa by omega) (Nat.le_of_ble_eq_true rfl) rfl (xr_fitI _) (xr_heap eA37 ?_)
    have g38 := xr_mv eA37 (xb_get_set_same g34)
    have g39 := xr_mv eA37 (xb_get_set_ne g34 g35 (by omega))
    have nA37 : A37.1 = A33.1 := by rw [← eA37]; rfl
    have f40 := yfr_mv eA37 (yfr_step_set f36 g34 (Or.inl (by simp)))
    refine xr_retN rfl rfl ⟨_, rfl, rfl, ⟨va_up g l.length s, ?_, ?_, fun j hj => ?_, ⟨by rw [List.length_append, List.length_singleton]; omega, h4.2⟩, h5, fun c hc => ?_⟩, f40⟩
    · rw [show ((l ++ [s]).length : Int) = (l.length : Int) + 1 by rw [List.length_append]; rfl]
      exact g38
    · exact g39
    · rw [xl_snoc l s j hj]
      by_cases e : j = l.length
      · rw [if_pos e, e, ya_up_same]
      · rw [List.length_append, List.length_singleton] at hj
        rw [if_neg e, ya_up_ne _ _ e, h3 j (by omega)]
    · rcases List.mem_append.mp hc with hc | hc
      · exact h6 c hc
      · rw [List.mem_singleton] at hc
        omega
theorem mp_90 {w : Value} {d : Nat} {A : xb_H} {pa ro rm : Nat} {l : List Int} (hp : ypa A pa ro rm l) : xr_ok (xt_G w) d 90 0 [(0, .ref pa)] [] A (fun o A' => ∃ v0, o = .inl v0 ∧ v0 = some (.int (Int32.ofInt (l.length : Int))) ∧ A' = A) := by
  obtain ⟨g, h1, h2, h3, h4, h5, h6⟩ := id hp
  have hne : ¬ ro = pa := by
    intro e
    rw [e, h1] at h2
    cases h2
  refine xr_steps (pc' := 1) (L' := [(0, .ref pa)]) (st' := [.ref pa]) 1 rfl ?_
  refine xr_getf (v := .int (Int32.ofInt (l.length : Int))) rfl h1 rfl ?_
  exact xr_retI2 rfl rfl ⟨_, rfl, rfl, rfl⟩
theorem mp_174 {w : Value} {d : Nat} {A : xb_H} {pa ro rm : Nat} {l : List Int} (hp : ypa A pa ro rm l) : xr_ok (xt_G w) d 174 0 [(0, .ref pa)] [] A (fun o A' => ∃ v0, o = .inl v0 ∧ v0 = none ∧ ypa A' pa ro rm [] ∧ yfr A A' [pa] 0 0) := by
  obtain ⟨g, h1, h2, h3, h4, h5, h6⟩ := id hp
  have hne : ¬ ro = pa := by
    intro e
    rw [e, h1] at h2
    cases h2
  have f31 := yfr_refl A [pa] 0 0
  refine xr_steps (pc' := 2) (L' := [(0, .ref pa)]) (st' := [.int (Int32.ofInt 0), .ref pa]) 2 rfl ?_
  obtain ⟨A32, eA32⟩ : ∃ A0, xb_set A pa (.inr (6, [.ref ro, .int (Int32.ofInt 0)])) = A0 := ⟨_, rfl⟩
  refine xr_putf (t := .int) rfl h1 (show 64 ≤ pa by omega) (Nat.le_of_ble_eq_true rfl) rfl (xr_fitI _) (xr_heap eA32 ?_)
  have g33 := xr_mv eA32 (xb_get_set_same h1)
  have g34 := xr_mv eA32 (xb_get_set_ne h1 h2 (by omega))
  have nA32 : A32.1 = A.1 := by rw [← eA32]; rfl
  have f35 := yfr_mv eA32 (yfr_step_set f31 h1 (Or.inl (by simp)))
  exact xr_retN rfl rfl ⟨_, rfl, rfl, ⟨g, g33, g34, fun j hj => absurd hj (Nat.not_lt_zero _), ⟨Nat.zero_le _, h4.2⟩, h5, fun c hc => absurd hc List.not_mem_nil⟩, f35⟩
theorem mp_198 {w : Value} {d : Nat} {A : xb_H} {pa ro rm : Nat} {l : List Int} {s : Int} (hp : ypa A pa ro rm (l ++ [s])) : xr_ok (xt_G w) d 198 0 [(0, .ref pa)] [] A (fun o A' => ∃ v0, o = .inl v0 ∧ v0 = none ∧ ypa A' pa ro rm l ∧ yfr A A' [pa] 0 0) := by
  obtain ⟨g, h1, h2, h3, h4, h5, h6⟩ := id hp
  have hne : ¬ ro = pa := by
    intro e
    rw [e, h1] at h2
    cases h2
  have hlen : (l ++ [s]).length = l.length + 1 := by rw [List.length_append]; rfl
  have f31 := yfr_refl A [pa] 0 0
  refine xr_steps (pc' := 1) (L' := [(0, .ref pa)]) (st' := [.ref pa]) 1 rfl ?_
  refine xr_getf (v := .int (Int32.ofInt ((l ++ [s]).length : Int))) rfl h1 rfl ?_
  refine xr_if_le rfl (by omega) (fun z32 => ?_) (fun z32 => ?_)
  · exfalso; omega
  · refine xr_steps (pc' := 9) (L' := [(0, .ref pa)]) (st' := [.ref pa, .ref pa]) 2 rfl ?_
    refine xr_getf (v := .int (Int32.ofInt ((l ++ [s]).length : Int))) rfl h1 rfl ?_
    refine xr_steps (pc' := 13) (L' := [(0, .ref pa)]) (st' := [.int (Int32.ofInt 1), .int (Int32.ofInt ((l ++ [s]).length : Int)), .ref pa]) 1 rfl ?_
    refine xr_isub rfl ?_
    obtain ⟨A33, eA33⟩ : ∃ A0, xb_set A pa (.inr (6, [.ref ro, .int (Int32.ofInt (((l ++ [s]).length : Int) - 1))])) = A0 := ⟨_, rfl⟩
    refine xr_putf (t := .int) rfl h1 (show 64 ≤ pa by omega) (Nat.le_of_ble_eq_true rfl) rfl (xr_fitI _) (xr_heap eA33 ?_)
    have g34 := xr_mv eA33 (xb_get_set_same h1)
    have g35 := xr_mv eA33 (xb_get_set_ne h1 h2 (by omega))
    have nA33 : A33.1 = A.1 := by rw [← eA33]; rfl
    have f36 := yfr_mv eA33 (yfr_step_set f31 h1 (Or.inl (by simp)))
    refine xr_retN rfl rfl ⟨_, rfl, rfl, ⟨g, ?_, g35, fun j hj => ?_, ⟨by omega, h4.2⟩, h5, fun c hc => h6 c (List.mem_append_left _ hc)⟩, f36⟩
    · have hl2 : ((l ++ [s]).length : Int) - 1 = (l.length : Int) := by rw [List.length_append]; show ((l.length + 1 : Nat) : Int) - 1 = _; omega
      rw [← hl2]
      exact g34
    · have := h3 j (by omega)
      rw [xl_snoc l s j (by omega), if_neg (by omega)] at this
      exact this
/-- a pattern's step fits a place's -/
def xsf (s a : Int) : Prop := s = a ∨ (1000 ≤ a ∧ s = -1) ∨ (a < 1000 ∧ s = -2)
/-- a pattern fits a place -/
def xft (l m : List Int) : Prop := l.length ≤ m.length ∧ ∀ j : Nat, j < l.length → xsf (l.getD j 0) (m.getD j 0)
theorem mp_87 {w : Value} {d : Nat} {A : xb_H} {s a : Int} (hs : -2 ≤ s ∧ s ≤ 1200) (ha : -2 ≤ a ∧ a ≤ 1200) {b : Int} (hb : (b = 1 ∧ (xsf s a)) ∨ (b = 0 ∧ ¬ (xsf s a))) : xr_ok (xt_G w) d 87 0 [(0, .int (Int32.ofInt s)), (1, .int (Int32.ofInt a))] [] A (fun o A' => ∃ v0, o = .inl v0 ∧ v0 = some (.int (Int32.ofInt b)) ∧ A' = A) := by
  refine xr_steps (pc' := 2) (L' := [(0, .int (Int32.ofInt s)), (1, .int (Int32.ofInt a))]) (st' := [.int (Int32.ofInt a), .int (Int32.ofInt s)]) 2 rfl ?_
  refine xr_icmp_eq rfl (by omega) (by omega) (fun z31 => ?_) (fun z31 => ?_)
  · refine xr_steps (pc' := 27) (L' := [(0, .int (Int32.ofInt s)), (1, .int (Int32.ofInt a))]) (st' := [.int (Int32.ofInt 1)]) 2 rfl ?_
    obtain rfl : b = 1 := by unfold xsf at hb; omega
    exact xr_retZ rfl rfl (by omega) ⟨_, rfl, rfl, rfl⟩
  · refine xr_steps (pc' := 10) (L' := [(0, .int (Int32.ofInt s)), (1, .int (Int32.ofInt a))]) (st' := [.int (Int32.ofInt 1000), .int (Int32.ofInt a), .int (Int32.ofInt s)]) 3 rfl ?_
    refine xr_icmp_lt rfl (by omega) (by omega) (fun z32 => ?_) (fun z32 => ?_)
    · refine xr_steps (pc' := 19) (L' := [(0, .int (Int32.ofInt s)), (1, .int (Int32.ofInt a))]) (st' := [.int (Int32.ofInt (-2)), .int (Int32.ofInt s)]) 1 rfl ?_
      refine xr_icmp_ne rfl (by omega) (by omega) (fun z33 => ?_) (fun z33 => ?_)
      · refine xr_steps (pc' := 27) (L' := [(0, .int (Int32.ofInt s)), (1, .int (Int32.ofInt a))]) (st' := [.int (Int32.ofInt 0)]) 1 rfl ?_
        obtain rfl : b = 0 := by unfold xsf at hb; omega
        exact xr_retZ rfl rfl (by omega) ⟨_, rfl, rfl, rfl⟩
      · refine xr_steps (pc' := 27) (L' := [(0, .int (Int32.ofInt s)), (1, .int (Int32.ofInt a))]) (st' := [.int (Int32.ofInt 1)]) 2 rfl ?_
        obtain rfl : b = 1 := by unfold xsf at hb; omega
        exact xr_retZ rfl rfl (by omega) ⟨_, rfl, rfl, rfl⟩
    · refine xr_steps (pc' := 19) (L' := [(0, .int (Int32.ofInt s)), (1, .int (Int32.ofInt a))]) (st' := [.int (Int32.ofInt (-1)), .int (Int32.ofInt s)]) 2 rfl ?_
      refine xr_icmp_ne rfl (by omega) (by omega) (fun z34 => ?_) (fun z34 => ?_)
      · refine xr_steps (pc' := 27) (L' := [(0, .int (Int32.ofInt s)), (1, .int (Int32.ofInt a))]) (st' := [.int (Int32.ofInt 0)]) 1 rfl ?_
        obtain rfl : b = 0 := by unfold xsf at hb; omega
        exact xr_retZ rfl rfl (by omega) ⟨_, rfl, rfl, rfl⟩
      · refine xr_steps (pc' := 27) (L' := [(0, .int (Int32.ofInt s)), (1, .int (Int32.ofInt a))]) (st' := [.int (Int32.ofInt 1)]) 2 rfl ?_
        obtain rfl : b = 1 := by unfold xsf at hb; omega
        exact xr_retZ rfl rfl (by omega) ⟨_, rfl, rfl, rfl⟩
theorem xl_rng {l : List Int} (h : ∀ c ∈ l, -2 ≤ c ∧ c ≤ 1200) {i : Nat} (hi : i < l.length) : -2 ≤ l.getD i 0 ∧ l.getD i 0 ≤ 1200 := by
  rw [List.getD_eq_getElem?_getD, List.getElem?_eq_getElem hi, Option.getD_some]
  exact h _ (List.getElem_mem hi)
section MF
variable {w : Value} {d : Nat} {A : xb_H} {pa ro rm pb rp rn : Nat} {l m : List Int} {Q : xb_R → xb_H → Prop}
theorem mp_86l (hp : ypa A pa ro rm l) (hp2 : ypa A pb rp rn m) (hle : l.length ≤ m.length) : ∀ (k i : Nat), i + k = l.length → (∀ b : Int, ((b = 1 ∧ ∀ j : Nat, i ≤ j → j < l.length → xsf (l.getD j 0) (m.getD j 0)) ∨ (b = 0 ∧ ¬ ∀ j : Nat, i ≤ j → j < l.length → xsf (l.getD j 0) (m.getD j 0))) → Q (.inl (some (.int (Int32.ofInt b)))) A) → xr_ok (xt_G w) (d + 1) 86 15 [(2, .int (Int32.ofInt (i : Int))), (0, .ref pa), (1, .ref pb)] [] A Q := by
  obtain ⟨g, h1, h2, h3, h4, h5, h6⟩ := id hp
  obtain ⟨gg, k1, k2, k3, k4, k5, k6⟩ := id hp2
  intro k
  induction k with
  | zero =>
    intro i hi hQ
    refine xr_steps (pc' := 17) (L' := [(2, .int (Int32.ofInt (i : Int))), (0, .ref pa), (1, .ref pb)]) (st' := [.ref pa, .int (Int32.ofInt (i : Int))]) 2 rfl ?_
    refine xr_getf (v := .int (Int32.ofInt (l.length : Int))) rfl h1 rfl ?_
    refine xr_icmp_ge rfl (by omega) (by omega) (fun z31 => ?_) (fun z31 => ?_)
    · refine xr_steps (pc' := 50) (L' := [(2, .int (Int32.ofInt (i : Int))), (0, .ref pa), (1, .ref pb)]) (st' := [.int (Int32.ofInt 1)]) 1 rfl ?_
      exact xr_retZ rfl rfl (by omega) (hQ 1 (Or.inl ⟨rfl, fun j h1 h2 => absurd h2 (by omega)⟩))
    · exfalso; omega
  | succ k ih =>
    intro i hi hQ
    refine xr_steps (pc' := 17) (L' := [(2, .int (Int32.ofInt (i : Int))), (0, .ref pa), (1, .ref pb)]) (st' := [.ref pa, .int (Int32.ofInt (i : Int))]) 2 rfl ?_
    refine xr_getf (v := .int (Int32.ofInt (l.length : Int))) rfl h1 rfl ?_
    refine xr_icmp_ge rfl (by omega) (by omega) (fun z31 => ?_) (fun z31 => ?_)
    · exfalso; omega
    · refine xr_steps (pc' := 24) (L' := [(2, .int (Int32.ofInt (i : Int))), (0, .ref pa), (1, .ref pb)]) (st' := [.ref pa]) 1 rfl ?_
      refine xr_getf (v := .ref ro) rfl h1 rfl ?_
      refine xr_steps (pc' := 28) (L' := [(2, .int (Int32.ofInt (i : Int))), (0, .ref pa), (1, .ref pb)]) (st' := [.int (Int32.ofInt (i : Int)), .ref ro]) 1 rfl ?_
      refine xr_iaload rfl h2 (by omega) (by omega) (by omega) ?_
      rw [show (i : Int).toNat = i by omega]
      rw [h3 i (by omega)]
      refine xr_steps (pc' := 30) (L' := [(2, .int (Int32.ofInt (i : Int))), (0, .ref pa), (1, .ref pb)]) (st' := [.ref pb, .int (Int32.ofInt (l.getD i 0))]) 1 rfl ?_
      refine xr_getf (v := .ref rp) rfl k1 rfl ?_
      refine xr_steps (pc' := 34) (L' := [(2, .int (Int32.ofInt (i : Int))), (0, .ref pa), (1, .ref pb)]) (st' := [.int (Int32.ofInt (i : Int)), .ref rp, .int (Int32.ofInt (l.getD i 0))]) 1 rfl ?_
      refine xr_iaload rfl k2 (by omega) (by omega) (by omega) ?_
      rw [show (i : Int).toNat = i by omega]
      rw [k3 i (by omega)]
      obtain ⟨bb, hbb⟩ := mo_bool (xsf (l.getD i 0) (m.getD i 0))
      refine xr_call (q := (.invokestatic 67, 3, 87, 2)) (av := [.int (Int32.ofInt (l.getD i 0)), .int (Int32.ofInt (m.getD i 0))]) (rest := []) rfl rfl (by decide) rfl rfl (Nat.le_of_ble_eq_true rfl) (mp_87 (xl_rng h6 (by omega)) (xl_rng k6 (by omega)) hbb) ?_
      rintro _ _ ⟨rfl, eA⟩
      rw [eA]
      clear eA
      refine xr_if_ne rfl (by omega) (fun z32 => ?_) (fun z32 => ?_)
      · refine xr_iinc (L' := [(2, .int (Int32.ofInt ((i : Int) + 1))), (0, .ref pa), (1, .ref pb)]) rfl rfl rfl ?_
        refine xr_steps (pc' := 15) (L' := [(2, .int (Int32.ofInt ((i : Int) + 1))), (0, .ref pa), (1, .ref pb)]) (st' := []) 1 rfl ?_
        rw [show (i : Int) + 1 = ((i + 1 : Nat) : Int) by omega]
        refine ih (i + 1) (by omega) (fun b hb => hQ b ?_)
        have hs1 : xsf (l.getD i 0) (m.getD i 0) := by
          rcases hbb with h | h
          · exact h.2
          · exact absurd h.1 z32
        rcases hb with ⟨e1, e2⟩ | ⟨e1, e2⟩
        · refine Or.inl ⟨e1, fun j h1 h2 => ?_⟩
          by_cases e : j = i
          · rw [e]; exact hs1
          · exact e2 j (by omega) h2
        · exact Or.inr ⟨e1, fun h => e2 fun j h1 h2 => h j (by omega) h2⟩
      · refine xr_steps (pc' := 42) (L' := [(2, .int (Int32.ofInt (i : Int))), (0, .ref pa), (1, .ref pb)]) (st' := [.int (Int32.ofInt 0)]) 1 rfl ?_
        refine xr_retZ rfl rfl (by omega) (hQ 0 (Or.inr ⟨rfl, fun h => ?_⟩))
        have := h i (Nat.le_refl _) (by omega)
        rcases hbb with h | h
        · omega
        · exact h.2 this
end MF
theorem mp_86 {w : Value} {d : Nat} {A : xb_H} {pa ro rm pb rp rn : Nat} {l m : List Int} (hp : ypa A pa ro rm l) (hp2 : ypa A pb rp rn m) : xr_ok (xt_G w) (d + 1) 86 0 [(0, .ref pa), (1, .ref pb)] [] A (fun o A' => ∃ v0, o = .inl v0 ∧ ∃ b : Int, (v0 = some (.int (Int32.ofInt b)) ∧ A' = A) ∧ ((b = 1 ∧ xft l m) ∨ (b = 0 ∧ ¬ xft l m))) := by
  obtain ⟨g, h1, h2, h3, h4, h5, h6⟩ := id hp
  obtain ⟨gg, k1, k2, k3, k4, k5, k6⟩ := id hp2
  refine xr_steps (pc' := 1) (L' := [(0, .ref pa), (1, .ref pb)]) (st' := [.ref pa]) 1 rfl ?_
  refine xr_getf (v := .int (Int32.ofInt (l.length : Int))) rfl h1 rfl ?_
  refine xr_steps (pc' := 5) (L' := [(0, .ref pa), (1, .ref pb)]) (st' := [.ref pb, .int (Int32.ofInt (l.length : Int))]) 1 rfl ?_
  refine xr_getf (v := .int (Int32.ofInt (m.length : Int))) rfl k1 rfl ?_
  refine xr_icmp_le rfl (by omega) (by omega) (fun z31 => ?_) (fun z31 => ?_)
  · refine xr_steps (pc' := 15) (L' := [(2, .int (Int32.ofInt 0)), (0, .ref pa), (1, .ref pb)]) (st' := []) 2 rfl ?_
    refine mp_86l hp hp2 (by omega) l.length 0 (by omega) (fun b hb => ⟨_, rfl, b, ⟨rfl, rfl⟩, ?_⟩)
    rcases hb with ⟨e1, e2⟩ | ⟨e1, e2⟩
    · exact Or.inl ⟨e1, by omega, fun j hj => e2 j (Nat.zero_le _) hj⟩
    · exact Or.inr ⟨e1, fun h => e2 fun j _ hj => h.2 j hj⟩
  · refine xr_steps (pc' := 12) (L' := [(0, .ref pa), (1, .ref pb)]) (st' := [.int (Int32.ofInt 0)]) 1 rfl ?_
    exact xr_retZ rfl rfl (by omega) ⟨_, rfl, 0, ⟨rfl, rfl⟩, Or.inr ⟨rfl, fun h => by have := h.1; omega⟩⟩
/-- a pattern's weight -/
def xwt (a : Int) (l : List Int) : Int := l.foldl (fun a s => if s = -1 ∨ s = -2 then a else a * 2) a
theorem xwt_drop (a : Int) (l : List Int) {i : Nat} (hi : i < l.length) : xwt a (l.drop i) = xwt (if l.getD i 0 = -1 ∨ l.getD i 0 = -2 then a else a * 2) (l.drop (i + 1)) := by
  have e : l.getD i 0 = l[i] := by rw [List.getD_eq_getElem?_getD, List.getElem?_eq_getElem hi, Option.getD_some]
  rw [List.drop_eq_getElem_cons hi, e]
  rfl
theorem mp_89l {w : Value} {d : Nat} {A : xb_H} {pa ro rm : Nat} {l : List Int} {Q : xb_R → xb_H → Prop} (hp : ypa A pa ro rm l) (hl5 : l.length ≤ 5) : ∀ (k i : Nat) (a : Int), i + k = l.length → 2 ≤ a ∧ a ≤ 2 * (2 ^ i : Nat) → Q (.inl (some (.int (Int32.ofInt (xwt a (l.drop i)))))) A → xr_ok (xt_G w) d 89 4 [(2, .int (Int32.ofInt (i : Int))), (1, .int (Int32.ofInt a)), (0, .ref pa)] [] A Q := by
  obtain ⟨g, h1, h2, h3, h4, h5, h6⟩ := id hp
  intro k
  induction k with
  | zero =>
    intro i a hi ha hQ
    refine xr_steps (pc' := 6) (L' := [(2, .int (Int32.ofInt (i : Int))), (1, .int (Int32.ofInt a)), (0, .ref pa)]) (st' := [.ref pa, .int (Int32.ofInt (i : Int))]) 2 rfl ?_
    refine xr_getf (v := .int (Int32.ofInt (l.length : Int))) rfl h1 rfl ?_
    refine xr_icmp_ge rfl (by omega) (by omega) (fun z31 => ?_) (fun z31 => ?_)
    · refine xr_steps (pc' := 44) (L' := [(2, .int (Int32.ofInt (i : Int))), (1, .int (Int32.ofInt a)), (0, .ref pa)]) (st' := [.int (Int32.ofInt a)]) 1 rfl ?_
      rw [List.drop_eq_nil_of_le (by omega)] at hQ
      exact xr_retI2 rfl rfl hQ
    · exfalso; omega
  | succ k ih =>
    intro i a hi ha hQ
    have hg := h3 i (by omega)
    have hr := xl_rng h6 (i := i) (by omega)
    have hpow : 2 ^ i ≤ 2 ^ 4 := Nat.pow_le_pow_right (by omega) (by omega)
    have hp2 : 2 ^ (i + 1) = 2 * 2 ^ i := by rw [Nat.pow_succ]; omega
    rw [xwt_drop a l (by omega)] at hQ
    refine xr_steps (pc' := 6) (L' := [(2, .int (Int32.ofInt (i : Int))), (1, .int (Int32.ofInt a)), (0, .ref pa)]) (st' := [.ref pa, .int (Int32.ofInt (i : Int))]) 2 rfl ?_
    refine xr_getf (v := .int (Int32.ofInt (l.length : Int))) rfl h1 rfl ?_
    refine xr_icmp_ge rfl (by omega) (by omega) (fun z31 => ?_) (fun z31 => ?_)
    · exfalso; omega
    · refine xr_steps (pc' := 13) (L' := [(2, .int (Int32.ofInt (i : Int))), (1, .int (Int32.ofInt a)), (0, .ref pa)]) (st' := [.ref pa]) 1 rfl ?_
      refine xr_getf (v := .ref ro) rfl h1 rfl ?_
      refine xr_steps (pc' := 17) (L' := [(2, .int (Int32.ofInt (i : Int))), (1, .int (Int32.ofInt a)), (0, .ref pa)]) (st' := [.int (Int32.ofInt (i : Int)), .ref ro]) 1 rfl ?_
      refine xr_iaload rfl h2 (by omega) (by omega) (by omega) ?_
      rw [show (i : Int).toNat = i by omega]
      refine xr_steps (pc' := 19) (L' := [(2, .int (Int32.ofInt (i : Int))), (1, .int (Int32.ofInt a)), (0, .ref pa)]) (st' := [.int (Int32.ofInt (-1)), .int (Int32.ofInt (g i))]) 1 rfl ?_
      refine xr_icmp_eq rfl (by omega) (by omega) (fun z32 => ?_) (fun z32 => ?_)
      · refine xr_iinc (L' := [(2, .int (Int32.ofInt ((i : Int) + 1))), (1, .int (Int32.ofInt a)), (0, .ref pa)]) rfl rfl rfl ?_
        refine xr_steps (pc' := 4) (L' := [(2, .int (Int32.ofInt ((i : Int) + 1))), (1, .int (Int32.ofInt a)), (0, .ref pa)]) (st' := []) 1 rfl ?_
        refine xr_loc (L := [(2, .int (Int32.ofInt ((i : Int) + 1))), (1, .int (Int32.ofInt a)), (0, .ref pa)]) (show [2, 1, 0].Nodup by decide) ⟨rfl, rfl, rfl, trivial⟩ ?_
        rw [if_pos (by omega)] at hQ
        rw [show (i : Int) + 1 = ((i + 1 : Nat) : Int) by omega]
        exact ih (i + 1) _ (by omega) (by rw [hp2]; omega) hQ
      · refine xr_steps (pc' := 23) (L' := [(2, .int (Int32.ofInt (i : Int))), (1, .int (Int32.ofInt a)), (0, .ref pa)]) (st' := [.ref pa]) 1 rfl ?_
        refine xr_getf (v := .ref ro) rfl h1 rfl ?_
        refine xr_steps (pc' := 27) (L' := [(2, .int (Int32.ofInt (i : Int))), (1, .int (Int32.ofInt a)), (0, .ref pa)]) (st' := [.int (Int32.ofInt (i : Int)), .ref ro]) 1 rfl ?_
        refine xr_iaload rfl h2 (by omega) (by omega) (by omega) ?_
        rw [show (i : Int).toNat = i by omega]
        refine xr_steps (pc' := 30) (L' := [(2, .int (Int32.ofInt (i : Int))), (1, .int (Int32.ofInt a)), (0, .ref pa)]) (st' := [.int (Int32.ofInt (-2)), .int (Int32.ofInt (g i))]) 1 rfl ?_
        refine xr_icmp_eq rfl (by omega) (by omega) (fun z33 => ?_) (fun z33 => ?_)
        · refine xr_iinc (L' := [(2, .int (Int32.ofInt ((i : Int) + 1))), (1, .int (Int32.ofInt a)), (0, .ref pa)]) rfl rfl rfl ?_
          refine xr_steps (pc' := 4) (L' := [(2, .int (Int32.ofInt ((i : Int) + 1))), (1, .int (Int32.ofInt a)), (0, .ref pa)]) (st' := []) 1 rfl ?_
          refine xr_loc (L := [(2, .int (Int32.ofInt ((i : Int) + 1))), (1, .int (Int32.ofInt a)), (0, .ref pa)]) (show [2, 1, 0].Nodup by decide) ⟨rfl, rfl, rfl, trivial⟩ ?_
          rw [if_pos (by omega)] at hQ
          rw [show (i : Int) + 1 = ((i + 1 : Nat) : Int) by omega]
          exact ih (i + 1) _ (by omega) (by rw [hp2]; omega) hQ
        · refine xr_steps (pc' := 35) (L' := [(2, .int (Int32.ofInt (i : Int))), (1, .int (Int32.ofInt a)), (0, .ref pa)]) (st' := [.int (Int32.ofInt 2), .int (Int32.ofInt a)]) 2 rfl ?_
          refine xr_imul rfl ?_
          refine xr_steps (pc' := 37) (L' := [(1, .int (Int32.ofInt (a * 2))), (2, .int (Int32.ofInt (i : Int))), (0, .ref pa)]) (st' := []) 1 rfl ?_
          refine xr_iinc (L' := [(2, .int (Int32.ofInt ((i : Int) + 1))), (1, .int (Int32.ofInt (a * 2))), (0, .ref pa)]) rfl rfl rfl ?_
          refine xr_steps (pc' := 4) (L' := [(2, .int (Int32.ofInt ((i : Int) + 1))), (1, .int (Int32.ofInt (a * 2))), (0, .ref pa)]) (st' := []) 1 rfl ?_
          refine xr_loc (L := [(2, .int (Int32.ofInt ((i : Int) + 1))), (1, .int (Int32.ofInt (a * 2))), (0, .ref pa)]) (show [2, 1, 0].Nodup by decide) ⟨rfl, rfl, rfl, trivial⟩ ?_
          rw [if_neg (by omega)] at hQ
          rw [show (i : Int) + 1 = ((i + 1 : Nat) : Int) by omega]
          exact ih (i + 1) _ (by omega) (by rw [hp2]; omega) hQ
theorem mp_89 {w : Value} {d : Nat} {A : xb_H} {pa ro rm : Nat} {l : List Int} (hp : ypa A pa ro rm l) (hl5 : l.length ≤ 5) : xr_ok (xt_G w) d 89 0 [(0, .ref pa)] [] A (fun o A' => ∃ v0, o = .inl v0 ∧ v0 = some (.int (Int32.ofInt (xwt 2 l))) ∧ A' = A) := by
  obtain ⟨g, h1, h2, h3, h4, h5, h6⟩ := id hp
  have hne : ¬ ro = pa := by
    intro e
    rw [e, h1] at h2
    cases h2
  refine xr_steps (pc' := 4) (L' := [(2, .int (Int32.ofInt 0)), (1, .int (Int32.ofInt 2)), (0, .ref pa)]) (st' := []) 4 rfl ?_
  refine xr_loc (L := [(2, .int (Int32.ofInt 0)), (1, .int (Int32.ofInt 2)), (0, .ref pa)]) (show [2, 1, 0].Nodup by decide) ⟨rfl, rfl, rfl, trivial⟩ ?_
  exact mp_89l hp hl5 l.length 0 2 (by omega) (by omega) ⟨_, rfl, rfl, rfl⟩
/-! Places and patterns are read -/
/-- steps from p on, k at most -/
def xsp (pt : Int) (e : Nat → Int) : Nat → Nat → Option (List Int × Nat)
  | 0, p => some ([], p)
  | k + 1, p => if e p = 46 then (match xsk pt e (p + 1) with
      | none => none
      | some (s, q) => (match xsp pt e k q with
        | none => none
        | some (l, r) => some (s :: l, r))) else if e p = 91 then (match xsn pt e (p + 1) with
      | none => none
      | some (s, q) => (match xsp pt e k q with
        | none => none
        | some (l, r) => some (s :: l, r))) else some ([], p)
/-- what a reader of a path does -/
def yrp (A A' : xb_H) (cu sa v n : Nat) (f : Nat → Int) (p rm : Nat) (r : Option (List Int × Nat)) (v0 : Option Value) : Prop := ∃ p', p ≤ p' ∧ ymv A A' cu sa v n f p' 2 (2 + rm) ∧ ((∃ (pa ro : Nat) (l : List Int), v0 = some (.ref pa) ∧ ypa A' pa ro rm l ∧ ((A.1 ≤ pa ∧ pa < A'.1) ∧ A.1 ≤ ro ∧ ro < A'.1) ∧ r = some (l, p')) ∨ (v0 = some .null ∧ r = none))
theorem mp_9 {w : Value} {d : Nat} {A : xb_H} {pa rm : Nat} (h1 : xb_get A pa = some (.inr (6, [.null, .int (Int32.ofInt 0)]))) (hz : 64 ≤ pa) (hrm : rm ≤ 50) : xr_ok (xt_G w) (d + 1) 9 0 [(0, .ref pa), (1, .int (Int32.ofInt (rm : Int)))] [] A (fun o A' => ∃ v0, o = .inl v0 ∧ v0 = none ∧ ypa A' pa A.1 rm [] ∧ yfr A A' [pa] 1 rm ∧ A'.1 = A.1 + 1) := by
  have hlt := xb_get_lt h1
  have f31 := yfr_refl A [pa] 0 0
  refine xr_steps (pc' := 1) (L' := [(0, .ref pa), (1, .int (Int32.ofInt (rm : Int)))]) (st' := [.ref pa]) 1 rfl ?_
  refine xr_objI rfl (by omega) (by decide) ?_
  refine xr_steps (pc' := 6) (L' := [(0, .ref pa), (1, .int (Int32.ofInt (rm : Int)))]) (st' := [.int (Int32.ofInt (rm : Int)), .ref pa]) 2 rfl ?_
  obtain ⟨A32, eA32⟩ : ∃ A0, xb_new A ((rm : Int).toNat) (.inl (.int, (rm : Int).toNat, .inl fun _ => Int32.ofInt 0)) = A0 := ⟨_, rfl⟩
  refine xr_newA rfl (by omega) rfl (xr_heap eA32 ?_)
  have g33 := xr_mv eA32 (xb_get_new_old h1)
  have g34 := xr_mv eA32 xb_get_new_same
  have nA32 : A32.1 = A.1 + 1 := by rw [← eA32]; rfl
  have f35 := yfr_mv eA32 (yfr_step_new f31)
  obtain ⟨A36, eA36⟩ : ∃ A0, xb_set A32 pa (.inr (6, [.ref A.1, .int (Int32.ofInt 0)])) = A0 := ⟨_, rfl⟩
  refine xr_putf (t := .array (.int)) rfl g33 (show 64 ≤ pa by omega) (Nat.le_of_ble_eq_true rfl) rfl (xr_fitR _ rfl) (xr_heap eA36 ?_)
  have g37 := xr_mv eA36 (xb_get_set_same g33)
  have g38 := xr_mv eA36 (xb_get_set_ne g33 g34 (by omega))
  have nA36 : A36.1 = A32.1 := by rw [← eA36]; rfl
  have f39 := yfr_mv eA36 (yfr_step_set f35 g33 (Or.inl (by simp)))
  refine xr_retN rfl rfl ⟨_, rfl, rfl, ⟨fun _ => 0, g37, ?_, fun j hj => absurd hj (Nat.not_lt_zero _), ⟨Nat.zero_le _, hrm⟩, ⟨hz, by omega⟩, fun c hc => absurd hc List.not_mem_nil⟩, ?_, by omega⟩
  · have h := g38
    rw [Int.toNat_natCast] at h
    exact h
  · have h := f39
    rw [Int.toNat_natCast] at h
    exact yfr_mono h (fun z hz => Or.inl hz) (by omega) (by omega)
theorem xsk_rng {pt : Int} {e : Nat → Int} {p q : Nat} {x : Int} (he : ∀ j, 0 ≤ e j ∧ e j ≤ 127) (h : xsk pt e p = some (x, q) ∨ (xsk pt e p = none ∧ x = -3)) : -3 ≤ x ∧ x ≤ 1200 := by
  have := he p
  unfold xsk at h
  rcases h with h | h
  · split at h
    · cases h; omega
    · split at h
      · cases h; omega
      · cases h
  · omega
theorem xsn_rng {pt : Int} {e : Nat → Int} {p q : Nat} {x : Int} (he : ∀ j, 0 ≤ e j ∧ e j ≤ 127) (h : xsn pt e p = some (x, q) ∨ (xsn pt e p = none ∧ x = -3)) : -3 ≤ x ∧ x ≤ 1200 := by
  have h1 := he p
  have h2 := he (p + 1)
  unfold xsn at h
  rcases h with h | h
  · repeat' split at h
    all_goals first | (cases h; omega) | cases h
  · omega
theorem xsk_ge {pt : Int} {e : Nat → Int} {p q : Nat} {x : Int} (he : ∀ j, 0 ≤ e j ∧ e j ≤ 127) (h : xsk pt e p = some (x, q)) : -2 ≤ x ∧ x ≤ 1200 := by
  have := he p
  unfold xsk at h
  split at h
  · cases h; omega
  · split at h
    · cases h; omega
    · cases h
theorem xsn_ge {pt : Int} {e : Nat → Int} {p q : Nat} {x : Int} (he : ∀ j, 0 ≤ e j ∧ e j ≤ 127) (h : xsn pt e p = some (x, q)) : -2 ≤ x ∧ x ≤ 1200 := by
  have h1 := he p
  have h2 := he (p + 1)
  unfold xsn at h
  repeat' split at h
  all_goals first | (cases h; omega) | cases h
theorem mp_66l {w : Value} {d : Nat} {A0 : xb_H} {cu sa v n p0 pa ro rm : Nat} {f : Nat → Int} {pt : Int} {r : Option (List Int × Nat)} (hw : w = .null ∨ w = .ref 19) (hpt : pt = 0 ∨ pt = 1) (hcu : cu < A0.1 ∧ sa < A0.1 ∧ v < A0.1) (hpa : A0.1 ≤ pa ∧ A0.1 ≤ ro) : ∀ (k i p : Nat) (A : xb_H) (l : List Int), i + k = rm → l.length = i → p0 ≤ p → ymv A0 A cu sa v n f p 2 (2 + rm) → ypa A pa ro rm l → r = (match xsp pt (ye n f) k p with
    | none => none
    | some (l', q) => some (l ++ l', q)) → xr_ok (xt_G w) (d + 1 + 1 + 1 + 1 + 1 + 1 + 1 + 1) 66 23 [(4, .int (Int32.ofInt (i : Int))), (1, .int (Int32.ofInt (rm : Int))), (2, .int (Int32.ofInt pt)), (3, .ref pa), (0, .ref cu)] [] A (fun o A' => ∃ v0, o = .inl v0 ∧ yrp A0 A' cu sa v n f p0 rm r v0) := by
  intro k
  induction k with
  | zero =>
    intro i p A l hi hl hp0 hm hp hr
    have hrm := hp.choose_spec.2.2.2.1
    have hlt1 := xb_get_lt hp.choose_spec.1
    have hlt2 := xb_get_lt hp.choose_spec.2.1
    rw [xsp] at hr
    dsimp only at hr
    rw [List.append_nil] at hr
    refine xr_steps (pc' := 26) (L' := [(4, .int (Int32.ofInt (i : Int))), (1, .int (Int32.ofInt (rm : Int))), (2, .int (Int32.ofInt pt)), (3, .ref pa), (0, .ref cu)]) (st' := [.int (Int32.ofInt (rm : Int)), .int (Int32.ofInt (i : Int))]) 2 rfl ?_
    refine xr_icmp_ge rfl (by omega) (by omega) (fun z31 => ?_) (fun z31 => ?_)
    · refine xr_steps (pc' := 93) (L' := [(4, .int (Int32.ofInt (i : Int))), (1, .int (Int32.ofInt (rm : Int))), (2, .int (Int32.ofInt pt)), (3, .ref pa), (0, .ref cu)]) (st' := [.ref pa]) 1 rfl ?_
      exact xr_retR rfl rfl ⟨_, rfl, p, hp0, hm, Or.inl ⟨pa, ro, l, rfl, hp, ⟨⟨hpa.1, hlt1⟩, hpa.2, hlt2⟩, hr⟩⟩
    · exfalso; omega
  | succ k ih =>
    intro i p A l hi hl hp0 hm hp hr
    have hc := hm.1
    have hlt0 := hc.2.2
    have hrm := hp.choose_spec.2.2.2.1
    have hlt1 := xb_get_lt hp.choose_spec.1
    have hlt2 := xb_get_lt hp.choose_spec.2.1
    have m0 := ymv_refl hc 0 0
    rw [xsp] at hr
    refine xr_steps (pc' := 26) (L' := [(4, .int (Int32.ofInt (i : Int))), (1, .int (Int32.ofInt (rm : Int))), (2, .int (Int32.ofInt pt)), (3, .ref pa), (0, .ref cu)]) (st' := [.int (Int32.ofInt (rm : Int)), .int (Int32.ofInt (i : Int))]) 2 rfl ?_
    refine xr_icmp_ge rfl (by omega) (by omega) (fun z31 => ?_) (fun z31 => ?_)
    · exfalso; omega
    · refine xr_steps (pc' := 30) (L' := [(4, .int (Int32.ofInt (i : Int))), (1, .int (Int32.ofInt (rm : Int))), (2, .int (Int32.ofInt pt)), (3, .ref pa), (0, .ref cu)]) (st' := [.ref cu]) 1 rfl ?_
      have hr32 := ye_rng hc p
      refine xr_call (q := (.invokevirtual 32, 3, 68, 1)) (av := [.ref cu]) (rest := []) rfl rfl (by decide) rfl (xr_rcv rfl hc.1) (Nat.le_of_ble_eq_true rfl) (mk_68 hw hc) ?_
      rintro _ _ ⟨rfl, eA⟩
      rw [eA]
      clear eA
      refine xr_steps (pc' := 35) (L' := [(4, .int (Int32.ofInt (i : Int))), (1, .int (Int32.ofInt (rm : Int))), (2, .int (Int32.ofInt pt)), (3, .ref pa), (0, .ref cu)]) (st' := [.int (Int32.ofInt 46), .int (Int32.ofInt (ye n f p))]) 1 rfl ?_
      refine xr_icmp_eq rfl (by omega) (by omega) (fun z33 => ?_) (fun z33 => ?_)
      · refine xr_steps (pc' := 48) (L' := [(4, .int (Int32.ofInt (i : Int))), (1, .int (Int32.ofInt (rm : Int))), (2, .int (Int32.ofInt pt)), (3, .ref pa), (0, .ref cu)]) (st' := [.ref cu]) 1 rfl ?_
        have hr34 := ye_rng hc p
        refine xr_call (q := (.invokevirtual 36, 3, 75, 1)) (av := [.ref cu]) (rest := []) rfl rfl (by decide) rfl (xr_rcv rfl hc.1) (Nat.le_of_ble_eq_true rfl) (mk_75 hw hc) ?_
        rintro _ B34 ⟨rfl, hcase⟩
        rcases hcase with ⟨y34, m34⟩ | ⟨y34, eA⟩
        · have M35 := ymv_trans m0 m34
          refine xr_steps (pc' := 53) (L' := [(4, .int (Int32.ofInt (i : Int))), (1, .int (Int32.ofInt (rm : Int))), (2, .int (Int32.ofInt pt)), (3, .ref pa), (0, .ref cu)]) (st' := [.int (Int32.ofInt 46), .int (Int32.ofInt (ye n f p))]) 1 rfl ?_
          refine xr_icmp_ne rfl (by omega) (by omega) (fun z36 => ?_) (fun z36 => ?_)
          · refine xr_steps (pc' := 66) (L' := [(4, .int (Int32.ofInt (i : Int))), (1, .int (Int32.ofInt (rm : Int))), (2, .int (Int32.ofInt pt)), (3, .ref pa), (0, .ref cu)]) (st' := [.int (Int32.ofInt pt), .ref cu]) 2 rfl ?_
            refine xr_call (q := (.invokestatic 43, 3, 79, 2)) (av := [.ref cu, .int (Int32.ofInt pt)]) (rest := []) rfl rfl (by decide) rfl rfl (Nat.le_of_ble_eq_true rfl) (mp_79 hw M35.1 hpt) ?_
            rintro _ B37 ⟨x, pz, rfl, hpz, m37, hx⟩
            have hxr : -3 ≤ x ∧ x ≤ 1200 := xsn_rng (pt := pt) (e := ye n f) (p := p + 1) (fun j => ye_rng hc j) hx
            have hle := m37.1.2.2
            have M38 := ymv_trans M35 m37
            refine xr_steps (pc' := 75) (L' := [(5, .int (Int32.ofInt x)), (4, .int (Int32.ofInt (i : Int))), (1, .int (Int32.ofInt (rm : Int))), (2, .int (Int32.ofInt pt)), (3, .ref pa), (0, .ref cu)]) (st' := [.int (Int32.ofInt (-3)), .int (Int32.ofInt x)]) 3 rfl ?_
            refine xr_icmp_ne rfl (by omega) (by omega) (fun z39 => ?_) (fun z39 => ?_)
            · refine xr_steps (pc' := 83) (L' := [(5, .int (Int32.ofInt x)), (4, .int (Int32.ofInt (i : Int))), (1, .int (Int32.ofInt (rm : Int))), (2, .int (Int32.ofInt pt)), (3, .ref pa), (0, .ref cu)]) (st' := [.int (Int32.ofInt x), .ref pa]) 2 rfl ?_
              have hp2 := ypa_fr hp M38.2 (by rw [List.mem_singleton]; omega) (by rw [List.mem_singleton]; omega)
              refine xr_call (q := (.invokevirtual 46, 3, 82, 2)) (av := [.ref pa, .int (Int32.ofInt x)]) (rest := []) rfl rfl (by decide) rfl (xr_rcv rfl hp2.choose_spec.1) (Nat.le_of_ble_eq_true rfl) (mp_82 hp2 (by omega) (by omega)) ?_
              rintro _ B40 ⟨rfl, hp3, fr2⟩
              have mm := M38
              have hc2 : ycu B40 cu sa v n f pz := ycu_fr M38.1 fr2 (by simp only [List.mem_cons, List.not_mem_nil, or_false]; omega) (by simp only [List.mem_cons, List.not_mem_nil, or_false]; omega) (by simp only [List.mem_cons, List.not_mem_nil, or_false]; omega)
              have hm2 : ymv A0 B40 cu sa v n f pz 2 (2 + rm) := ⟨hc2, yfr_mono (yfr_trans (yfr_trans hm.2 M38.2 (fun z hz => Or.inl hz)) fr2 (fun z hz => Or.inr (by simp only [List.mem_cons, List.not_mem_nil, or_false] at hz; omega))) (fun z hz => Or.inl hz) (by omega) (by omega)⟩
              refine xr_iinc (L' := [(4, .int (Int32.ofInt ((i : Int) + 1))), (5, .int (Int32.ofInt x)), (1, .int (Int32.ofInt (rm : Int))), (2, .int (Int32.ofInt pt)), (3, .ref pa), (0, .ref cu)]) rfl rfl rfl ?_
              refine xr_steps (pc' := 23) (L' := [(4, .int (Int32.ofInt ((i : Int) + 1))), (5, .int (Int32.ofInt x)), (1, .int (Int32.ofInt (rm : Int))), (2, .int (Int32.ofInt pt)), (3, .ref pa), (0, .ref cu)]) (st' := []) 1 rfl ?_
              refine xr_loc (L := [(4, .int (Int32.ofInt ((i : Int) + 1))), (1, .int (Int32.ofInt (rm : Int))), (2, .int (Int32.ofInt pt)), (3, .ref pa), (0, .ref cu)]) (show [4, 1, 2, 3, 0].Nodup by decide) ⟨rfl, rfl, rfl, rfl, rfl, trivial⟩ ?_
              rcases hx with hx | ⟨hx, hx3⟩
              · rw [show (i : Int) + 1 = ((i + 1 : Nat) : Int) by omega]
                refine ih (i + 1) pz B40 (l ++ [x]) (by omega) (by rw [List.length_append, hl]; rfl) (by omega) hm2 hp3 ?_
                rw [if_neg (by omega), if_pos (by omega)] at hr
                rw [hx] at hr
                dsimp only at hr
                rw [hr]
                cases xsp pt (ye n f) k pz with
                | none => rfl
                | some y =>
                  obtain ⟨l', q'⟩ := y
                  dsimp only
                  rw [List.append_assoc]
                  rfl
              · omega
            · refine xr_steps (pc' := 79) (L' := [(5, .int (Int32.ofInt x)), (4, .int (Int32.ofInt (i : Int))), (1, .int (Int32.ofInt (rm : Int))), (2, .int (Int32.ofInt pt)), (3, .ref pa), (0, .ref cu)]) (st' := [.null]) 1 rfl ?_
              refine xr_retNull rfl rfl ⟨_, rfl, pz, by omega, ymv_mono (ymv_trans hm M38) (by omega) (by omega), Or.inr ⟨rfl, ?_⟩⟩
              rcases hx with hx | ⟨hx, -⟩
              · have := xsn_ge (fun j => ye_rng hc j) hx
                omega
              · rw [if_neg (by omega), if_pos (by omega)] at hr
                rw [hx] at hr
                exact hr
          · refine xr_steps (pc' := 58) (L' := [(4, .int (Int32.ofInt (i : Int))), (1, .int (Int32.ofInt (rm : Int))), (2, .int (Int32.ofInt pt)), (3, .ref pa), (0, .ref cu)]) (st' := [.int (Int32.ofInt pt), .ref cu]) 2 rfl ?_
            refine xr_call (q := (.invokestatic 39, 3, 76, 2)) (av := [.ref cu, .int (Int32.ofInt pt)]) (rest := []) rfl rfl (by decide) rfl rfl (Nat.le_of_ble_eq_true rfl) (mp_76 hw M35.1 hpt) ?_
            rintro _ B41 ⟨x, pz, rfl, hpz, m41, hx⟩
            have hxr : -3 ≤ x ∧ x ≤ 1200 := xsk_rng (pt := pt) (e := ye n f) (p := p + 1) (fun j => ye_rng hc j) hx
            have hle := m41.1.2.2
            have M42 := ymv_trans M35 m41
            refine xr_steps (pc' := 75) (L' := [(5, .int (Int32.ofInt x)), (4, .int (Int32.ofInt (i : Int))), (1, .int (Int32.ofInt (rm : Int))), (2, .int (Int32.ofInt pt)), (3, .ref pa), (0, .ref cu)]) (st' := [.int (Int32.ofInt (-3)), .int (Int32.ofInt x)]) 4 rfl ?_
            refine xr_icmp_ne rfl (by omega) (by omega) (fun z43 => ?_) (fun z43 => ?_)
            · refine xr_steps (pc' := 83) (L' := [(5, .int (Int32.ofInt x)), (4, .int (Int32.ofInt (i : Int))), (1, .int (Int32.ofInt (rm : Int))), (2, .int (Int32.ofInt pt)), (3, .ref pa), (0, .ref cu)]) (st' := [.int (Int32.ofInt x), .ref pa]) 2 rfl ?_
              have hp2 := ypa_fr hp M42.2 (by rw [List.mem_singleton]; omega) (by rw [List.mem_singleton]; omega)
              refine xr_call (q := (.invokevirtual 46, 3, 82, 2)) (av := [.ref pa, .int (Int32.ofInt x)]) (rest := []) rfl rfl (by decide) rfl (xr_rcv rfl hp2.choose_spec.1) (Nat.le_of_ble_eq_true rfl) (mp_82 hp2 (by omega) (by omega)) ?_
              rintro _ B44 ⟨rfl, hp3, fr2⟩
              have mm := M42
              have hc2 : ycu B44 cu sa v n f pz := ycu_fr M42.1 fr2 (by simp only [List.mem_cons, List.not_mem_nil, or_false]; omega) (by simp only [List.mem_cons, List.not_mem_nil, or_false]; omega) (by simp only [List.mem_cons, List.not_mem_nil, or_false]; omega)
              have hm2 : ymv A0 B44 cu sa v n f pz 2 (2 + rm) := ⟨hc2, yfr_mono (yfr_trans (yfr_trans hm.2 M42.2 (fun z hz => Or.inl hz)) fr2 (fun z hz => Or.inr (by simp only [List.mem_cons, List.not_mem_nil, or_false] at hz; omega))) (fun z hz => Or.inl hz) (by omega) (by omega)⟩
              refine xr_iinc (L' := [(4, .int (Int32.ofInt ((i : Int) + 1))), (5, .int (Int32.ofInt x)), (1, .int (Int32.ofInt (rm : Int))), (2, .int (Int32.ofInt pt)), (3, .ref pa), (0, .ref cu)]) rfl rfl rfl ?_
              refine xr_steps (pc' := 23) (L' := [(4, .int (Int32.ofInt ((i : Int) + 1))), (5, .int (Int32.ofInt x)), (1, .int (Int32.ofInt (rm : Int))), (2, .int (Int32.ofInt pt)), (3, .ref pa), (0, .ref cu)]) (st' := []) 1 rfl ?_
              refine xr_loc (L := [(4, .int (Int32.ofInt ((i : Int) + 1))), (1, .int (Int32.ofInt (rm : Int))), (2, .int (Int32.ofInt pt)), (3, .ref pa), (0, .ref cu)]) (show [4, 1, 2, 3, 0].Nodup by decide) ⟨rfl, rfl, rfl, rfl, rfl, trivial⟩ ?_
              rcases hx with hx | ⟨hx, hx3⟩
              · rw [show (i : Int) + 1 = ((i + 1 : Nat) : Int) by omega]
                refine ih (i + 1) pz B44 (l ++ [x]) (by omega) (by rw [List.length_append, hl]; rfl) (by omega) hm2 hp3 ?_
                rw [if_pos (by omega)] at hr
                rw [hx] at hr
                dsimp only at hr
                rw [hr]
                cases xsp pt (ye n f) k pz with
                | none => rfl
                | some y =>
                  obtain ⟨l', q'⟩ := y
                  dsimp only
                  rw [List.append_assoc]
                  rfl
              · omega
            · refine xr_steps (pc' := 79) (L' := [(5, .int (Int32.ofInt x)), (4, .int (Int32.ofInt (i : Int))), (1, .int (Int32.ofInt (rm : Int))), (2, .int (Int32.ofInt pt)), (3, .ref pa), (0, .ref cu)]) (st' := [.null]) 1 rfl ?_
              refine xr_retNull rfl rfl ⟨_, rfl, pz, by omega, ymv_mono (ymv_trans hm M42) (by omega) (by omega), Or.inr ⟨rfl, ?_⟩⟩
              rcases hx with hx | ⟨hx, -⟩
              · have := xsk_ge (fun j => ye_rng hc j) hx
                omega
              · rw [if_pos (by omega)] at hr
                rw [hx] at hr
                exact hr
        · exfalso; omega
      · refine xr_steps (pc' := 39) (L' := [(4, .int (Int32.ofInt (i : Int))), (1, .int (Int32.ofInt (rm : Int))), (2, .int (Int32.ofInt pt)), (3, .ref pa), (0, .ref cu)]) (st' := [.ref cu]) 1 rfl ?_
        have hr45 := ye_rng hc p
        refine xr_call (q := (.invokevirtual 32, 3, 68, 1)) (av := [.ref cu]) (rest := []) rfl rfl (by decide) rfl (xr_rcv rfl hc.1) (Nat.le_of_ble_eq_true rfl) (mk_68 hw hc) ?_
        rintro _ _ ⟨rfl, eA⟩
        rw [eA]
        clear eA
        refine xr_steps (pc' := 44) (L' := [(4, .int (Int32.ofInt (i : Int))), (1, .int (Int32.ofInt (rm : Int))), (2, .int (Int32.ofInt pt)), (3, .ref pa), (0, .ref cu)]) (st' := [.int (Int32.ofInt 91), .int (Int32.ofInt (ye n f p))]) 1 rfl ?_
        refine xr_icmp_ne rfl (by omega) (by omega) (fun z46 => ?_) (fun z46 => ?_)
        · refine xr_steps (pc' := 93) (L' := [(4, .int (Int32.ofInt (i : Int))), (1, .int (Int32.ofInt (rm : Int))), (2, .int (Int32.ofInt pt)), (3, .ref pa), (0, .ref cu)]) (st' := [.ref pa]) 1 rfl ?_
          rw [if_neg (by omega), if_neg (by omega)] at hr
          dsimp only at hr
          rw [List.append_nil] at hr
          exact xr_retR rfl rfl ⟨_, rfl, p, hp0, hm, Or.inl ⟨pa, ro, l, rfl, hp, ⟨⟨hpa.1, hlt1⟩, hpa.2, hlt2⟩, hr⟩⟩
        · refine xr_steps (pc' := 48) (L' := [(4, .int (Int32.ofInt (i : Int))), (1, .int (Int32.ofInt (rm : Int))), (2, .int (Int32.ofInt pt)), (3, .ref pa), (0, .ref cu)]) (st' := [.ref cu]) 1 rfl ?_
          have hr47 := ye_rng hc p
          refine xr_call (q := (.invokevirtual 36, 3, 75, 1)) (av := [.ref cu]) (rest := []) rfl rfl (by decide) rfl (xr_rcv rfl hc.1) (Nat.le_of_ble_eq_true rfl) (mk_75 hw hc) ?_
          rintro _ B47 ⟨rfl, hcase⟩
          rcases hcase with ⟨y47, m47⟩ | ⟨y47, eA⟩
          · have M48 := ymv_trans m0 m47
            refine xr_steps (pc' := 53) (L' := [(4, .int (Int32.ofInt (i : Int))), (1, .int (Int32.ofInt (rm : Int))), (2, .int (Int32.ofInt pt)), (3, .ref pa), (0, .ref cu)]) (st' := [.int (Int32.ofInt 46), .int (Int32.ofInt (ye n f p))]) 1 rfl ?_
            refine xr_icmp_ne rfl (by omega) (by omega) (fun z49 => ?_) (fun z49 => ?_)
            · refine xr_steps (pc' := 66) (L' := [(4, .int (Int32.ofInt (i : Int))), (1, .int (Int32.ofInt (rm : Int))), (2, .int (Int32.ofInt pt)), (3, .ref pa), (0, .ref cu)]) (st' := [.int (Int32.ofInt pt), .ref cu]) 2 rfl ?_
              refine xr_call (q := (.invokestatic 43, 3, 79, 2)) (av := [.ref cu, .int (Int32.ofInt pt)]) (rest := []) rfl rfl (by decide) rfl rfl (Nat.le_of_ble_eq_true rfl) (mp_79 hw M48.1 hpt) ?_
              rintro _ B50 ⟨x, pz, rfl, hpz, m50, hx⟩
              have hxr : -3 ≤ x ∧ x ≤ 1200 := xsn_rng (pt := pt) (e := ye n f) (p := p + 1) (fun j => ye_rng hc j) hx
              have hle := m50.1.2.2
              have M51 := ymv_trans M48 m50
              refine xr_steps (pc' := 75) (L' := [(5, .int (Int32.ofInt x)), (4, .int (Int32.ofInt (i : Int))), (1, .int (Int32.ofInt (rm : Int))), (2, .int (Int32.ofInt pt)), (3, .ref pa), (0, .ref cu)]) (st' := [.int (Int32.ofInt (-3)), .int (Int32.ofInt x)]) 3 rfl ?_
              refine xr_icmp_ne rfl (by omega) (by omega) (fun z52 => ?_) (fun z52 => ?_)
              · refine xr_steps (pc' := 83) (L' := [(5, .int (Int32.ofInt x)), (4, .int (Int32.ofInt (i : Int))), (1, .int (Int32.ofInt (rm : Int))), (2, .int (Int32.ofInt pt)), (3, .ref pa), (0, .ref cu)]) (st' := [.int (Int32.ofInt x), .ref pa]) 2 rfl ?_
                have hp2 := ypa_fr hp M51.2 (by rw [List.mem_singleton]; omega) (by rw [List.mem_singleton]; omega)
                refine xr_call (q := (.invokevirtual 46, 3, 82, 2)) (av := [.ref pa, .int (Int32.ofInt x)]) (rest := []) rfl rfl (by decide) rfl (xr_rcv rfl hp2.choose_spec.1) (Nat.le_of_ble_eq_true rfl) (mp_82 hp2 (by omega) (by omega)) ?_
                rintro _ B53 ⟨rfl, hp3, fr2⟩
                have mm := M51
                have hc2 : ycu B53 cu sa v n f pz := ycu_fr M51.1 fr2 (by simp only [List.mem_cons, List.not_mem_nil, or_false]; omega) (by simp only [List.mem_cons, List.not_mem_nil, or_false]; omega) (by simp only [List.mem_cons, List.not_mem_nil, or_false]; omega)
                have hm2 : ymv A0 B53 cu sa v n f pz 2 (2 + rm) := ⟨hc2, yfr_mono (yfr_trans (yfr_trans hm.2 M51.2 (fun z hz => Or.inl hz)) fr2 (fun z hz => Or.inr (by simp only [List.mem_cons, List.not_mem_nil, or_false] at hz; omega))) (fun z hz => Or.inl hz) (by omega) (by omega)⟩
                refine xr_iinc (L' := [(4, .int (Int32.ofInt ((i : Int) + 1))), (5, .int (Int32.ofInt x)), (1, .int (Int32.ofInt (rm : Int))), (2, .int (Int32.ofInt pt)), (3, .ref pa), (0, .ref cu)]) rfl rfl rfl ?_
                refine xr_steps (pc' := 23) (L' := [(4, .int (Int32.ofInt ((i : Int) + 1))), (5, .int (Int32.ofInt x)), (1, .int (Int32.ofInt (rm : Int))), (2, .int (Int32.ofInt pt)), (3, .ref pa), (0, .ref cu)]) (st' := []) 1 rfl ?_
                refine xr_loc (L := [(4, .int (Int32.ofInt ((i : Int) + 1))), (1, .int (Int32.ofInt (rm : Int))), (2, .int (Int32.ofInt pt)), (3, .ref pa), (0, .ref cu)]) (show [4, 1, 2, 3, 0].Nodup by decide) ⟨rfl, rfl, rfl, rfl, rfl, trivial⟩ ?_
                rcases hx with hx | ⟨hx, hx3⟩
                · rw [show (i : Int) + 1 = ((i + 1 : Nat) : Int) by omega]
                  refine ih (i + 1) pz B53 (l ++ [x]) (by omega) (by rw [List.length_append, hl]; rfl) (by omega) hm2 hp3 ?_
                  rw [if_neg (by omega), if_pos (by omega)] at hr
                  rw [hx] at hr
                  dsimp only at hr
                  rw [hr]
                  cases xsp pt (ye n f) k pz with
                  | none => rfl
                  | some y =>
                    obtain ⟨l', q'⟩ := y
                    dsimp only
                    rw [List.append_assoc]
                    rfl
                · omega
              · refine xr_steps (pc' := 79) (L' := [(5, .int (Int32.ofInt x)), (4, .int (Int32.ofInt (i : Int))), (1, .int (Int32.ofInt (rm : Int))), (2, .int (Int32.ofInt pt)), (3, .ref pa), (0, .ref cu)]) (st' := [.null]) 1 rfl ?_
                refine xr_retNull rfl rfl ⟨_, rfl, pz, by omega, ymv_mono (ymv_trans hm M51) (by omega) (by omega), Or.inr ⟨rfl, ?_⟩⟩
                rcases hx with hx | ⟨hx, -⟩
                · have := xsn_ge (fun j => ye_rng hc j) hx
                  omega
                · rw [if_neg (by omega), if_pos (by omega)] at hr
                  rw [hx] at hr
                  exact hr
            · refine xr_steps (pc' := 58) (L' := [(4, .int (Int32.ofInt (i : Int))), (1, .int (Int32.ofInt (rm : Int))), (2, .int (Int32.ofInt pt)), (3, .ref pa), (0, .ref cu)]) (st' := [.int (Int32.ofInt pt), .ref cu]) 2 rfl ?_
              refine xr_call (q := (.invokestatic 39, 3, 76, 2)) (av := [.ref cu, .int (Int32.ofInt pt)]) (rest := []) rfl rfl (by decide) rfl rfl (Nat.le_of_ble_eq_true rfl) (mp_76 hw M48.1 hpt) ?_
              rintro _ B54 ⟨x, pz, rfl, hpz, m54, hx⟩
              have hxr : -3 ≤ x ∧ x ≤ 1200 := xsk_rng (pt := pt) (e := ye n f) (p := p + 1) (fun j => ye_rng hc j) hx
              have hle := m54.1.2.2
              have M55 := ymv_trans M48 m54
              refine xr_steps (pc' := 75) (L' := [(5, .int (Int32.ofInt x)), (4, .int (Int32.ofInt (i : Int))), (1, .int (Int32.ofInt (rm : Int))), (2, .int (Int32.ofInt pt)), (3, .ref pa), (0, .ref cu)]) (st' := [.int (Int32.ofInt (-3)), .int (Int32.ofInt x)]) 4 rfl ?_
              refine xr_icmp_ne rfl (by omega) (by omega) (fun z56 => ?_) (fun z56 => ?_)
              · refine xr_steps (pc' := 83) (L' := [(5, .int (Int32.ofInt x)), (4, .int (Int32.ofInt (i : Int))), (1, .int (Int32.ofInt (rm : Int))), (2, .int (Int32.ofInt pt)), (3, .ref pa), (0, .ref cu)]) (st' := [.int (Int32.ofInt x), .ref pa]) 2 rfl ?_
                have hp2 := ypa_fr hp M55.2 (by rw [List.mem_singleton]; omega) (by rw [List.mem_singleton]; omega)
                refine xr_call (q := (.invokevirtual 46, 3, 82, 2)) (av := [.ref pa, .int (Int32.ofInt x)]) (rest := []) rfl rfl (by decide) rfl (xr_rcv rfl hp2.choose_spec.1) (Nat.le_of_ble_eq_true rfl) (mp_82 hp2 (by omega) (by omega)) ?_
                rintro _ B57 ⟨rfl, hp3, fr2⟩
                have mm := M55
                have hc2 : ycu B57 cu sa v n f pz := ycu_fr M55.1 fr2 (by simp only [List.mem_cons, List.not_mem_nil, or_false]; omega) (by simp only [List.mem_cons, List.not_mem_nil, or_false]; omega) (by simp only [List.mem_cons, List.not_mem_nil, or_false]; omega)
                have hm2 : ymv A0 B57 cu sa v n f pz 2 (2 + rm) := ⟨hc2, yfr_mono (yfr_trans (yfr_trans hm.2 M55.2 (fun z hz => Or.inl hz)) fr2 (fun z hz => Or.inr (by simp only [List.mem_cons, List.not_mem_nil, or_false] at hz; omega))) (fun z hz => Or.inl hz) (by omega) (by omega)⟩
                refine xr_iinc (L' := [(4, .int (Int32.ofInt ((i : Int) + 1))), (5, .int (Int32.ofInt x)), (1, .int (Int32.ofInt (rm : Int))), (2, .int (Int32.ofInt pt)), (3, .ref pa), (0, .ref cu)]) rfl rfl rfl ?_
                refine xr_steps (pc' := 23) (L' := [(4, .int (Int32.ofInt ((i : Int) + 1))), (5, .int (Int32.ofInt x)), (1, .int (Int32.ofInt (rm : Int))), (2, .int (Int32.ofInt pt)), (3, .ref pa), (0, .ref cu)]) (st' := []) 1 rfl ?_
                refine xr_loc (L := [(4, .int (Int32.ofInt ((i : Int) + 1))), (1, .int (Int32.ofInt (rm : Int))), (2, .int (Int32.ofInt pt)), (3, .ref pa), (0, .ref cu)]) (show [4, 1, 2, 3, 0].Nodup by decide) ⟨rfl, rfl, rfl, rfl, rfl, trivial⟩ ?_
                rcases hx with hx | ⟨hx, hx3⟩
                · rw [show (i : Int) + 1 = ((i + 1 : Nat) : Int) by omega]
                  refine ih (i + 1) pz B57 (l ++ [x]) (by omega) (by rw [List.length_append, hl]; rfl) (by omega) hm2 hp3 ?_
                  rw [if_pos (by omega)] at hr
                  rw [hx] at hr
                  dsimp only at hr
                  rw [hr]
                  cases xsp pt (ye n f) k pz with
                  | none => rfl
                  | some y =>
                    obtain ⟨l', q'⟩ := y
                    dsimp only
                    rw [List.append_assoc]
                    rfl
                · omega
              · refine xr_steps (pc' := 79) (L' := [(5, .int (Int32.ofInt x)), (4, .int (Int32.ofInt (i : Int))), (1, .int (Int32.ofInt (rm : Int))), (2, .int (Int32.ofInt pt)), (3, .ref pa), (0, .ref cu)]) (st' := [.null]) 1 rfl ?_
                refine xr_retNull rfl rfl ⟨_, rfl, pz, by omega, ymv_mono (ymv_trans hm M55) (by omega) (by omega), Or.inr ⟨rfl, ?_⟩⟩
                rcases hx with hx | ⟨hx, -⟩
                · have := xsk_ge (fun j => ye_rng hc j) hx
                  omega
                · rw [if_pos (by omega)] at hr
                  rw [hx] at hr
                  exact hr
          · exfalso; omega
theorem mp_66 {w : Value} {d : Nat} {A : xb_H} {cu sa v n p : Nat} {f : Nat → Int} {rm : Nat} {pt : Int} (hw : w = .null ∨ w = .ref 19) (hc : ycu A cu sa v n f p) (hpt : pt = 0 ∨ pt = 1) (hrm : rm ≤ 50) : xr_ok (xt_G w) (d + 1 + 1 + 1 + 1 + 1 + 1 + 1 + 1) 66 0 [(0, .ref cu), (1, .int (Int32.ofInt (rm : Int))), (2, .int (Int32.ofInt pt))] [] A (fun o A' => ∃ v0, o = .inl v0 ∧ yrp A A' cu sa v n f p rm (if ye n f p = 36 then xsp pt (ye n f) rm (p + 1) else none) v0) := by
  have m0 := ymv_refl hc 0 0
  have hlt0 := hc.2.2
  refine xr_steps (pc' := 3) (L' := [(0, .ref cu), (1, .int (Int32.ofInt (rm : Int))), (2, .int (Int32.ofInt pt))]) (st' := [.int (Int32.ofInt 36), .ref cu]) 2 rfl ?_
  obtain ⟨b31, hb31⟩ := mo_bool (ye n f p = 36)
  refine xr_call (q := (.invokevirtual 25, 3, 67, 2)) (av := [.ref cu, .int (Int32.ofInt 36)]) (rest := []) rfl rfl (by decide) rfl (xr_rcv rfl hc.1) (Nat.le_of_ble_eq_true rfl) (mk_acc hw hc (by omega) hb31) ?_
  rintro _ B31 ⟨rfl, hcase⟩
  rcases hcase with ⟨rfl, y31, m31⟩ | ⟨rfl, y31, eA⟩
  · have M32 := ymv_trans m0 m31
    refine xr_if_ne rfl (by omega) (fun z33 => ?_) (fun z33 => ?_)
    · obtain ⟨A34, eA34⟩ : ∃ A0, xb_new B31 2 (.inr (6, [.null, .int (Int32.ofInt 0)])) = A0 := ⟨_, rfl⟩
      refine xr_newO rfl (xr_heap eA34 ?_)
      have g35 := xr_mv eA34 xb_get_new_same
      have nA34 : A34.1 = B31.1 + 1 := by rw [← eA34]; rfl
      refine xr_steps (pc' := 16) (L' := [(0, .ref cu), (1, .int (Int32.ofInt (rm : Int))), (2, .int (Int32.ofInt pt))]) (st' := [.int (Int32.ofInt (rm : Int)), .ref B31.1, .ref B31.1]) 2 rfl ?_
      have hB := M32.2.1.1
      have hcl := ycu_lt hc
      refine xr_call (q := (.invokespecial 29, 3, 9, 2)) (av := [.ref B31.1, .int (Int32.ofInt (rm : Int))]) (rest := [.ref B31.1]) rfl rfl (by decide) rfl (xr_rcv rfl g35) (Nat.le_of_ble_eq_true rfl) (mp_9 g35 (by omega) hrm) ?_
      rintro _ A9 ⟨rfl, hp9, fr9, n9⟩
      refine xr_steps (pc' := 23) (L' := [(4, .int (Int32.ofInt 0)), (3, .ref B31.1), (0, .ref cu), (1, .int (Int32.ofInt (rm : Int))), (2, .int (Int32.ofInt pt))]) (st' := []) 3 rfl ?_
      refine xr_loc (L := [(4, .int (Int32.ofInt 0)), (1, .int (Int32.ofInt (rm : Int))), (2, .int (Int32.ofInt pt)), (3, .ref B31.1), (0, .ref cu)]) (show [4, 1, 2, 3, 0].Nodup by decide) ⟨rfl, rfl, rfl, rfl, rfl, trivial⟩ ?_
      have hcc := M32.1
      have fr8 : yfr B31 A9 [] 2 (2 + rm) := yfr_mono (yfr_trans (yfr_mv eA34 (yfr_step_new (yfr_refl B31 [] 0 0))) fr9 (fun z hz => Or.inr (by rw [List.mem_singleton] at hz; omega))) (fun z hz => Or.inl hz) (by omega) (by omega)
      have hc9 : ycu A9 cu sa v n f (p + 1) := ycu_fr hcc fr8 List.not_mem_nil List.not_mem_nil List.not_mem_nil
      have hm9 : ymv A A9 cu sa v n f (p + 1) 2 (2 + rm) := ⟨hc9, yfr_mono (yfr_trans M32.2 fr8 (fun z hz => absurd hz List.not_mem_nil)) (fun z hz => Or.inl hz) (by omega) (by omega)⟩
      refine mp_66l hw hpt (ycu_lt hc) ⟨by omega, by omega⟩ rm 0 (p + 1) A9 [] (by omega) rfl (by omega) hm9 hp9 ?_
      rw [if_pos (by assumption)]
      cases xsp pt (ye n f) rm (p + 1) <;> rfl
    · exfalso; omega
  · rw [eA]
    clear eA
    refine xr_if_ne rfl (by omega) (fun z37 => ?_) (fun z37 => ?_)
    · exfalso; omega
    · refine xr_steps (pc' := 10) (L' := [(0, .ref cu), (1, .int (Int32.ofInt (rm : Int))), (2, .int (Int32.ofInt pt))]) (st' := [.null]) 1 rfl ?_
      exact xr_retNull rfl rfl ⟨_, rfl, p, Nat.le_refl _, ymv_refl hc _ _, Or.inr ⟨rfl, if_neg (by assumption)⟩⟩
