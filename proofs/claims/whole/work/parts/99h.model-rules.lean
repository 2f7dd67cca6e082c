/-! The reference reads rules -/
/-- what stepEnd says of the step at i -/
def xSE (e : Nat → Int) (i : Nat) (r : Int) : Prop := (e i = 46 ∧ (∃ s, xsk 1 e (i + 1) = some (s, i + 2)) ∧ r = 400 + (i : Int) + 2) ∨ (e i = 91 ∧ (∃ s, xsn 1 e (i + 1) = some (s, i + 3)) ∧ r = 400 + (i : Int) + 3) ∨ ((e i = 46 → xsk 1 e (i + 1) = none) ∧ (e i = 91 → xsn 1 e (i + 1) = none) ∧ r = -1)
section SE
variable {e : Nat → Int} {i : Nat} {r : Int}
theorem xse_key (h : e i = 46) (h1 : (97 ≤ e (i + 1) ∧ e (i + 1) ≤ 122) ∨ e (i + 1) = 42) (hr : r = 400 + (i : Int) + 2) : xSE e i r := by
  refine Or.inl ⟨h, ?_, hr⟩
  unfold xsk
  by_cases h2 : e (i + 1) = 42
  · exact ⟨_, if_pos ⟨rfl, h2⟩⟩
  · exact ⟨_, by rw [if_neg (fun h => h2 h.2), if_pos (by omega)]⟩
theorem xse_num (h : e i = 91) (h1 : (48 ≤ e (i + 1) ∧ e (i + 1) ≤ 57) ∨ e (i + 1) = 42) (h2 : e (i + 2) = 93) (hr : r = 400 + (i : Int) + 3) : xSE e i r := by
  refine Or.inr (Or.inl ⟨h, ?_, hr⟩)
  unfold xsn
  by_cases h3 : e (i + 1) = 42
  · exact ⟨_, by rw [if_pos ⟨rfl, h3⟩, if_pos h2]⟩
  · exact ⟨_, by rw [if_neg (fun h => h3 h.2), if_pos (by omega), if_neg (fun h => h.1 rfl), if_pos h2]⟩
theorem xse_no (h1 : e i = 46 → ¬ ((97 ≤ e (i + 1) ∧ e (i + 1) ≤ 122) ∨ e (i + 1) = 42)) (h2 : e i = 91 → ¬ (((48 ≤ e (i + 1) ∧ e (i + 1) ≤ 57) ∨ e (i + 1) = 42) ∧ e (i + 2) = 93)) (hr : r = -1) : xSE e i r := by
  refine Or.inr (Or.inr ⟨fun h => ?_, fun h => ?_, hr⟩)
  · have := h1 h
    unfold xsk
    rw [if_neg (by omega), if_neg (by omega)]
  · have := h2 h
    unfold xsn
    by_cases h3 : e (i + 1) = 42
    · rw [if_pos ⟨rfl, h3⟩, if_neg (show ¬ e (i + 1 + 1) = 93 by rw [show i + 1 + 1 = i + 2 by omega]; omega)]
    · rw [if_neg (fun h => h3 h.2)]
      by_cases h4 : 48 ≤ e (i + 1) ∧ e (i + 1) ≤ 57
      · rw [if_pos h4, if_neg (fun h => h.1 rfl), if_neg (show ¬ e (i + 1 + 1) = 93 by rw [show i + 1 + 1 = i + 2 by omega]; omega)]
      · rw [if_neg h4]
end SE
theorem mo_229 {w : Value} {d : Nat} {A : xb_H} {s : Nat → Int} {t : Nat → Nat → Int} {i n : Nat} {f : Nat → Int} (hA : 194 ≤ A.1) (hx : xtx s t n f) (hi : i ≤ 200) : xr_ok (xt_G w) (d + 1) 229 0 [(0, .ref 165), (1, .int (Int32.ofInt (400 + (i : Int))))] [] (ym A s t) (fun o A' => ∃ v0, o = .inl v0 ∧ ∃ r : Int, (v0 = some (.int (Int32.ofInt r)) ∧ A' = ym A s t) ∧ xSE (ye n f) i r) := by
  refine xr_steps (pc' := 2) (L' := [(0, .ref 165), (1, .int (Int32.ofInt (400 + (i : Int))))]) (st' := [.int (Int32.ofInt (400 + (i : Int))), .ref 165]) 2 rfl ?_
  refine xr_call (q := (.invokevirtual 103, 3, 209, 2)) (av := [.ref 165, .int (Int32.ofInt (400 + (i : Int)))]) (rest := []) rfl rfl (by decide) rfl (ym_rcv hA rfl) (Nat.le_of_ble_eq_true rfl) (mo_209t (i := i) hA hx (by omega) (by omega)) ?_
  rintro _ _ ⟨rfl, eA⟩
  rw [eA]
  clear eA
  have hx31 := xtx_ye hx i
  refine xr_steps (pc' := 7) (L' := [(0, .ref 165), (1, .int (Int32.ofInt (400 + (i : Int))))]) (st' := [.int (Int32.ofInt 46), .int (Int32.ofInt (xat n f i))]) 1 rfl ?_
  refine xr_icmp_ne rfl (by omega) (by omega) (fun z32 => ?_) (fun z32 => ?_)
  · refine xr_steps (pc' := 45) (L' := [(0, .ref 165), (1, .int (Int32.ofInt (400 + (i : Int))))]) (st' := [.int (Int32.ofInt (400 + (i : Int))), .ref 165]) 2 rfl ?_
    refine xr_call (q := (.invokevirtual 103, 3, 209, 2)) (av := [.ref 165, .int (Int32.ofInt (400 + (i : Int)))]) (rest := []) rfl rfl (by decide) rfl (ym_rcv hA rfl) (Nat.le_of_ble_eq_true rfl) (mo_209t (i := i) hA hx (by omega) (by omega)) ?_
    rintro _ _ ⟨rfl, eA⟩
    rw [eA]
    clear eA
    have hx33 := xtx_ye hx i
    refine xr_steps (pc' := 50) (L' := [(0, .ref 165), (1, .int (Int32.ofInt (400 + (i : Int))))]) (st' := [.int (Int32.ofInt 91), .int (Int32.ofInt (xat n f i))]) 1 rfl ?_
    refine xr_icmp_ne rfl (by omega) (by omega) (fun z34 => ?_) (fun z34 => ?_)
    · refine xr_steps (pc' := 97) (L' := [(0, .ref 165), (1, .int (Int32.ofInt (400 + (i : Int))))]) (st' := [.int (Int32.ofInt (-1))]) 1 rfl ?_
      refine xr_retI2 rfl rfl ⟨_, rfl, _, ⟨rfl, rfl⟩, ?_⟩
      exact xse_no (by omega) (by omega) rfl
    · refine xr_steps (pc' := 56) (L' := [(0, .ref 165), (1, .int (Int32.ofInt (400 + (i : Int))))]) (st' := [.int (Int32.ofInt 1), .int (Int32.ofInt (400 + (i : Int))), .ref 165]) 3 rfl ?_
      refine xr_iadd rfl ?_
      refine xr_call (q := (.invokevirtual 103, 3, 209, 2)) (av := [.ref 165, .int (Int32.ofInt ((400 + (i : Int)) + 1))]) (rest := []) rfl rfl (by decide) rfl (ym_rcv hA rfl) (Nat.le_of_ble_eq_true rfl) (mo_209t (i := i + 1) hA hx (by omega) (by omega)) ?_
      rintro _ _ ⟨rfl, eA⟩
      rw [eA]
      clear eA
      have hx35 := xtx_ye hx (i + 1)
      obtain ⟨b36, hb36⟩ := mo_bool (48 ≤ (xat n f (i + 1)) ∧ (xat n f (i + 1)) ≤ 57)
      refine xr_call (q := (.invokestatic 115, 3, 213, 1)) (av := [.int (Int32.ofInt (xat n f (i + 1)))]) (rest := []) rfl rfl (by decide) rfl rfl (Nat.le_of_ble_eq_true rfl) (mo_213 (by omega) hb36) ?_
      rintro _ _ ⟨rfl, eA⟩
      rw [eA]
      clear eA
      refine xr_if_ne rfl (by omega) (fun z37 => ?_) (fun z37 => ?_)
      · refine xr_steps (pc' := 81) (L' := [(0, .ref 165), (1, .int (Int32.ofInt (400 + (i : Int))))]) (st' := [.int (Int32.ofInt 2), .int (Int32.ofInt (400 + (i : Int))), .ref 165]) 3 rfl ?_
        refine xr_iadd rfl ?_
        refine xr_call (q := (.invokevirtual 103, 3, 209, 2)) (av := [.ref 165, .int (Int32.ofInt ((400 + (i : Int)) + 2))]) (rest := []) rfl rfl (by decide) rfl (ym_rcv hA rfl) (Nat.le_of_ble_eq_true rfl) (mo_209t (i := i + 2) hA hx (by omega) (by omega)) ?_
        rintro _ _ ⟨rfl, eA⟩
        rw [eA]
        clear eA
        have hx38 := xtx_ye hx (i + 2)
        refine xr_steps (pc' := 87) (L' := [(0, .ref 165), (1, .int (Int32.ofInt (400 + (i : Int))))]) (st' := [.int (Int32.ofInt 93), .int (Int32.ofInt (xat n f (i + 2)))]) 1 rfl ?_
        refine xr_icmp_ne rfl (by omega) (by omega) (fun z39 => ?_) (fun z39 => ?_)
        · refine xr_steps (pc' := 97) (L' := [(0, .ref 165), (1, .int (Int32.ofInt (400 + (i : Int))))]) (st' := [.int (Int32.ofInt (-1))]) 1 rfl ?_
          refine xr_retI2 rfl rfl ⟨_, rfl, _, ⟨rfl, rfl⟩, ?_⟩
          exact xse_no (by omega) (by omega) rfl
        · refine xr_steps (pc' := 92) (L' := [(0, .ref 165), (1, .int (Int32.ofInt (400 + (i : Int))))]) (st' := [.int (Int32.ofInt 3), .int (Int32.ofInt (400 + (i : Int)))]) 2 rfl ?_
          refine xr_iadd rfl ?_
          refine xr_steps (pc' := 97) (L' := [(0, .ref 165), (1, .int (Int32.ofInt (400 + (i : Int))))]) (st' := [.int (Int32.ofInt ((400 + (i : Int)) + 3))]) 1 rfl ?_
          refine xr_retI2 rfl rfl ⟨_, rfl, _, ⟨rfl, rfl⟩, ?_⟩
          exact xse_num (by omega) (by omega) (by omega) (by omega)
      · refine xr_steps (pc' := 69) (L' := [(0, .ref 165), (1, .int (Int32.ofInt (400 + (i : Int))))]) (st' := [.int (Int32.ofInt 1), .int (Int32.ofInt (400 + (i : Int))), .ref 165]) 3 rfl ?_
        refine xr_iadd rfl ?_
        refine xr_call (q := (.invokevirtual 103, 3, 209, 2)) (av := [.ref 165, .int (Int32.ofInt ((400 + (i : Int)) + 1))]) (rest := []) rfl rfl (by decide) rfl (ym_rcv hA rfl) (Nat.le_of_ble_eq_true rfl) (mo_209t (i := i + 1) hA hx (by omega) (by omega)) ?_
        rintro _ _ ⟨rfl, eA⟩
        rw [eA]
        clear eA
        have hx40 := xtx_ye hx (i + 1)
        refine xr_steps (pc' := 75) (L' := [(0, .ref 165), (1, .int (Int32.ofInt (400 + (i : Int))))]) (st' := [.int (Int32.ofInt 42), .int (Int32.ofInt (xat n f (i + 1)))]) 1 rfl ?_
        refine xr_icmp_ne rfl (by omega) (by omega) (fun z41 => ?_) (fun z41 => ?_)
        · refine xr_steps (pc' := 97) (L' := [(0, .ref 165), (1, .int (Int32.ofInt (400 + (i : Int))))]) (st' := [.int (Int32.ofInt (-1))]) 1 rfl ?_
          refine xr_retI2 rfl rfl ⟨_, rfl, _, ⟨rfl, rfl⟩, ?_⟩
          exact xse_no (by omega) (by omega) rfl
        · refine xr_steps (pc' := 81) (L' := [(0, .ref 165), (1, .int (Int32.ofInt (400 + (i : Int))))]) (st' := [.int (Int32.ofInt 2), .int (Int32.ofInt (400 + (i : Int))), .ref 165]) 3 rfl ?_
          refine xr_iadd rfl ?_
          refine xr_call (q := (.invokevirtual 103, 3, 209, 2)) (av := [.ref 165, .int (Int32.ofInt ((400 + (i : Int)) + 2))]) (rest := []) rfl rfl (by decide) rfl (ym_rcv hA rfl) (Nat.le_of_ble_eq_true rfl) (mo_209t (i := i + 2) hA hx (by omega) (by omega)) ?_
          rintro _ _ ⟨rfl, eA⟩
          rw [eA]
          clear eA
          have hx42 := xtx_ye hx (i + 2)
          refine xr_steps (pc' := 87) (L' := [(0, .ref 165), (1, .int (Int32.ofInt (400 + (i : Int))))]) (st' := [.int (Int32.ofInt 93), .int (Int32.ofInt (xat n f (i + 2)))]) 1 rfl ?_
          refine xr_icmp_ne rfl (by omega) (by omega) (fun z43 => ?_) (fun z43 => ?_)
          · refine xr_steps (pc' := 97) (L' := [(0, .ref 165), (1, .int (Int32.ofInt (400 + (i : Int))))]) (st' := [.int (Int32.ofInt (-1))]) 1 rfl ?_
            refine xr_retI2 rfl rfl ⟨_, rfl, _, ⟨rfl, rfl⟩, ?_⟩
            exact xse_no (by omega) (by omega) rfl
          · refine xr_steps (pc' := 92) (L' := [(0, .ref 165), (1, .int (Int32.ofInt (400 + (i : Int))))]) (st' := [.int (Int32.ofInt 3), .int (Int32.ofInt (400 + (i : Int)))]) 2 rfl ?_
            refine xr_iadd rfl ?_
            refine xr_steps (pc' := 97) (L' := [(0, .ref 165), (1, .int (Int32.ofInt (400 + (i : Int))))]) (st' := [.int (Int32.ofInt ((400 + (i : Int)) + 3))]) 1 rfl ?_
            refine xr_retI2 rfl rfl ⟨_, rfl, _, ⟨rfl, rfl⟩, ?_⟩
            exact xse_num (by omega) (by omega) (by omega) (by omega)
  · refine xr_steps (pc' := 13) (L' := [(0, .ref 165), (1, .int (Int32.ofInt (400 + (i : Int))))]) (st' := [.int (Int32.ofInt 1), .int (Int32.ofInt (400 + (i : Int))), .ref 165]) 3 rfl ?_
    refine xr_iadd rfl ?_
    refine xr_call (q := (.invokevirtual 103, 3, 209, 2)) (av := [.ref 165, .int (Int32.ofInt ((400 + (i : Int)) + 1))]) (rest := []) rfl rfl (by decide) rfl (ym_rcv hA rfl) (Nat.le_of_ble_eq_true rfl) (mo_209t (i := i + 1) hA hx (by omega) (by omega)) ?_
    rintro _ _ ⟨rfl, eA⟩
    rw [eA]
    clear eA
    have hx44 := xtx_ye hx (i + 1)
    obtain ⟨b45, hb45⟩ := mo_bool (97 ≤ (xat n f (i + 1)) ∧ (xat n f (i + 1)) ≤ 122)
    refine xr_call (q := (.invokestatic 111, 3, 210, 1)) (av := [.int (Int32.ofInt (xat n f (i + 1)))]) (rest := []) rfl rfl (by decide) rfl rfl (Nat.le_of_ble_eq_true rfl) (mo_210 (by omega) hb45) ?_
    rintro _ _ ⟨rfl, eA⟩
    rw [eA]
    clear eA
    refine xr_if_ne rfl (by omega) (fun z46 => ?_) (fun z46 => ?_)
    · refine xr_steps (pc' := 37) (L' := [(0, .ref 165), (1, .int (Int32.ofInt (400 + (i : Int))))]) (st' := [.int (Int32.ofInt 2), .int (Int32.ofInt (400 + (i : Int)))]) 2 rfl ?_
      refine xr_iadd rfl ?_
      refine xr_steps (pc' := 42) (L' := [(0, .ref 165), (1, .int (Int32.ofInt (400 + (i : Int))))]) (st' := [.int (Int32.ofInt ((400 + (i : Int)) + 2))]) 1 rfl ?_
      refine xr_retI2 rfl rfl ⟨_, rfl, _, ⟨rfl, rfl⟩, ?_⟩
      exact xse_key (by omega) (by omega) (by omega)
    · refine xr_steps (pc' := 26) (L' := [(0, .ref 165), (1, .int (Int32.ofInt (400 + (i : Int))))]) (st' := [.int (Int32.ofInt 1), .int (Int32.ofInt (400 + (i : Int))), .ref 165]) 3 rfl ?_
      refine xr_iadd rfl ?_
      refine xr_call (q := (.invokevirtual 103, 3, 209, 2)) (av := [.ref 165, .int (Int32.ofInt ((400 + (i : Int)) + 1))]) (rest := []) rfl rfl (by decide) rfl (ym_rcv hA rfl) (Nat.le_of_ble_eq_true rfl) (mo_209t (i := i + 1) hA hx (by omega) (by omega)) ?_
      rintro _ _ ⟨rfl, eA⟩
      rw [eA]
      clear eA
      have hx47 := xtx_ye hx (i + 1)
      refine xr_steps (pc' := 32) (L' := [(0, .ref 165), (1, .int (Int32.ofInt (400 + (i : Int))))]) (st' := [.int (Int32.ofInt 42), .int (Int32.ofInt (xat n f (i + 1)))]) 1 rfl ?_
      refine xr_icmp_ne rfl (by omega) (by omega) (fun z48 => ?_) (fun z48 => ?_)
      · refine xr_steps (pc' := 42) (L' := [(0, .ref 165), (1, .int (Int32.ofInt (400 + (i : Int))))]) (st' := [.int (Int32.ofInt (-1))]) 1 rfl ?_
        refine xr_retI2 rfl rfl ⟨_, rfl, _, ⟨rfl, rfl⟩, ?_⟩
        exact xse_no (by omega) (by omega) rfl
      · refine xr_steps (pc' := 37) (L' := [(0, .ref 165), (1, .int (Int32.ofInt (400 + (i : Int))))]) (st' := [.int (Int32.ofInt 2), .int (Int32.ofInt (400 + (i : Int)))]) 2 rfl ?_
        refine xr_iadd rfl ?_
        refine xr_steps (pc' := 42) (L' := [(0, .ref 165), (1, .int (Int32.ofInt (400 + (i : Int))))]) (st' := [.int (Int32.ofInt ((400 + (i : Int)) + 2))]) 1 rfl ?_
        refine xr_retI2 rfl rfl ⟨_, rfl, _, ⟨rfl, rfl⟩, ?_⟩
        exact xse_key (by omega) (by omega) (by omega)
theorem mo_231l {w : Value} {d : Nat} {A : xb_H} {s : Nat → Int} {t : Nat → Nat → Int} {i n : Nat} {f : Nat → Int} {Q : xb_R → xb_H → Prop} (hA : 194 ≤ A.1) (hx : xtx s t n f) : ∀ (k j m : Nat), m + k = 8 → j ≤ 300 + 2 * m → (∀ j' : Nat, j' = xit (ye n f) k j → xr_ok (xt_G w) (d + 1) 231 71 [(2, .int (Int32.ofInt (400 + (j' : Int)))), (0, .ref 165), (1, .int (Int32.ofInt (400 + (i : Int))))] [] (ym A s t) Q) → xr_ok (xt_G w) (d + 1) 231 4 [(2, .int (Int32.ofInt (400 + (j : Int)))), (3, .int (Int32.ofInt (m : Int))), (0, .ref 165), (1, .int (Int32.ofInt (400 + (i : Int))))] [] (ym A s t) Q := by
  intro k
  induction k using Nat.strongRecOn with
  | _ k ih =>
    intro j m hm hj hQ
    refine xr_steps (pc' := 7) (L' := [(2, .int (Int32.ofInt (400 + (j : Int)))), (3, .int (Int32.ofInt (m : Int))), (0, .ref 165), (1, .int (Int32.ofInt (400 + (i : Int))))]) (st' := [.int (Int32.ofInt 8), .int (Int32.ofInt (m : Int))]) 2 rfl ?_
    refine xr_icmp_ge rfl (by omega) (by omega) (fun z31 => ?_) (fun z31 => ?_)
    · refine xr_loc (L := [(2, .int (Int32.ofInt (400 + (j : Int)))), (0, .ref 165), (1, .int (Int32.ofInt (400 + (i : Int))))]) (show [2, 0, 1].Nodup by decide) ⟨rfl, rfl, rfl, trivial⟩ ?_
      refine hQ j ?_
      cases k with
      | zero => rfl
      | succ k => rw [xit, if_neg (by omega)]
    · refine xr_steps (pc' := 12) (L' := [(2, .int (Int32.ofInt (400 + (j : Int)))), (3, .int (Int32.ofInt (m : Int))), (0, .ref 165), (1, .int (Int32.ofInt (400 + (i : Int))))]) (st' := [.int (Int32.ofInt (400 + (j : Int))), .ref 165]) 2 rfl ?_
      refine xr_call (q := (.invokevirtual 103, 3, 209, 2)) (av := [.ref 165, .int (Int32.ofInt (400 + (j : Int)))]) (rest := []) rfl rfl (by decide) rfl (ym_rcv hA rfl) (Nat.le_of_ble_eq_true rfl) (mo_209t (i := j) hA hx (by omega) (by omega)) ?_
      rintro _ _ ⟨rfl, eA⟩
      rw [eA]
      clear eA
      have hx32 := xtx_ye hx j
      obtain ⟨b33, hb33⟩ := mo_bool (97 ≤ (xat n f j) ∧ (xat n f j) ≤ 122)
      refine xr_call (q := (.invokestatic 111, 3, 210, 1)) (av := [.int (Int32.ofInt (xat n f j))]) (rest := []) rfl rfl (by decide) rfl rfl (Nat.le_of_ble_eq_true rfl) (mo_210 (by omega) hb33) ?_
      rintro _ _ ⟨rfl, eA⟩
      rw [eA]
      clear eA
      refine xr_if_ne rfl (by omega) (fun z34 => ?_) (fun z34 => ?_)
      · refine xr_steps (pc' := 34) (L' := [(2, .int (Int32.ofInt (400 + (j : Int)))), (3, .int (Int32.ofInt (m : Int))), (0, .ref 165), (1, .int (Int32.ofInt (400 + (i : Int))))]) (st' := [.int (Int32.ofInt 1), .int (Int32.ofInt (400 + (j : Int))), .ref 165]) 3 rfl ?_
        refine xr_iadd rfl ?_
        refine xr_call (q := (.invokevirtual 103, 3, 209, 2)) (av := [.ref 165, .int (Int32.ofInt ((400 + (j : Int)) + 1))]) (rest := []) rfl rfl (by decide) rfl (ym_rcv hA rfl) (Nat.le_of_ble_eq_true rfl) (mo_209t (i := j + 1) hA hx (by omega) (by omega)) ?_
        rintro _ _ ⟨rfl, eA⟩
        rw [eA]
        clear eA
        have hx35 := xtx_ye hx (j + 1)
        refine xr_steps (pc' := 40) (L' := [(2, .int (Int32.ofInt (400 + (j : Int)))), (3, .int (Int32.ofInt (m : Int))), (0, .ref 165), (1, .int (Int32.ofInt (400 + (i : Int))))]) (st' := [.int (Int32.ofInt 42), .int (Int32.ofInt (xat n f (j + 1)))]) 1 rfl ?_
        refine xr_icmp_eq rfl (by omega) (by omega) (fun z36 => ?_) (fun z36 => ?_)
        · refine xr_steps (pc' := 57) (L' := [(2, .int (Int32.ofInt (400 + (j : Int)))), (3, .int (Int32.ofInt (m : Int))), (0, .ref 165), (1, .int (Int32.ofInt (400 + (i : Int))))]) (st' := [.int (Int32.ofInt 2), .int (Int32.ofInt (400 + (j : Int)))]) 2 rfl ?_
          refine xr_iadd rfl ?_
          refine xr_steps (pc' := 65) (L' := [(2, .int (Int32.ofInt ((400 + (j : Int)) + 2))), (3, .int (Int32.ofInt (m : Int))), (0, .ref 165), (1, .int (Int32.ofInt (400 + (i : Int))))]) (st' := []) 2 rfl ?_
          refine xr_iinc (L' := [(3, .int (Int32.ofInt ((m : Int) + 1))), (2, .int (Int32.ofInt ((400 + (j : Int)) + 2))), (0, .ref 165), (1, .int (Int32.ofInt (400 + (i : Int))))]) rfl rfl rfl ?_
          refine xr_steps (pc' := 4) (L' := [(3, .int (Int32.ofInt ((m : Int) + 1))), (2, .int (Int32.ofInt ((400 + (j : Int)) + 2))), (0, .ref 165), (1, .int (Int32.ofInt (400 + (i : Int))))]) (st' := []) 1 rfl ?_
          refine xr_loc (L := [(2, .int (Int32.ofInt ((400 + (j : Int)) + 2))), (3, .int (Int32.ofInt ((m : Int) + 1))), (0, .ref 165), (1, .int (Int32.ofInt (400 + (i : Int))))]) (show [2, 3, 0, 1].Nodup by decide) ⟨rfl, rfl, rfl, rfl, trivial⟩ ?_
          obtain ⟨k, rfl⟩ : ∃ k0, k = k0 + 1 := ⟨k - 1, by omega⟩
          rw [show 400 + (j : Int) + 2 = 400 + ((j + 2 : Nat) : Int) by omega, show (m : Int) + 1 = ((m + 1 : Nat) : Int) by omega]
          refine ih k (by omega) (j + 2) (m + 1) (by omega) (by omega) (fun j' hj' => hQ j' ?_)
          rw [hj', xit, if_pos (by omega), if_pos (by omega)]
        · refine xr_steps (pc' := 46) (L' := [(2, .int (Int32.ofInt (400 + (j : Int)))), (3, .int (Int32.ofInt (m : Int))), (0, .ref 165), (1, .int (Int32.ofInt (400 + (i : Int))))]) (st' := [.int (Int32.ofInt 1), .int (Int32.ofInt (400 + (j : Int))), .ref 165]) 3 rfl ?_
          refine xr_iadd rfl ?_
          refine xr_call (q := (.invokevirtual 103, 3, 209, 2)) (av := [.ref 165, .int (Int32.ofInt ((400 + (j : Int)) + 1))]) (rest := []) rfl rfl (by decide) rfl (ym_rcv hA rfl) (Nat.le_of_ble_eq_true rfl) (mo_209t (i := j + 1) hA hx (by omega) (by omega)) ?_
          rintro _ _ ⟨rfl, eA⟩
          rw [eA]
          clear eA
          have hx37 := xtx_ye hx (j + 1)
          refine xr_steps (pc' := 52) (L' := [(2, .int (Int32.ofInt (400 + (j : Int)))), (3, .int (Int32.ofInt (m : Int))), (0, .ref 165), (1, .int (Int32.ofInt (400 + (i : Int))))]) (st' := [.int (Int32.ofInt 43), .int (Int32.ofInt (xat n f (j + 1)))]) 1 rfl ?_
          refine xr_icmp_ne rfl (by omega) (by omega) (fun z38 => ?_) (fun z38 => ?_)
          · refine xr_steps (pc' := 63) (L' := [(2, .int (Int32.ofInt (400 + (j : Int)))), (3, .int (Int32.ofInt (m : Int))), (0, .ref 165), (1, .int (Int32.ofInt (400 + (i : Int))))]) (st' := [.int (Int32.ofInt 1), .int (Int32.ofInt (400 + (j : Int)))]) 2 rfl ?_
            refine xr_iadd rfl ?_
            refine xr_steps (pc' := 65) (L' := [(2, .int (Int32.ofInt ((400 + (j : Int)) + 1))), (3, .int (Int32.ofInt (m : Int))), (0, .ref 165), (1, .int (Int32.ofInt (400 + (i : Int))))]) (st' := []) 1 rfl ?_
            refine xr_iinc (L' := [(3, .int (Int32.ofInt ((m : Int) + 1))), (2, .int (Int32.ofInt ((400 + (j : Int)) + 1))), (0, .ref 165), (1, .int (Int32.ofInt (400 + (i : Int))))]) rfl rfl rfl ?_
            refine xr_steps (pc' := 4) (L' := [(3, .int (Int32.ofInt ((m : Int) + 1))), (2, .int (Int32.ofInt ((400 + (j : Int)) + 1))), (0, .ref 165), (1, .int (Int32.ofInt (400 + (i : Int))))]) (st' := []) 1 rfl ?_
            refine xr_loc (L := [(2, .int (Int32.ofInt ((400 + (j : Int)) + 1))), (3, .int (Int32.ofInt ((m : Int) + 1))), (0, .ref 165), (1, .int (Int32.ofInt (400 + (i : Int))))]) (show [2, 3, 0, 1].Nodup by decide) ⟨rfl, rfl, rfl, rfl, trivial⟩ ?_
            obtain ⟨k, rfl⟩ : ∃ k0, k = k0 + 1 := ⟨k - 1, by omega⟩
            rw [show 400 + (j : Int) + 1 = 400 + ((j + 1 : Nat) : Int) by omega, show (m : Int) + 1 = ((m + 1 : Nat) : Int) by omega]
            refine ih k (by omega) (j + 1) (m + 1) (by omega) (by omega) (fun j' hj' => hQ j' ?_)
            rw [hj', xit, if_pos (by omega), if_neg (by omega)]
          · refine xr_steps (pc' := 57) (L' := [(2, .int (Int32.ofInt (400 + (j : Int)))), (3, .int (Int32.ofInt (m : Int))), (0, .ref 165), (1, .int (Int32.ofInt (400 + (i : Int))))]) (st' := [.int (Int32.ofInt 2), .int (Int32.ofInt (400 + (j : Int)))]) 2 rfl ?_
            refine xr_iadd rfl ?_
            refine xr_steps (pc' := 65) (L' := [(2, .int (Int32.ofInt ((400 + (j : Int)) + 2))), (3, .int (Int32.ofInt (m : Int))), (0, .ref 165), (1, .int (Int32.ofInt (400 + (i : Int))))]) (st' := []) 2 rfl ?_
            refine xr_iinc (L' := [(3, .int (Int32.ofInt ((m : Int) + 1))), (2, .int (Int32.ofInt ((400 + (j : Int)) + 2))), (0, .ref 165), (1, .int (Int32.ofInt (400 + (i : Int))))]) rfl rfl rfl ?_
            refine xr_steps (pc' := 4) (L' := [(3, .int (Int32.ofInt ((m : Int) + 1))), (2, .int (Int32.ofInt ((400 + (j : Int)) + 2))), (0, .ref 165), (1, .int (Int32.ofInt (400 + (i : Int))))]) (st' := []) 1 rfl ?_
            refine xr_loc (L := [(2, .int (Int32.ofInt ((400 + (j : Int)) + 2))), (3, .int (Int32.ofInt ((m : Int) + 1))), (0, .ref 165), (1, .int (Int32.ofInt (400 + (i : Int))))]) (show [2, 3, 0, 1].Nodup by decide) ⟨rfl, rfl, rfl, rfl, trivial⟩ ?_
            obtain ⟨k, rfl⟩ : ∃ k0, k = k0 + 1 := ⟨k - 1, by omega⟩
            rw [show 400 + (j : Int) + 2 = 400 + ((j + 2 : Nat) : Int) by omega, show (m : Int) + 1 = ((m + 1 : Nat) : Int) by omega]
            refine ih k (by omega) (j + 2) (m + 1) (by omega) (by omega) (fun j' hj' => hQ j' ?_)
            rw [hj', xit, if_pos (by omega), if_pos (by omega)]
      · refine xr_steps (pc' := 23) (L' := [(2, .int (Int32.ofInt (400 + (j : Int)))), (3, .int (Int32.ofInt (m : Int))), (0, .ref 165), (1, .int (Int32.ofInt (400 + (i : Int))))]) (st' := [.int (Int32.ofInt (400 + (j : Int))), .ref 165]) 2 rfl ?_
        refine xr_call (q := (.invokevirtual 103, 3, 209, 2)) (av := [.ref 165, .int (Int32.ofInt (400 + (j : Int)))]) (rest := []) rfl rfl (by decide) rfl (ym_rcv hA rfl) (Nat.le_of_ble_eq_true rfl) (mo_209t (i := j) hA hx (by omega) (by omega)) ?_
        rintro _ _ ⟨rfl, eA⟩
        rw [eA]
        clear eA
        have hx39 := xtx_ye hx j
        refine xr_steps (pc' := 28) (L' := [(2, .int (Int32.ofInt (400 + (j : Int)))), (3, .int (Int32.ofInt (m : Int))), (0, .ref 165), (1, .int (Int32.ofInt (400 + (i : Int))))]) (st' := [.int (Int32.ofInt 46), .int (Int32.ofInt (xat n f j))]) 1 rfl ?_
        refine xr_icmp_ne rfl (by omega) (by omega) (fun z40 => ?_) (fun z40 => ?_)
        · refine xr_loc (L := [(2, .int (Int32.ofInt (400 + (j : Int)))), (0, .ref 165), (1, .int (Int32.ofInt (400 + (i : Int))))]) (show [2, 0, 1].Nodup by decide) ⟨rfl, rfl, rfl, trivial⟩ ?_
          refine hQ j ?_
          cases k with
          | zero => rfl
          | succ k => rw [xit, if_neg (by omega)]
        · refine xr_steps (pc' := 34) (L' := [(2, .int (Int32.ofInt (400 + (j : Int)))), (3, .int (Int32.ofInt (m : Int))), (0, .ref 165), (1, .int (Int32.ofInt (400 + (i : Int))))]) (st' := [.int (Int32.ofInt 1), .int (Int32.ofInt (400 + (j : Int))), .ref 165]) 3 rfl ?_
          refine xr_iadd rfl ?_
          refine xr_call (q := (.invokevirtual 103, 3, 209, 2)) (av := [.ref 165, .int (Int32.ofInt ((400 + (j : Int)) + 1))]) (rest := []) rfl rfl (by decide) rfl (ym_rcv hA rfl) (Nat.le_of_ble_eq_true rfl) (mo_209t (i := j + 1) hA hx (by omega) (by omega)) ?_
          rintro _ _ ⟨rfl, eA⟩
          rw [eA]
          clear eA
          have hx41 := xtx_ye hx (j + 1)
          refine xr_steps (pc' := 40) (L' := [(2, .int (Int32.ofInt (400 + (j : Int)))), (3, .int (Int32.ofInt (m : Int))), (0, .ref 165), (1, .int (Int32.ofInt (400 + (i : Int))))]) (st' := [.int (Int32.ofInt 42), .int (Int32.ofInt (xat n f (j + 1)))]) 1 rfl ?_
          refine xr_icmp_eq rfl (by omega) (by omega) (fun z42 => ?_) (fun z42 => ?_)
          · refine xr_steps (pc' := 57) (L' := [(2, .int (Int32.ofInt (400 + (j : Int)))), (3, .int (Int32.ofInt (m : Int))), (0, .ref 165), (1, .int (Int32.ofInt (400 + (i : Int))))]) (st' := [.int (Int32.ofInt 2), .int (Int32.ofInt (400 + (j : Int)))]) 2 rfl ?_
            refine xr_iadd rfl ?_
            refine xr_steps (pc' := 65) (L' := [(2, .int (Int32.ofInt ((400 + (j : Int)) + 2))), (3, .int (Int32.ofInt (m : Int))), (0, .ref 165), (1, .int (Int32.ofInt (400 + (i : Int))))]) (st' := []) 2 rfl ?_
            refine xr_iinc (L' := [(3, .int (Int32.ofInt ((m : Int) + 1))), (2, .int (Int32.ofInt ((400 + (j : Int)) + 2))), (0, .ref 165), (1, .int (Int32.ofInt (400 + (i : Int))))]) rfl rfl rfl ?_
            refine xr_steps (pc' := 4) (L' := [(3, .int (Int32.ofInt ((m : Int) + 1))), (2, .int (Int32.ofInt ((400 + (j : Int)) + 2))), (0, .ref 165), (1, .int (Int32.ofInt (400 + (i : Int))))]) (st' := []) 1 rfl ?_
            refine xr_loc (L := [(2, .int (Int32.ofInt ((400 + (j : Int)) + 2))), (3, .int (Int32.ofInt ((m : Int) + 1))), (0, .ref 165), (1, .int (Int32.ofInt (400 + (i : Int))))]) (show [2, 3, 0, 1].Nodup by decide) ⟨rfl, rfl, rfl, rfl, trivial⟩ ?_
            obtain ⟨k, rfl⟩ : ∃ k0, k = k0 + 1 := ⟨k - 1, by omega⟩
            rw [show 400 + (j : Int) + 2 = 400 + ((j + 2 : Nat) : Int) by omega, show (m : Int) + 1 = ((m + 1 : Nat) : Int) by omega]
            refine ih k (by omega) (j + 2) (m + 1) (by omega) (by omega) (fun j' hj' => hQ j' ?_)
            rw [hj', xit, if_pos (by omega), if_pos (by omega)]
          · refine xr_steps (pc' := 46) (L' := [(2, .int (Int32.ofInt (400 + (j : Int)))), (3, .int (Int32.ofInt (m : Int))), (0, .ref 165), (1, .int (Int32.ofInt (400 + (i : Int))))]) (st' := [.int (Int32.ofInt 1), .int (Int32.ofInt (400 + (j : Int))), .ref 165]) 3 rfl ?_
            refine xr_iadd rfl ?_
            refine xr_call (q := (.invokevirtual 103, 3, 209, 2)) (av := [.ref 165, .int (Int32.ofInt ((400 + (j : Int)) + 1))]) (rest := []) rfl rfl (by decide) rfl (ym_rcv hA rfl) (Nat.le_of_ble_eq_true rfl) (mo_209t (i := j + 1) hA hx (by omega) (by omega)) ?_
            rintro _ _ ⟨rfl, eA⟩
            rw [eA]
            clear eA
            have hx43 := xtx_ye hx (j + 1)
            refine xr_steps (pc' := 52) (L' := [(2, .int (Int32.ofInt (400 + (j : Int)))), (3, .int (Int32.ofInt (m : Int))), (0, .ref 165), (1, .int (Int32.ofInt (400 + (i : Int))))]) (st' := [.int (Int32.ofInt 43), .int (Int32.ofInt (xat n f (j + 1)))]) 1 rfl ?_
            refine xr_icmp_ne rfl (by omega) (by omega) (fun z44 => ?_) (fun z44 => ?_)
            · refine xr_steps (pc' := 63) (L' := [(2, .int (Int32.ofInt (400 + (j : Int)))), (3, .int (Int32.ofInt (m : Int))), (0, .ref 165), (1, .int (Int32.ofInt (400 + (i : Int))))]) (st' := [.int (Int32.ofInt 1), .int (Int32.ofInt (400 + (j : Int)))]) 2 rfl ?_
              refine xr_iadd rfl ?_
              refine xr_steps (pc' := 65) (L' := [(2, .int (Int32.ofInt ((400 + (j : Int)) + 1))), (3, .int (Int32.ofInt (m : Int))), (0, .ref 165), (1, .int (Int32.ofInt (400 + (i : Int))))]) (st' := []) 1 rfl ?_
              refine xr_iinc (L' := [(3, .int (Int32.ofInt ((m : Int) + 1))), (2, .int (Int32.ofInt ((400 + (j : Int)) + 1))), (0, .ref 165), (1, .int (Int32.ofInt (400 + (i : Int))))]) rfl rfl rfl ?_
              refine xr_steps (pc' := 4) (L' := [(3, .int (Int32.ofInt ((m : Int) + 1))), (2, .int (Int32.ofInt ((400 + (j : Int)) + 1))), (0, .ref 165), (1, .int (Int32.ofInt (400 + (i : Int))))]) (st' := []) 1 rfl ?_
              refine xr_loc (L := [(2, .int (Int32.ofInt ((400 + (j : Int)) + 1))), (3, .int (Int32.ofInt ((m : Int) + 1))), (0, .ref 165), (1, .int (Int32.ofInt (400 + (i : Int))))]) (show [2, 3, 0, 1].Nodup by decide) ⟨rfl, rfl, rfl, rfl, trivial⟩ ?_
              obtain ⟨k, rfl⟩ : ∃ k0, k = k0 + 1 := ⟨k - 1, by omega⟩
              rw [show 400 + (j : Int) + 1 = 400 + ((j + 1 : Nat) : Int) by omega, show (m : Int) + 1 = ((m + 1 : Nat) : Int) by omega]
              refine ih k (by omega) (j + 1) (m + 1) (by omega) (by omega) (fun j' hj' => hQ j' ?_)
              rw [hj', xit, if_pos (by omega), if_neg (by omega)]
            · refine xr_steps (pc' := 57) (L' := [(2, .int (Int32.ofInt (400 + (j : Int)))), (3, .int (Int32.ofInt (m : Int))), (0, .ref 165), (1, .int (Int32.ofInt (400 + (i : Int))))]) (st' := [.int (Int32.ofInt 2), .int (Int32.ofInt (400 + (j : Int)))]) 2 rfl ?_
              refine xr_iadd rfl ?_
              refine xr_steps (pc' := 65) (L' := [(2, .int (Int32.ofInt ((400 + (j : Int)) + 2))), (3, .int (Int32.ofInt (m : Int))), (0, .ref 165), (1, .int (Int32.ofInt (400 + (i : Int))))]) (st' := []) 2 rfl ?_
              refine xr_iinc (L' := [(3, .int (Int32.ofInt ((m : Int) + 1))), (2, .int (Int32.ofInt ((400 + (j : Int)) + 2))), (0, .ref 165), (1, .int (Int32.ofInt (400 + (i : Int))))]) rfl rfl rfl ?_
              refine xr_steps (pc' := 4) (L' := [(3, .int (Int32.ofInt ((m : Int) + 1))), (2, .int (Int32.ofInt ((400 + (j : Int)) + 2))), (0, .ref 165), (1, .int (Int32.ofInt (400 + (i : Int))))]) (st' := []) 1 rfl ?_
              refine xr_loc (L := [(2, .int (Int32.ofInt ((400 + (j : Int)) + 2))), (3, .int (Int32.ofInt ((m : Int) + 1))), (0, .ref 165), (1, .int (Int32.ofInt (400 + (i : Int))))]) (show [2, 3, 0, 1].Nodup by decide) ⟨rfl, rfl, rfl, rfl, trivial⟩ ?_
              obtain ⟨k, rfl⟩ : ∃ k0, k = k0 + 1 := ⟨k - 1, by omega⟩
              rw [show 400 + (j : Int) + 2 = 400 + ((j + 2 : Nat) : Int) by omega, show (m : Int) + 1 = ((m + 1 : Nat) : Int) by omega]
              refine ih k (by omega) (j + 2) (m + 1) (by omega) (by omega) (fun j' hj' => hQ j' ?_)
              rw [hj', xit, if_pos (by omega), if_pos (by omega)]
theorem mo_231 {w : Value} {d : Nat} {A : xb_H} {s : Nat → Int} {t : Nat → Nat → Int} {i n : Nat} {f : Nat → Int} (hA : 194 ≤ A.1) (hx : xtx s t n f) (hi : i ≤ 200) : xr_ok (xt_G w) (d + 1) 231 0 [(0, .ref 165), (1, .int (Int32.ofInt (400 + (i : Int))))] [] (ym A s t) (fun o A' => ∃ v0, o = .inl v0 ∧ ∃ r : Int, (v0 = some (.int (Int32.ofInt r)) ∧ A' = ym A s t) ∧ ((i < xit (ye n f) 8 i ∧ ye n f (xit (ye n f) 8 i) = 47 ∧ r = 400 + (xit (ye n f) 8 i : Int) + 1) ∨ (¬ (i < xit (ye n f) 8 i ∧ ye n f (xit (ye n f) 8 i) = 47) ∧ r = -1))) := by
  refine xr_steps (pc' := 4) (L' := [(3, .int (Int32.ofInt 0)), (2, .int (Int32.ofInt (400 + (i : Int)))), (0, .ref 165), (1, .int (Int32.ofInt (400 + (i : Int))))]) (st' := []) 4 rfl ?_
  have hL : xr_ok (xt_G w) (d + 1) 231 4 [(2, .int (Int32.ofInt (400 + (i : Int)))), (3, .int (Int32.ofInt ((0 : Nat) : Int))), (0, .ref 165), (1, .int (Int32.ofInt (400 + (i : Int))))] [] (ym A s t) (fun o A' => ∃ v0, o = .inl v0 ∧ ∃ r : Int, (v0 = some (.int (Int32.ofInt r)) ∧ A' = ym A s t) ∧ ((i < xit (ye n f) 8 i ∧ ye n f (xit (ye n f) 8 i) = 47 ∧ r = 400 + (xit (ye n f) 8 i : Int) + 1) ∨ (¬ (i < xit (ye n f) 8 i ∧ ye n f (xit (ye n f) 8 i) = 47) ∧ r = -1))) := ?_
  refine xr_loc (L := [(2, .int (Int32.ofInt (400 + (i : Int)))), (3, .int (Int32.ofInt 0)), (0, .ref 165), (1, .int (Int32.ofInt (400 + (i : Int))))]) (show [2, 3, 0, 1].Nodup by decide) ⟨rfl, rfl, rfl, rfl, trivial⟩ ?_
  · exact hL
  refine mo_231l hA hx 8 i 0 (by omega) (by omega) (fun j hj => ?_)
  rw [← hj]
  have hjl : j ≤ i + 16 := by rw [hj]; exact xit_le _ 8 i
  refine xr_steps (pc' := 73) (L' := [(2, .int (Int32.ofInt (400 + (j : Int)))), (0, .ref 165), (1, .int (Int32.ofInt (400 + (i : Int))))]) (st' := [.int (Int32.ofInt (400 + (i : Int))), .int (Int32.ofInt (400 + (j : Int)))]) 2 rfl ?_
  refine xr_icmp_le rfl (by omega) (by omega) (fun z31 => ?_) (fun z31 => ?_)
  · refine xr_steps (pc' := 93) (L' := [(2, .int (Int32.ofInt (400 + (j : Int)))), (0, .ref 165), (1, .int (Int32.ofInt (400 + (i : Int))))]) (st' := [.int (Int32.ofInt (-1))]) 1 rfl ?_
    exact xr_retI2 rfl rfl ⟨_, rfl, _, ⟨rfl, rfl⟩, Or.inr ⟨by omega, rfl⟩⟩
  · refine xr_steps (pc' := 78) (L' := [(2, .int (Int32.ofInt (400 + (j : Int)))), (0, .ref 165), (1, .int (Int32.ofInt (400 + (i : Int))))]) (st' := [.int (Int32.ofInt (400 + (j : Int))), .ref 165]) 2 rfl ?_
    refine xr_call (q := (.invokevirtual 103, 3, 209, 2)) (av := [.ref 165, .int (Int32.ofInt (400 + (j : Int)))]) (rest := []) rfl rfl (by decide) rfl (ym_rcv hA rfl) (Nat.le_of_ble_eq_true rfl) (mo_209t (i := j) hA hx (by omega) (by omega)) ?_
    rintro _ _ ⟨rfl, eA⟩
    rw [eA]
    clear eA
    have hx32 := xtx_ye hx j
    refine xr_steps (pc' := 83) (L' := [(2, .int (Int32.ofInt (400 + (j : Int)))), (0, .ref 165), (1, .int (Int32.ofInt (400 + (i : Int))))]) (st' := [.int (Int32.ofInt 47), .int (Int32.ofInt (xat n f j))]) 1 rfl ?_
    refine xr_icmp_ne rfl (by omega) (by omega) (fun z33 => ?_) (fun z33 => ?_)
    · refine xr_steps (pc' := 93) (L' := [(2, .int (Int32.ofInt (400 + (j : Int)))), (0, .ref 165), (1, .int (Int32.ofInt (400 + (i : Int))))]) (st' := [.int (Int32.ofInt (-1))]) 1 rfl ?_
      exact xr_retI2 rfl rfl ⟨_, rfl, _, ⟨rfl, rfl⟩, Or.inr ⟨by omega, rfl⟩⟩
    · refine xr_steps (pc' := 88) (L' := [(2, .int (Int32.ofInt (400 + (j : Int)))), (0, .ref 165), (1, .int (Int32.ofInt (400 + (i : Int))))]) (st' := [.int (Int32.ofInt 1), .int (Int32.ofInt (400 + (j : Int)))]) 2 rfl ?_
      refine xr_iadd rfl ?_
      refine xr_steps (pc' := 93) (L' := [(2, .int (Int32.ofInt (400 + (j : Int)))), (0, .ref 165), (1, .int (Int32.ofInt (400 + (i : Int))))]) (st' := [.int (Int32.ofInt ((400 + (j : Int)) + 1))]) 1 rfl ?_
      exact xr_retI2 rfl rfl ⟨_, rfl, _, ⟨rfl, rfl⟩, Or.inl ⟨by omega, by omega, rfl⟩⟩
/-- what matcherEnd says of the matcher at i -/
def xME (e : Nat → Int) (i : Nat) (r : Int) : Prop := (∃ (m : Int × Int × List Int) (q : Nat), xms e i = some (m, q) ∧ r = 400 + (q : Int)) ∨ (xms e i = none ∧ r = -1)
section MEE
variable {e : Nat → Int} {i : Nat} {r : Int}
theorem xme_1 (h : e i = 116 ∨ e i = 61 ∨ e i = 48 ∨ e i = 105) (hr : r = 400 + (i : Int) + 1) : xME e i r := by
  refine Or.inl ⟨(e i, 0, []), i + 1, ?_, by omega⟩
  unfold xms
  rw [if_pos h]
theorem xme_2 (h0 : ¬ (e i = 116 ∨ e i = 61 ∨ e i = 48 ∨ e i = 105)) (h : e i = 62 ∨ e i = 60) (hr : ((48 ≤ e (i + 1) ∧ e (i + 1) ≤ 57) ∧ r = 400 + (i : Int) + 2) ∨ (¬ (48 ≤ e (i + 1) ∧ e (i + 1) ≤ 57) ∧ r = -1)) : xME e i r := by
  unfold xME xms
  rw [if_neg h0, if_pos h]
  unfold xmb
  rcases hr with ⟨h1, h2⟩ | ⟨h1, h2⟩
  · exact Or.inl ⟨_, i + 2, by rw [if_pos h1], by omega⟩
  · exact Or.inr ⟨by rw [if_neg h1], h2⟩
theorem xme_3 (h : e i = 47) (hr : (i + 1 < xit e 8 (i + 1) ∧ e (xit e 8 (i + 1)) = 47 ∧ r = 400 + (xit e 8 (i + 1) : Int) + 1) ∨ (¬ (i + 1 < xit e 8 (i + 1) ∧ e (xit e 8 (i + 1)) = 47) ∧ r = -1)) : xME e i r := by
  unfold xME xms
  rw [if_neg (by omega), if_neg (by omega), if_neg (by omega), if_pos h]
  unfold xmi
  rcases hr with ⟨h1, h2, h3⟩ | ⟨h1, h2⟩
  · exact Or.inl ⟨_, xit e 8 (i + 1) + 1, by rw [if_pos ⟨h1, h2⟩], by omega⟩
  · exact Or.inr ⟨by rw [if_neg h1], h2⟩
theorem xme_4 (h : e i = 126) {j : Nat} (hj : j = i + 1 + yn e 97 122 6 (i + 1)) (hr : (i + 1 < j ∧ r = 400 + (j : Int)) ∨ (¬ i + 1 < j ∧ r = -1)) : xME e i r := by
  unfold xME xms
  rw [if_neg (by omega), if_neg (by omega), if_pos h]
  unfold xmp
  rcases hr with ⟨h1, h2⟩ | ⟨h1, h2⟩
  · exact Or.inl ⟨_, i + 1 + yn e 97 122 6 (i + 1), by rw [if_pos (by omega)], by omega⟩
  · exact Or.inr ⟨by rw [if_neg (by omega)], h2⟩
theorem xme_5 (h1 : ¬ (e i = 116 ∨ e i = 61 ∨ e i = 48 ∨ e i = 105)) (h2 : ¬ (e i = 62 ∨ e i = 60)) (h3 : ¬ e i = 47) (h4 : ¬ e i = 126) (hr : r = -1) : xME e i r := by
  refine Or.inr ⟨?_, hr⟩
  unfold xms
  rw [if_neg h1, if_neg h2, if_neg h4, if_neg h3]
end MEE
theorem mo_230l {w : Value} {d : Nat} {A : xb_H} {s : Nat → Int} {t : Nat → Nat → Int} {i n : Nat} {f : Nat → Int} {Q : xb_R → xb_H → Prop} (hA : 194 ≤ A.1) (hx : xtx s t n f) (hi : i ≤ 200) : ∀ (k j : Nat), j + k = i + 7 → (∀ j' : Nat, j' = j + yn (ye n f) 97 122 k j → xr_ok (xt_G w) (d + 1) 230 110 [(3, .int (Int32.ofInt (400 + (j' : Int)))), (2, .int (Int32.ofInt (xat n f i))), (0, .ref 165), (1, .int (Int32.ofInt (400 + (i : Int))))] [] (ym A s t) Q) → xr_ok (xt_G w) (d + 1) 230 85 [(3, .int (Int32.ofInt (400 + (j : Int)))), (2, .int (Int32.ofInt (xat n f i))), (0, .ref 165), (1, .int (Int32.ofInt (400 + (i : Int))))] [] (ym A s t) Q := by
  intro k
  induction k using Nat.strongRecOn with
  | _ k ih =>
    intro j hj hQ
    have hxi := xtx_ye hx i
    refine xr_steps (pc' := 87) (L' := [(3, .int (Int32.ofInt (400 + (j : Int)))), (2, .int (Int32.ofInt (xat n f i))), (0, .ref 165), (1, .int (Int32.ofInt (400 + (i : Int))))]) (st' := [.int (Int32.ofInt (400 + (j : Int))), .ref 165]) 2 rfl ?_
    refine xr_call (q := (.invokevirtual 103, 3, 209, 2)) (av := [.ref 165, .int (Int32.ofInt (400 + (j : Int)))]) (rest := []) rfl rfl (by decide) rfl (ym_rcv hA rfl) (Nat.le_of_ble_eq_true rfl) (mo_209t (i := j) hA hx (by omega) (by omega)) ?_
    rintro _ _ ⟨rfl, eA⟩
    rw [eA]
    clear eA
    have hx31 := xtx_ye hx j
    obtain ⟨b32, hb32⟩ := mo_bool (97 ≤ (xat n f j) ∧ (xat n f j) ≤ 122)
    refine xr_call (q := (.invokestatic 111, 3, 210, 1)) (av := [.int (Int32.ofInt (xat n f j))]) (rest := []) rfl rfl (by decide) rfl rfl (Nat.le_of_ble_eq_true rfl) (mo_210 (by omega) hb32) ?_
    rintro _ _ ⟨rfl, eA⟩
    rw [eA]
    clear eA
    refine xr_if_eq rfl (by omega) (fun z33 => ?_) (fun z33 => ?_)
    · refine hQ j ?_
      cases k with
      | zero => rfl
      | succ k => rw [yn, if_neg (by omega)]; rfl
    · refine xr_steps (pc' := 100) (L' := [(3, .int (Int32.ofInt (400 + (j : Int)))), (2, .int (Int32.ofInt (xat n f i))), (0, .ref 165), (1, .int (Int32.ofInt (400 + (i : Int))))]) (st' := [.int (Int32.ofInt 7), .int (Int32.ofInt (400 + (i : Int))), .int (Int32.ofInt (400 + (j : Int)))]) 3 rfl ?_
      refine xr_iadd rfl ?_
      refine xr_icmp_ge rfl (by omega) (by omega) (fun z34 => ?_) (fun z34 => ?_)
      · refine hQ j ?_
        cases k with
        | zero => rfl
        | succ k => rw [yn, if_neg (by omega)]; rfl
      · refine xr_iinc (L' := [(3, .int (Int32.ofInt ((400 + (j : Int)) + 1))), (2, .int (Int32.ofInt (xat n f i))), (0, .ref 165), (1, .int (Int32.ofInt (400 + (i : Int))))]) rfl rfl rfl ?_
        refine xr_steps (pc' := 85) (L' := [(3, .int (Int32.ofInt ((400 + (j : Int)) + 1))), (2, .int (Int32.ofInt (xat n f i))), (0, .ref 165), (1, .int (Int32.ofInt (400 + (i : Int))))]) (st' := []) 1 rfl ?_
        refine xr_loc (L := [(3, .int (Int32.ofInt ((400 + (j : Int)) + 1))), (2, .int (Int32.ofInt (xat n f i))), (0, .ref 165), (1, .int (Int32.ofInt (400 + (i : Int))))]) (show [3, 2, 0, 1].Nodup by decide) ⟨rfl, rfl, rfl, rfl, trivial⟩ ?_
        obtain ⟨k, rfl⟩ : ∃ k0, k = k0 + 1 := ⟨k - 1, by omega⟩
        rw [show 400 + (j : Int) + 1 = 400 + ((j + 1 : Nat) : Int) by omega]
        refine ih k (by omega) (j + 1) (by omega) (fun j' hj' => hQ j' ?_)
        rw [hj', yn, if_pos (by omega)]
        omega
theorem mo_230 {w : Value} {d : Nat} {A : xb_H} {s : Nat → Int} {t : Nat → Nat → Int} {i n : Nat} {f : Nat → Int} (hA : 194 ≤ A.1) (hx : xtx s t n f) (hi0 : i ≤ 150) : xr_ok (xt_G w) (d + 1 + 1) 230 0 [(0, .ref 165), (1, .int (Int32.ofInt (400 + (i : Int))))] [] (ym A s t) (fun o A' => ∃ v0, o = .inl v0 ∧ ∃ r : Int, (v0 = some (.int (Int32.ofInt r)) ∧ A' = ym A s t) ∧ xME (ye n f) i r) := by
  have hi : i ≤ 200 := by omega
  refine xr_steps (pc' := 2) (L' := [(0, .ref 165), (1, .int (Int32.ofInt (400 + (i : Int))))]) (st' := [.int (Int32.ofInt (400 + (i : Int))), .ref 165]) 2 rfl ?_
  refine xr_call (q := (.invokevirtual 103, 3, 209, 2)) (av := [.ref 165, .int (Int32.ofInt (400 + (i : Int)))]) (rest := []) rfl rfl (by decide) rfl (ym_rcv hA rfl) (Nat.le_of_ble_eq_true rfl) (mo_209t (i := i) hA hx (by omega) (by omega)) ?_
  rintro _ _ ⟨rfl, eA⟩
  rw [eA]
  clear eA
  have hx31 := xtx_ye hx i
  refine xr_steps (pc' := 9) (L' := [(2, .int (Int32.ofInt (xat n f i))), (0, .ref 165), (1, .int (Int32.ofInt (400 + (i : Int))))]) (st' := [.int (Int32.ofInt 116), .int (Int32.ofInt (xat n f i))]) 3 rfl ?_
  refine xr_icmp_eq rfl (by omega) (by omega) (fun z32 => ?_) (fun z32 => ?_)
  · refine xr_steps (pc' := 32) (L' := [(2, .int (Int32.ofInt (xat n f i))), (0, .ref 165), (1, .int (Int32.ofInt (400 + (i : Int))))]) (st' := [.int (Int32.ofInt 1), .int (Int32.ofInt (400 + (i : Int)))]) 2 rfl ?_
    refine xr_iadd rfl ?_
    refine xr_retI2 rfl rfl ⟨_, rfl, _, ⟨rfl, rfl⟩, ?_⟩
    exact xme_1 (by omega) rfl
  · refine xr_steps (pc' := 15) (L' := [(2, .int (Int32.ofInt (xat n f i))), (0, .ref 165), (1, .int (Int32.ofInt (400 + (i : Int))))]) (st' := [.int (Int32.ofInt 61), .int (Int32.ofInt (xat n f i))]) 2 rfl ?_
    refine xr_icmp_eq rfl (by omega) (by omega) (fun z33 => ?_) (fun z33 => ?_)
    · refine xr_steps (pc' := 32) (L' := [(2, .int (Int32.ofInt (xat n f i))), (0, .ref 165), (1, .int (Int32.ofInt (400 + (i : Int))))]) (st' := [.int (Int32.ofInt 1), .int (Int32.ofInt (400 + (i : Int)))]) 2 rfl ?_
      refine xr_iadd rfl ?_
      refine xr_retI2 rfl rfl ⟨_, rfl, _, ⟨rfl, rfl⟩, ?_⟩
      exact xme_1 (by omega) rfl
    · refine xr_steps (pc' := 21) (L' := [(2, .int (Int32.ofInt (xat n f i))), (0, .ref 165), (1, .int (Int32.ofInt (400 + (i : Int))))]) (st' := [.int (Int32.ofInt 48), .int (Int32.ofInt (xat n f i))]) 2 rfl ?_
      refine xr_icmp_eq rfl (by omega) (by omega) (fun z34 => ?_) (fun z34 => ?_)
      · refine xr_steps (pc' := 32) (L' := [(2, .int (Int32.ofInt (xat n f i))), (0, .ref 165), (1, .int (Int32.ofInt (400 + (i : Int))))]) (st' := [.int (Int32.ofInt 1), .int (Int32.ofInt (400 + (i : Int)))]) 2 rfl ?_
        refine xr_iadd rfl ?_
        refine xr_retI2 rfl rfl ⟨_, rfl, _, ⟨rfl, rfl⟩, ?_⟩
        exact xme_1 (by omega) rfl
      · refine xr_steps (pc' := 27) (L' := [(2, .int (Int32.ofInt (xat n f i))), (0, .ref 165), (1, .int (Int32.ofInt (400 + (i : Int))))]) (st' := [.int (Int32.ofInt 105), .int (Int32.ofInt (xat n f i))]) 2 rfl ?_
        refine xr_icmp_ne rfl (by omega) (by omega) (fun z35 => ?_) (fun z35 => ?_)
        · refine xr_steps (pc' := 37) (L' := [(2, .int (Int32.ofInt (xat n f i))), (0, .ref 165), (1, .int (Int32.ofInt (400 + (i : Int))))]) (st' := [.int (Int32.ofInt 62), .int (Int32.ofInt (xat n f i))]) 2 rfl ?_
          refine xr_icmp_eq rfl (by omega) (by omega) (fun z36 => ?_) (fun z36 => ?_)
          · refine xr_steps (pc' := 49) (L' := [(2, .int (Int32.ofInt (xat n f i))), (0, .ref 165), (1, .int (Int32.ofInt (400 + (i : Int))))]) (st' := [.int (Int32.ofInt 1), .int (Int32.ofInt (400 + (i : Int))), .ref 165]) 3 rfl ?_
            refine xr_iadd rfl ?_
            refine xr_call (q := (.invokevirtual 103, 3, 209, 2)) (av := [.ref 165, .int (Int32.ofInt ((400 + (i : Int)) + 1))]) (rest := []) rfl rfl (by decide) rfl (ym_rcv hA rfl) (Nat.le_of_ble_eq_true rfl) (mo_209t (i := i + 1) hA hx (by omega) (by omega)) ?_
            rintro _ _ ⟨rfl, eA⟩
            rw [eA]
            clear eA
            have hx37 := xtx_ye hx (i + 1)
            obtain ⟨b38, hb38⟩ := mo_bool (48 ≤ (xat n f (i + 1)) ∧ (xat n f (i + 1)) ≤ 57)
            refine xr_call (q := (.invokestatic 115, 3, 213, 1)) (av := [.int (Int32.ofInt (xat n f (i + 1)))]) (rest := []) rfl rfl (by decide) rfl rfl (Nat.le_of_ble_eq_true rfl) (mo_213 (by omega) hb38) ?_
            rintro _ _ ⟨rfl, eA⟩
            rw [eA]
            clear eA
            refine xr_if_eq rfl (by omega) (fun z39 => ?_) (fun z39 => ?_)
            · refine xr_steps (pc' := 66) (L' := [(2, .int (Int32.ofInt (xat n f i))), (0, .ref 165), (1, .int (Int32.ofInt (400 + (i : Int))))]) (st' := [.int (Int32.ofInt (-1))]) 1 rfl ?_
              refine xr_retI2 rfl rfl ⟨_, rfl, _, ⟨rfl, rfl⟩, ?_⟩
              exact xme_2 (by omega) (by omega) (Or.inr ⟨by omega, rfl⟩)
            · refine xr_steps (pc' := 61) (L' := [(2, .int (Int32.ofInt (xat n f i))), (0, .ref 165), (1, .int (Int32.ofInt (400 + (i : Int))))]) (st' := [.int (Int32.ofInt 2), .int (Int32.ofInt (400 + (i : Int)))]) 2 rfl ?_
              refine xr_iadd rfl ?_
              refine xr_steps (pc' := 66) (L' := [(2, .int (Int32.ofInt (xat n f i))), (0, .ref 165), (1, .int (Int32.ofInt (400 + (i : Int))))]) (st' := [.int (Int32.ofInt ((400 + (i : Int)) + 2))]) 1 rfl ?_
              refine xr_retI2 rfl rfl ⟨_, rfl, _, ⟨rfl, rfl⟩, ?_⟩
              exact xme_2 (by omega) (by omega) (Or.inl ⟨by omega, rfl⟩)
          · refine xr_steps (pc' := 43) (L' := [(2, .int (Int32.ofInt (xat n f i))), (0, .ref 165), (1, .int (Int32.ofInt (400 + (i : Int))))]) (st' := [.int (Int32.ofInt 60), .int (Int32.ofInt (xat n f i))]) 2 rfl ?_
            refine xr_icmp_ne rfl (by omega) (by omega) (fun z40 => ?_) (fun z40 => ?_)
            · refine xr_steps (pc' := 70) (L' := [(2, .int (Int32.ofInt (xat n f i))), (0, .ref 165), (1, .int (Int32.ofInt (400 + (i : Int))))]) (st' := [.int (Int32.ofInt 47), .int (Int32.ofInt (xat n f i))]) 2 rfl ?_
              refine xr_icmp_ne rfl (by omega) (by omega) (fun z41 => ?_) (fun z41 => ?_)
              · refine xr_steps (pc' := 83) (L' := [(2, .int (Int32.ofInt (xat n f i))), (0, .ref 165), (1, .int (Int32.ofInt (400 + (i : Int))))]) (st' := [.int (Int32.ofInt 1), .int (Int32.ofInt (400 + (i : Int)))]) 2 rfl ?_
                refine xr_iadd rfl ?_
                refine xr_steps (pc' := 85) (L' := [(3, .int (Int32.ofInt ((400 + (i : Int)) + 1))), (2, .int (Int32.ofInt (xat n f i))), (0, .ref 165), (1, .int (Int32.ofInt (400 + (i : Int))))]) (st' := []) 1 rfl ?_
                rw [show 400 + (i : Int) + 1 = 400 + ((i + 1 : Nat) : Int) by omega]
                refine mo_230l hA hx hi 6 (i + 1) (by omega) (fun j hj => ?_)
                have hjl := yn_le (ye n f) 97 122 6 (i + 1)
                refine xr_steps (pc' := 113) (L' := [(3, .int (Int32.ofInt (400 + (j : Int)))), (2, .int (Int32.ofInt (xat n f i))), (0, .ref 165), (1, .int (Int32.ofInt (400 + (i : Int))))]) (st' := [.int (Int32.ofInt 126), .int (Int32.ofInt (xat n f i))]) 2 rfl ?_
                refine xr_icmp_ne rfl (by omega) (by omega) (fun z42 => ?_) (fun z42 => ?_)
                · refine xr_steps (pc' := 128) (L' := [(3, .int (Int32.ofInt (400 + (j : Int)))), (2, .int (Int32.ofInt (xat n f i))), (0, .ref 165), (1, .int (Int32.ofInt (400 + (i : Int))))]) (st' := [.int (Int32.ofInt (-1))]) 1 rfl ?_
                  refine xr_retI2 rfl rfl ⟨_, rfl, _, ⟨rfl, rfl⟩, ?_⟩
                  exact xme_5 (by omega) (by omega) (by omega) (by omega) rfl
                · refine xr_steps (pc' := 119) (L' := [(3, .int (Int32.ofInt (400 + (j : Int)))), (2, .int (Int32.ofInt (xat n f i))), (0, .ref 165), (1, .int (Int32.ofInt (400 + (i : Int))))]) (st' := [.int (Int32.ofInt 1), .int (Int32.ofInt (400 + (i : Int))), .int (Int32.ofInt (400 + (j : Int)))]) 3 rfl ?_
                  refine xr_iadd rfl ?_
                  refine xr_icmp_le rfl (by omega) (by omega) (fun z43 => ?_) (fun z43 => ?_)
                  · refine xr_steps (pc' := 128) (L' := [(3, .int (Int32.ofInt (400 + (j : Int)))), (2, .int (Int32.ofInt (xat n f i))), (0, .ref 165), (1, .int (Int32.ofInt (400 + (i : Int))))]) (st' := [.int (Int32.ofInt (-1))]) 1 rfl ?_
                    refine xr_retI2 rfl rfl ⟨_, rfl, _, ⟨rfl, rfl⟩, ?_⟩
                    exact xme_4 (by omega) hj (by omega)
                  · refine xr_steps (pc' := 128) (L' := [(3, .int (Int32.ofInt (400 + (j : Int)))), (2, .int (Int32.ofInt (xat n f i))), (0, .ref 165), (1, .int (Int32.ofInt (400 + (i : Int))))]) (st' := [.int (Int32.ofInt (400 + (j : Int)))]) 2 rfl ?_
                    refine xr_retI2 rfl rfl ⟨_, rfl, _, ⟨rfl, rfl⟩, ?_⟩
                    exact xme_4 (by omega) hj (by omega)
              · refine xr_steps (pc' := 76) (L' := [(2, .int (Int32.ofInt (xat n f i))), (0, .ref 165), (1, .int (Int32.ofInt (400 + (i : Int))))]) (st' := [.int (Int32.ofInt 1), .int (Int32.ofInt (400 + (i : Int))), .ref 165]) 3 rfl ?_
                refine xr_iadd rfl ?_
                rw [show 400 + (i : Int) + 1 = 400 + ((i + 1 : Nat) : Int) by omega]
                refine xr_call (q := (.invokevirtual 164, 3, 231, 2)) (av := [.ref 165, .int (Int32.ofInt (400 + ((i + 1 : Nat) : Int)))]) (rest := []) rfl rfl (by decide) rfl (ym_rcv hA rfl) (Nat.le_of_ble_eq_true rfl) (mo_231 (i := i + 1) hA hx (by omega)) ?_
                rintro _ _ ⟨r, ⟨rfl, eA⟩, hr⟩
                rw [eA]
                clear eA
                refine xr_retI2 rfl rfl ⟨_, rfl, _, ⟨rfl, rfl⟩, ?_⟩
                exact xme_3 (by omega) hr
            · refine xr_steps (pc' := 49) (L' := [(2, .int (Int32.ofInt (xat n f i))), (0, .ref 165), (1, .int (Int32.ofInt (400 + (i : Int))))]) (st' := [.int (Int32.ofInt 1), .int (Int32.ofInt (400 + (i : Int))), .ref 165]) 3 rfl ?_
              refine xr_iadd rfl ?_
              refine xr_call (q := (.invokevirtual 103, 3, 209, 2)) (av := [.ref 165, .int (Int32.ofInt ((400 + (i : Int)) + 1))]) (rest := []) rfl rfl (by decide) rfl (ym_rcv hA rfl) (Nat.le_of_ble_eq_true rfl) (mo_209t (i := i + 1) hA hx (by omega) (by omega)) ?_
              rintro _ _ ⟨rfl, eA⟩
              rw [eA]
              clear eA
              have hx44 := xtx_ye hx (i + 1)
              obtain ⟨b45, hb45⟩ := mo_bool (48 ≤ (xat n f (i + 1)) ∧ (xat n f (i + 1)) ≤ 57)
              refine xr_call (q := (.invokestatic 115, 3, 213, 1)) (av := [.int (Int32.ofInt (xat n f (i + 1)))]) (rest := []) rfl rfl (by decide) rfl rfl (Nat.le_of_ble_eq_true rfl) (mo_213 (by omega) hb45) ?_
              rintro _ _ ⟨rfl, eA⟩
              rw [eA]
              clear eA
              refine xr_if_eq rfl (by omega) (fun z46 => ?_) (fun z46 => ?_)
              · refine xr_steps (pc' := 66) (L' := [(2, .int (Int32.ofInt (xat n f i))), (0, .ref 165), (1, .int (Int32.ofInt (400 + (i : Int))))]) (st' := [.int (Int32.ofInt (-1))]) 1 rfl ?_
                refine xr_retI2 rfl rfl ⟨_, rfl, _, ⟨rfl, rfl⟩, ?_⟩
                exact xme_2 (by omega) (by omega) (Or.inr ⟨by omega, rfl⟩)
              · refine xr_steps (pc' := 61) (L' := [(2, .int (Int32.ofInt (xat n f i))), (0, .ref 165), (1, .int (Int32.ofInt (400 + (i : Int))))]) (st' := [.int (Int32.ofInt 2), .int (Int32.ofInt (400 + (i : Int)))]) 2 rfl ?_
                refine xr_iadd rfl ?_
                refine xr_steps (pc' := 66) (L' := [(2, .int (Int32.ofInt (xat n f i))), (0, .ref 165), (1, .int (Int32.ofInt (400 + (i : Int))))]) (st' := [.int (Int32.ofInt ((400 + (i : Int)) + 2))]) 1 rfl ?_
                refine xr_retI2 rfl rfl ⟨_, rfl, _, ⟨rfl, rfl⟩, ?_⟩
                exact xme_2 (by omega) (by omega) (Or.inl ⟨by omega, rfl⟩)
        · refine xr_steps (pc' := 32) (L' := [(2, .int (Int32.ofInt (xat n f i))), (0, .ref 165), (1, .int (Int32.ofInt (400 + (i : Int))))]) (st' := [.int (Int32.ofInt 1), .int (Int32.ofInt (400 + (i : Int)))]) 2 rfl ?_
          refine xr_iadd rfl ?_
          refine xr_retI2 rfl rfl ⟨_, rfl, _, ⟨rfl, rfl⟩, ?_⟩
          exact xme_1 (by omega) rfl
/-! The reference: isRule -/
theorem yn_n {n : Nat} {f : Nat → Int} {lo hi : Int} (hlo : 1 ≤ lo) : ∀ k p : Nat, p ≤ n → p + yn (ye n f) lo hi k p ≤ n := by
  intro k
  induction k with
  | zero => intro p hp; exact hp
  | succ k ih =>
    intro p hp
    rw [yn]
    by_cases h : lo ≤ ye n f p ∧ ye n f p ≤ hi
    · rw [if_pos h]
      have hl : p < n := ye_in (f := f) (by omega)
      have := ih (p + 1) (by omega)
      omega
    · rw [if_neg h]
      omega
theorem xms_le {n : Nat} {f : Nat → Int} {p q : Nat} {m : Int × Int × List Int} (h : xms (ye n f) p = some (m, q)) : q ≤ n := by
  unfold xms at h
  split at h
  · rename_i h1
    cases h
    have : p < n := ye_in (f := f) (by omega)
    omega
  split at h
  · rename_i h0 h1
    unfold xmb at h
    split at h
    · rename_i h2
      cases h
      have : p + 1 < n := ye_in (f := f) (by omega)
      omega
    · cases h
  split at h
  · rename_i h0 h1 h2
    unfold xmp at h
    split at h
    · cases h
      have : p < n := ye_in (f := f) (by omega)
      exact yn_n (by omega) 6 (p + 1) (by omega)
    · cases h
  split at h
  · unfold xmi at h
    split at h
    · rename_i h3
      cases h
      have : xit (ye n f) 8 (p + 1) < n := ye_in (f := f) (by omega)
      omega
    · cases h
  · cases h
theorem xsp_key {pt : Int} {e : Nat → Int} {k i q : Nat} {s : Int} (h : e i = 46) (hs : xsk pt e (i + 1) = some (s, q)) : xsp pt e (k + 1) i = (match xsp pt e k q with
    | none => none
    | some (l, r) => some (s :: l, r)) := by
  rw [xsp, if_pos h, hs]
  rfl
theorem xsp_num {pt : Int} {e : Nat → Int} {k i q : Nat} {s : Int} (h : e i = 91) (hs : xsn pt e (i + 1) = some (s, q)) : xsp pt e (k + 1) i = (match xsp pt e k q with
    | none => none
    | some (l, r) => some (s :: l, r)) := by
  rw [xsp, if_neg (by omega), if_pos h, hs]
  rfl
/-- a pattern from i on, k steps at most, and a colon -/
def xPC (e : Nat → Int) (k i : Nat) (l : List Int) (q : Nat) : Prop := xsp 1 e k i = some (l, q) ∧ e q = 58
theorem xPC_step {e : Nat → Int} {k i q1 q : Nat} {s : Int} {l : List Int} (hs : (e i = 46 ∧ xsk 1 e (i + 1) = some (s, q1)) ∨ (e i = 91 ∧ xsn 1 e (i + 1) = some (s, q1))) (h : xPC e k q1 l q) : xPC e (k + 1) i (s :: l) q := by
  refine ⟨?_, h.2⟩
  rcases hs with ⟨h1, h2⟩ | ⟨h1, h2⟩
  · rw [xsp_key h1 h2, h.1]
  · rw [xsp_num h1 h2, h.1]
theorem xPC_back {e : Nat → Int} {k i q1 q : Nat} {s : Int} {l : List Int} (hs : (e i = 46 ∧ xsk 1 e (i + 1) = some (s, q1)) ∨ (e i = 91 ∧ xsn 1 e (i + 1) = some (s, q1))) (h : xPC e (k + 1) i l q) : ∃ l', xPC e k q1 l' q := by
  obtain ⟨h1, h2⟩ := h
  have e2 : xsp 1 e (k + 1) i = (match xsp 1 e k q1 with
    | none => none
    | some (l, r) => some (s :: l, r)) := by
    rcases hs with ⟨h3, h4⟩ | ⟨h3, h4⟩
    · exact xsp_key h3 h4
    · exact xsp_num h3 h4
  rw [e2] at h1
  cases h5 : xsp 1 e k q1 with
  | none => rw [h5] at h1; cases h1
  | some z =>
    obtain ⟨l', r⟩ := z
    rw [h5] at h1
    cases h1
    exact ⟨l', h5, h2⟩
theorem xPC_end {e : Nat → Int} {k i : Nat} (h : e i = 58) : xPC e k i [] i := by
  refine ⟨?_, h⟩
  cases k with
  | zero => rfl
  | succ k => rw [xsp, if_neg (by omega), if_neg (by omega)]
theorem xPC_no {e : Nat → Int} {k i q : Nat} {l : List Int} (h : ¬ e i = 58) (hk : k = 0 ∨ (¬ e i = 46 ∧ ¬ e i = 91)) (hp : xPC e k i l q) : False := by
  obtain ⟨h1, h2⟩ := hp
  cases k with
  | zero => cases h1; exact h h2
  | succ k =>
    rw [xsp, if_neg (by omega), if_neg (by omega)] at h1
    cases h1
    exact h h2
theorem mo_228a {w : Value} {d : Nat} {A : xb_H} {s : Nat → Int} {t : Nat → Nat → Int} {n : Nat} {f : Nat → Int} {Q : xb_R → xb_H → Prop} (hA : 194 ≤ A.1) (hx : xtx s t n f) : ∀ (k i m : Nat), m + k = 5 → i ≤ 1 + 3 * m → (∀ (l : List Int) (q : Nat), xPC (ye n f) k i l q → xr_ok (xt_G w) (d + 1 + 1 + 1) 228 43 [(1, .int (Int32.ofInt (400 + (q : Int)))), (0, .ref 165)] [] (ym A s t) Q) → ((¬ ∃ (l : List Int) (q : Nat), xPC (ye n f) k i l q) → Q (.inl (some (.int (Int32.ofInt 0)))) (ym A s t)) → xr_ok (xt_G w) (d + 1 + 1 + 1) 228 6 [(1, .int (Int32.ofInt (400 + (i : Int)))), (2, .int (Int32.ofInt (m : Int))), (0, .ref 165)] [] (ym A s t) Q := by
  intro k
  induction k using Nat.strongRecOn with
  | _ k ih =>
    intro i m hm hi h1 h2
    refine xr_steps (pc' := 8) (L' := [(1, .int (Int32.ofInt (400 + (i : Int)))), (2, .int (Int32.ofInt (m : Int))), (0, .ref 165)]) (st' := [.int (Int32.ofInt (400 + (i : Int))), .ref 165]) 2 rfl ?_
    refine xr_call (q := (.invokevirtual 103, 3, 209, 2)) (av := [.ref 165, .int (Int32.ofInt (400 + (i : Int)))]) (rest := []) rfl rfl (by decide) rfl (ym_rcv hA rfl) (Nat.le_of_ble_eq_true rfl) (mo_209t (i := i) hA hx (by omega) (by omega)) ?_
    rintro _ _ ⟨rfl, eA⟩
    rw [eA]
    clear eA
    have hx31 := xtx_ye hx i
    refine xr_steps (pc' := 13) (L' := [(1, .int (Int32.ofInt (400 + (i : Int)))), (2, .int (Int32.ofInt (m : Int))), (0, .ref 165)]) (st' := [.int (Int32.ofInt 58), .int (Int32.ofInt (xat n f i))]) 1 rfl ?_
    refine xr_icmp_eq rfl (by omega) (by omega) (fun z32 => ?_) (fun z32 => ?_)
    · refine xr_loc (L := [(1, .int (Int32.ofInt (400 + (i : Int)))), (0, .ref 165)]) (show [1, 0].Nodup by decide) ⟨rfl, rfl, trivial⟩ ?_
      exact h1 [] i (xPC_end (by omega))
    · refine xr_steps (pc' := 18) (L' := [(1, .int (Int32.ofInt (400 + (i : Int)))), (2, .int (Int32.ofInt (m : Int))), (0, .ref 165)]) (st' := [.int (Int32.ofInt 5), .int (Int32.ofInt (m : Int))]) 2 rfl ?_
      refine xr_icmp_ge rfl (by omega) (by omega) (fun z33 => ?_) (fun z33 => ?_)
      · refine xr_steps (pc' := 32) (L' := [(1, .int (Int32.ofInt (-1))), (2, .int (Int32.ofInt (m : Int))), (0, .ref 165)]) (st' := [.int (Int32.ofInt (-1))]) 3 rfl ?_
        refine xr_if_ge rfl (by omega) (fun z34 => ?_) (fun z34 => ?_)
        · exfalso; omega
        · refine xr_steps (pc' := 36) (L' := [(1, .int (Int32.ofInt (-1))), (2, .int (Int32.ofInt (m : Int))), (0, .ref 165)]) (st' := [.int (Int32.ofInt 0)]) 1 rfl ?_
          exact xr_retZ rfl rfl (by omega) (h2 (fun ⟨l, q, hp⟩ => xPC_no (by omega) (Or.inl (by omega)) hp))
      · refine xr_steps (pc' := 23) (L' := [(1, .int (Int32.ofInt (400 + (i : Int)))), (2, .int (Int32.ofInt (m : Int))), (0, .ref 165)]) (st' := [.int (Int32.ofInt (400 + (i : Int))), .ref 165]) 2 rfl ?_
        refine xr_call (q := (.invokevirtual 167, 3, 229, 2)) (av := [.ref 165, .int (Int32.ofInt (400 + (i : Int)))]) (rest := []) rfl rfl (by decide) rfl (ym_rcv hA rfl) (Nat.le_of_ble_eq_true rfl) (mo_229 hA hx (by omega)) ?_
        rintro _ _ ⟨r, ⟨rfl, eA⟩, hr⟩
        rw [eA]
        clear eA
        rcases hr with ⟨y1, ⟨sx, y2⟩, rfl⟩ | ⟨y1, ⟨sx, y2⟩, rfl⟩ | ⟨y1, y2, rfl⟩
        · refine xr_steps (pc' := 32) (L' := [(1, .int (Int32.ofInt (400 + (i : Int) + 2))), (2, .int (Int32.ofInt (m : Int))), (0, .ref 165)]) (st' := [.int (Int32.ofInt (400 + (i : Int) + 2))]) 3 rfl ?_
          refine xr_if_ge rfl (by omega) (fun z35 => ?_) (fun z35 => ?_)
          · refine xr_iinc (L' := [(2, .int (Int32.ofInt ((m : Int) + 1))), (1, .int (Int32.ofInt (400 + (i : Int) + 2))), (0, .ref 165)]) rfl rfl rfl ?_
            refine xr_steps (pc' := 6) (L' := [(2, .int (Int32.ofInt ((m : Int) + 1))), (1, .int (Int32.ofInt (400 + (i : Int) + 2))), (0, .ref 165)]) (st' := []) 1 rfl ?_
            refine xr_loc (L := [(1, .int (Int32.ofInt (400 + (i : Int) + 2))), (2, .int (Int32.ofInt ((m : Int) + 1))), (0, .ref 165)]) (show [1, 2, 0].Nodup by decide) ⟨rfl, rfl, rfl, trivial⟩ ?_
            obtain ⟨k, rfl⟩ : ∃ k0, k = k0 + 1 := ⟨k - 1, by omega⟩
            rw [show 400 + (i : Int) + 2 = 400 + ((i + 2 : Nat) : Int) by omega, show (m : Int) + 1 = ((m + 1 : Nat) : Int) by omega]
            refine ih k (by omega) (i + 2) (m + 1) (by omega) (by omega) (fun l q h => h1 (sx :: l) q (xPC_step (Or.inl ⟨y1, y2⟩) h)) (fun h => h2 (fun ⟨l, q, hp⟩ => ?_))
            obtain ⟨l', hp'⟩ := xPC_back (Or.inl ⟨y1, y2⟩) hp
            exact h ⟨l', q, hp'⟩
          · refine xr_steps (pc' := 36) (L' := [(1, .int (Int32.ofInt (400 + (i : Int) + 2))), (2, .int (Int32.ofInt (m : Int))), (0, .ref 165)]) (st' := [.int (Int32.ofInt 0)]) 1 rfl ?_
            exfalso; omega
        · refine xr_steps (pc' := 32) (L' := [(1, .int (Int32.ofInt (400 + (i : Int) + 3))), (2, .int (Int32.ofInt (m : Int))), (0, .ref 165)]) (st' := [.int (Int32.ofInt (400 + (i : Int) + 3))]) 3 rfl ?_
          refine xr_if_ge rfl (by omega) (fun z36 => ?_) (fun z36 => ?_)
          · refine xr_iinc (L' := [(2, .int (Int32.ofInt ((m : Int) + 1))), (1, .int (Int32.ofInt (400 + (i : Int) + 3))), (0, .ref 165)]) rfl rfl rfl ?_
            refine xr_steps (pc' := 6) (L' := [(2, .int (Int32.ofInt ((m : Int) + 1))), (1, .int (Int32.ofInt (400 + (i : Int) + 3))), (0, .ref 165)]) (st' := []) 1 rfl ?_
            refine xr_loc (L := [(1, .int (Int32.ofInt (400 + (i : Int) + 3))), (2, .int (Int32.ofInt ((m : Int) + 1))), (0, .ref 165)]) (show [1, 2, 0].Nodup by decide) ⟨rfl, rfl, rfl, trivial⟩ ?_
            obtain ⟨k, rfl⟩ : ∃ k0, k = k0 + 1 := ⟨k - 1, by omega⟩
            rw [show 400 + (i : Int) + 3 = 400 + ((i + 3 : Nat) : Int) by omega, show (m : Int) + 1 = ((m + 1 : Nat) : Int) by omega]
            refine ih k (by omega) (i + 3) (m + 1) (by omega) (by omega) (fun l q h => h1 (sx :: l) q (xPC_step (Or.inr ⟨y1, y2⟩) h)) (fun h => h2 (fun ⟨l, q, hp⟩ => ?_))
            obtain ⟨l', hp'⟩ := xPC_back (Or.inr ⟨y1, y2⟩) hp
            exact h ⟨l', q, hp'⟩
          · refine xr_steps (pc' := 36) (L' := [(1, .int (Int32.ofInt (400 + (i : Int) + 3))), (2, .int (Int32.ofInt (m : Int))), (0, .ref 165)]) (st' := [.int (Int32.ofInt 0)]) 1 rfl ?_
            exfalso; omega
        · refine xr_steps (pc' := 32) (L' := [(1, .int (Int32.ofInt (-1))), (2, .int (Int32.ofInt (m : Int))), (0, .ref 165)]) (st' := [.int (Int32.ofInt (-1))]) 3 rfl ?_
          refine xr_if_ge rfl (by omega) (fun z37 => ?_) (fun z37 => ?_)
          · exfalso; omega
          · refine xr_steps (pc' := 36) (L' := [(1, .int (Int32.ofInt (-1))), (2, .int (Int32.ofInt (m : Int))), (0, .ref 165)]) (st' := [.int (Int32.ofInt 0)]) 1 rfl ?_
            refine xr_retZ rfl rfl (by omega) (h2 (fun ⟨l, q, hp⟩ => ?_))
            obtain ⟨k, rfl⟩ : ∃ k0, k = k0 + 1 := ⟨k - 1, by omega⟩
            by_cases y46 : ye n f i = 46
            · have hn := y1 y46
              have h3 := hp.1
              rw [xsp, if_pos y46, hn] at h3
              cases h3
            · by_cases y91 : ye n f i = 91
              · have hn := y2 y91
                have h3 := hp.1
                rw [xsp, if_neg y46, if_pos y91, hn] at h3
                cases h3
              · exact xPC_no (by omega) (Or.inr ⟨y46, y91⟩) hp
/-- matchers behind p; sg the sign so far, 0 none -/
def xQS (n : Nat) (e : Nat → Int) (k p : Nat) (sg : Int) : Prop := ∃ ms, xmq n e (if sg = 0 then xs0 e (p + 1) else sg) k (p + 1) = some ms
section QS
variable {n : Nat} {f : Nat → Int} {k p q : Nat} {sg : Int} {m : Int × Int × List Int}
theorem xQS_none (h : xms (ye n f) (p + 1) = none) : ¬ xQS n (ye n f) k p sg := by
  rintro ⟨ms, e⟩
  cases k with
  | zero => cases e
  | succ k => rw [xmq, h] at e; cases e
theorem xQS_sg (hs : sg = 0 ∨ sg = 38 ∨ sg = 124) (h : xms (ye n f) (p + 1) = some (m, q)) : ((if sg = 0 then xs0 (ye n f) (p + 1) else sg) = 38 ∨ (if sg = 0 then xs0 (ye n f) (p + 1) else sg) = 124) ∧ ((if sg = 0 then xs0 (ye n f) (p + 1) else sg) = ye n f q ↔ ((ye n f q = 38 ∨ ye n f q = 124) ∧ (sg = 0 ∨ sg = ye n f q))) := by
  by_cases h0 : sg = 0
  · rw [if_pos h0]
    unfold xs0
    rw [h]
    show ((if ye n f q = 124 then (124 : Int) else 38) = 38 ∨ (if ye n f q = 124 then (124 : Int) else 38) = 124) ∧ ((if ye n f q = 124 then (124 : Int) else 38) = ye n f q ↔ _)
    by_cases h1 : ye n f q = 124
    · rw [if_pos h1]; omega
    · rw [if_neg h1]; omega
  · rw [if_neg h0]; omega
theorem xQS_end (hs : sg = 0 ∨ sg = 38 ∨ sg = 124) (h : xms (ye n f) (p + 1) = some (m, n)) : xQS n (ye n f) (k + 1) p sg := by
  have hq := (xQS_sg hs h).1
  have e0 : ye n f n = 0 := by unfold ye; rw [if_neg (by omega)]
  refine ⟨[m], ?_⟩
  rw [xmq, h]
  show (if ye n f n = _ then _ else if n = n then some [m] else none) = some [m]
  rw [if_neg (by omega), if_pos rfl]
theorem xQS_stop (hs : sg = 0 ∨ sg = 38 ∨ sg = 124) (h : xms (ye n f) (p + 1) = some (m, q)) (hq : ¬ q = n) (hn : ¬ ((ye n f q = 38 ∨ ye n f q = 124) ∧ (sg = 0 ∨ sg = ye n f q))) : ¬ xQS n (ye n f) k p sg := by
  rintro ⟨ms, e⟩
  cases k with
  | zero => cases e
  | succ k =>
    rw [xmq, h] at e
    have e2 : (if ye n f q = (if sg = 0 then xs0 (ye n f) (p + 1) else sg) then (match xmq n (ye n f) (if sg = 0 then xs0 (ye n f) (p + 1) else sg) k (q + 1) with
      | none => none
      | some l => some (m :: l)) else if q = n then some [m] else none) = some ms := e
    rw [if_neg (fun h2 => hn ((xQS_sg hs h).2.1 h2.symm)), if_neg hq] at e2
    cases e2
theorem xQS_more (hs : sg = 0 ∨ sg = 38 ∨ sg = 124) (h : xms (ye n f) (p + 1) = some (m, q)) (hn : (ye n f q = 38 ∨ ye n f q = 124) ∧ (sg = 0 ∨ sg = ye n f q)) : xQS n (ye n f) (k + 1) p sg ↔ xQS n (ye n f) k q (ye n f q) := by
  have hq := (xQS_sg hs h).2.2 hn
  unfold xQS
  rw [if_neg (show ¬ ye n f q = 0 by omega), hq, xmq, h]
  constructor
  · rintro ⟨ms, e⟩
    have e2 : (if ye n f q = ye n f q then (match xmq n (ye n f) (ye n f q) k (q + 1) with
      | none => none
      | some l => some (m :: l)) else if q = n then some [m] else none) = some ms := e
    rw [if_pos rfl] at e2
    cases h5 : xmq n (ye n f) (ye n f q) k (q + 1) with
    | none => rw [h5] at e2; cases e2
    | some l => exact ⟨l, rfl⟩
  · rintro ⟨l, e⟩
    refine ⟨m :: l, ?_⟩
    show (if ye n f q = ye n f q then (match xmq n (ye n f) (ye n f q) k (q + 1) with
      | none => none
      | some l => some (m :: l)) else if q = n then some [m] else none) = some (m :: l)
    rw [if_pos rfl, e]
end QS
theorem mo_228b {w : Value} {d : Nat} {A : xb_H} {s : Nat → Int} {t : Nat → Nat → Int} {n : Nat} {f : Nat → Int} {Q : xb_R → xb_H → Prop} (hA : 194 ≤ A.1) (hx : xtx s t n f) : ∀ (k p : Nat) (sg : Int), (sg = 0 ∨ sg = 38 ∨ sg = 124) → n ≤ p + k → p ≤ 120 → (∀ b : Int, ((b = 1 ∧ xQS n (ye n f) k p sg) ∨ (b = 0 ∧ ¬ xQS n (ye n f) k p sg)) → Q (.inl (some (.int (Int32.ofInt b)))) (ym A s t)) → xr_ok (xt_G w) (d + 1 + 1 + 1) 228 74 [(1, .int (Int32.ofInt (400 + (p : Int)))), (3, .int (Int32.ofInt sg)), (4, .int (Int32.ofInt (400 + (n : Int)))), (5, .int (Int32.ofInt 1)), (0, .ref 165)] [] (ym A s t) Q := by
  intro k
  induction k using Nat.strongRecOn with
  | _ k ih =>
    intro p sg hs hk hp hQ
    have hn100 := hx.2.1
    refine xr_steps (pc' := 76) (L' := [(1, .int (Int32.ofInt (400 + (p : Int)))), (3, .int (Int32.ofInt sg)), (4, .int (Int32.ofInt (400 + (n : Int)))), (5, .int (Int32.ofInt 1)), (0, .ref 165)]) (st' := [.int (Int32.ofInt 1)]) 1 rfl ?_
    refine xr_if_eq rfl (by omega) (fun z31 => ?_) (fun z31 => ?_)
    · exfalso; omega
    · refine xr_steps (pc' := 82) (L' := [(1, .int (Int32.ofInt (400 + (p : Int)))), (3, .int (Int32.ofInt sg)), (4, .int (Int32.ofInt (400 + (n : Int)))), (5, .int (Int32.ofInt 1)), (0, .ref 165)]) (st' := [.int (Int32.ofInt 1), .int (Int32.ofInt (400 + (p : Int))), .ref 165]) 3 rfl ?_
      refine xr_iadd rfl ?_
      rw [show 400 + (p : Int) + 1 = 400 + ((p + 1 : Nat) : Int) by omega]
      refine xr_call (q := (.invokevirtual 170, 3, 230, 2)) (av := [.ref 165, .int (Int32.ofInt (400 + ((p + 1 : Nat) : Int)))]) (rest := []) rfl rfl (by decide) rfl (ym_rcv hA rfl) (Nat.le_of_ble_eq_true rfl) (mo_230 (i := p + 1) hA hx (by omega)) ?_
      rintro _ _ ⟨r, ⟨rfl, eA⟩, hr⟩
      rw [eA]
      clear eA
      rcases hr with ⟨mm, qq, ym_, rfl⟩ | ⟨ym_, rfl⟩
      · have hq1 := xms_le ym_
        have hq2 := xms_lt ym_
        refine xr_steps (pc' := 88) (L' := [(1, .int (Int32.ofInt (400 + (qq : Int)))), (3, .int (Int32.ofInt sg)), (4, .int (Int32.ofInt (400 + (n : Int)))), (5, .int (Int32.ofInt 1)), (0, .ref 165)]) (st' := [.int (Int32.ofInt (400 + (qq : Int)))]) 2 rfl ?_
        refine xr_if_lt rfl (by omega) (fun z32 => ?_) (fun z32 => ?_)
        · refine xr_steps (pc' := 100) (L' := [(1, .int (Int32.ofInt (400 + (qq : Int)))), (3, .int (Int32.ofInt sg)), (4, .int (Int32.ofInt (400 + (n : Int)))), (5, .int (Int32.ofInt 1)), (0, .ref 165)]) (st' := [.int (Int32.ofInt (400 + (n : Int))), .int (Int32.ofInt (400 + (qq : Int)))]) 2 rfl ?_
          refine xr_icmp_ne rfl (by omega) (by omega) (fun z33 => ?_) (fun z33 => ?_)
          · refine xr_steps (pc' := 108) (L' := [(1, .int (Int32.ofInt (400 + (qq : Int)))), (3, .int (Int32.ofInt sg)), (4, .int (Int32.ofInt (400 + (n : Int)))), (5, .int (Int32.ofInt 1)), (0, .ref 165)]) (st' := [.int (Int32.ofInt 0)]) 1 rfl ?_
            exact xr_retZ rfl rfl (by omega) (hQ 0 (Or.inr ⟨rfl, xQS_stop hs ym_ (by omega) (by omega)⟩))
          · refine xr_steps (pc' := 108) (L' := [(1, .int (Int32.ofInt (400 + (qq : Int)))), (3, .int (Int32.ofInt sg)), (4, .int (Int32.ofInt (400 + (n : Int)))), (5, .int (Int32.ofInt 1)), (0, .ref 165)]) (st' := [.int (Int32.ofInt 1)]) 2 rfl ?_
            obtain rfl : qq = n := by omega
            obtain ⟨k, rfl⟩ : ∃ k0, k = k0 + 1 := ⟨k - 1, by omega⟩
            exact xr_retZ rfl rfl (by omega) (hQ 1 (Or.inl ⟨rfl, xQS_end hs ym_⟩))
        · refine xr_steps (pc' := 94) (L' := [(1, .int (Int32.ofInt (400 + (qq : Int)))), (3, .int (Int32.ofInt sg)), (4, .int (Int32.ofInt (400 + (n : Int)))), (5, .int (Int32.ofInt 1)), (0, .ref 165)]) (st' := [.int (Int32.ofInt (400 + (n : Int))), .int (Int32.ofInt (400 + (qq : Int)))]) 2 rfl ?_
          refine xr_icmp_ne rfl (by omega) (by omega) (fun z34 => ?_) (fun z34 => ?_)
          · refine xr_steps (pc' := 111) (L' := [(1, .int (Int32.ofInt (400 + (qq : Int)))), (3, .int (Int32.ofInt sg)), (4, .int (Int32.ofInt (400 + (n : Int)))), (5, .int (Int32.ofInt 1)), (0, .ref 165)]) (st' := [.int (Int32.ofInt (400 + (qq : Int))), .ref 165]) 2 rfl ?_
            refine xr_call (q := (.invokevirtual 103, 3, 209, 2)) (av := [.ref 165, .int (Int32.ofInt (400 + (qq : Int)))]) (rest := []) rfl rfl (by decide) rfl (ym_rcv hA rfl) (Nat.le_of_ble_eq_true rfl) (mo_209t (i := qq) hA hx (by omega) (by omega)) ?_
            rintro _ _ ⟨rfl, eA⟩
            rw [eA]
            clear eA
            have hx35 := xtx_ye hx qq
            refine xr_steps (pc' := 120) (L' := [(6, .int (Int32.ofInt (xat n f qq))), (1, .int (Int32.ofInt (400 + (qq : Int)))), (3, .int (Int32.ofInt sg)), (4, .int (Int32.ofInt (400 + (n : Int)))), (5, .int (Int32.ofInt 1)), (0, .ref 165)]) (st' := [.int (Int32.ofInt 38), .int (Int32.ofInt (xat n f qq))]) 3 rfl ?_
            refine xr_icmp_eq rfl (by omega) (by omega) (fun z36 => ?_) (fun z36 => ?_)
            · refine xr_steps (pc' := 131) (L' := [(6, .int (Int32.ofInt (xat n f qq))), (1, .int (Int32.ofInt (400 + (qq : Int)))), (3, .int (Int32.ofInt sg)), (4, .int (Int32.ofInt (400 + (n : Int)))), (5, .int (Int32.ofInt 1)), (0, .ref 165)]) (st' := [.int (Int32.ofInt sg)]) 1 rfl ?_
              refine xr_if_eq rfl (by omega) (fun z37 => ?_) (fun z37 => ?_)
              · refine xr_steps (pc' := 74) (L' := [(3, .int (Int32.ofInt (xat n f qq))), (5, .int (Int32.ofInt 1)), (6, .int (Int32.ofInt (xat n f qq))), (1, .int (Int32.ofInt (400 + (qq : Int)))), (4, .int (Int32.ofInt (400 + (n : Int)))), (0, .ref 165)]) (st' := []) 6 rfl ?_
                refine xr_loc (L := [(1, .int (Int32.ofInt (400 + (qq : Int)))), (3, .int (Int32.ofInt (xat n f qq))), (4, .int (Int32.ofInt (400 + (n : Int)))), (5, .int (Int32.ofInt 1)), (0, .ref 165)]) (show [1, 3, 4, 5, 0].Nodup by decide) ⟨rfl, rfl, rfl, rfl, rfl, trivial⟩ ?_
                obtain ⟨k, rfl⟩ : ∃ k0, k = k0 + 1 := ⟨k - 1, by omega⟩
                have hxq : xat n f qq = ye n f qq := by omega
                rw [hxq]
                refine ih k (by omega) qq (ye n f qq) (by omega) (by omega) (by omega) (fun b hb => hQ b ?_)
                rw [xQS_more hs ym_ (by omega)]
                exact hb
              · refine xr_steps (pc' := 137) (L' := [(6, .int (Int32.ofInt (xat n f qq))), (1, .int (Int32.ofInt (400 + (qq : Int)))), (3, .int (Int32.ofInt sg)), (4, .int (Int32.ofInt (400 + (n : Int)))), (5, .int (Int32.ofInt 1)), (0, .ref 165)]) (st' := [.int (Int32.ofInt (xat n f qq)), .int (Int32.ofInt sg)]) 2 rfl ?_
                refine xr_icmp_ne rfl (by omega) (by omega) (fun z38 => ?_) (fun z38 => ?_)
                · refine xr_steps (pc' := 74) (L' := [(3, .int (Int32.ofInt (xat n f qq))), (5, .int (Int32.ofInt 0)), (6, .int (Int32.ofInt (xat n f qq))), (1, .int (Int32.ofInt (400 + (qq : Int)))), (4, .int (Int32.ofInt (400 + (n : Int)))), (0, .ref 165)]) (st' := []) 5 rfl ?_
                  refine xr_steps (pc' := 76) (L' := [(3, .int (Int32.ofInt (xat n f qq))), (5, .int (Int32.ofInt 0)), (6, .int (Int32.ofInt (xat n f qq))), (1, .int (Int32.ofInt (400 + (qq : Int)))), (4, .int (Int32.ofInt (400 + (n : Int)))), (0, .ref 165)]) (st' := [.int (Int32.ofInt 0)]) 1 rfl ?_
                  refine xr_if_eq rfl (by omega) (fun z39 => ?_) (fun z39 => ?_)
                  · refine xr_steps (pc' := 154) (L' := [(3, .int (Int32.ofInt (xat n f qq))), (5, .int (Int32.ofInt 0)), (6, .int (Int32.ofInt (xat n f qq))), (1, .int (Int32.ofInt (400 + (qq : Int)))), (4, .int (Int32.ofInt (400 + (n : Int)))), (0, .ref 165)]) (st' := [.int (Int32.ofInt 0)]) 1 rfl ?_
                    exact xr_retZ rfl rfl (by omega) (hQ 0 (Or.inr ⟨rfl, xQS_stop hs ym_ (by omega) (by omega)⟩))
                  · exfalso; omega
                · refine xr_steps (pc' := 74) (L' := [(3, .int (Int32.ofInt (xat n f qq))), (5, .int (Int32.ofInt 1)), (6, .int (Int32.ofInt (xat n f qq))), (1, .int (Int32.ofInt (400 + (qq : Int)))), (4, .int (Int32.ofInt (400 + (n : Int)))), (0, .ref 165)]) (st' := []) 6 rfl ?_
                  refine xr_loc (L := [(1, .int (Int32.ofInt (400 + (qq : Int)))), (3, .int (Int32.ofInt (xat n f qq))), (4, .int (Int32.ofInt (400 + (n : Int)))), (5, .int (Int32.ofInt 1)), (0, .ref 165)]) (show [1, 3, 4, 5, 0].Nodup by decide) ⟨rfl, rfl, rfl, rfl, rfl, trivial⟩ ?_
                  obtain ⟨k, rfl⟩ : ∃ k0, k = k0 + 1 := ⟨k - 1, by omega⟩
                  have hxq : xat n f qq = ye n f qq := by omega
                  rw [hxq]
                  refine ih k (by omega) qq (ye n f qq) (by omega) (by omega) (by omega) (fun b hb => hQ b ?_)
                  rw [xQS_more hs ym_ (by omega)]
                  exact hb
            · refine xr_steps (pc' := 127) (L' := [(6, .int (Int32.ofInt (xat n f qq))), (1, .int (Int32.ofInt (400 + (qq : Int)))), (3, .int (Int32.ofInt sg)), (4, .int (Int32.ofInt (400 + (n : Int)))), (5, .int (Int32.ofInt 1)), (0, .ref 165)]) (st' := [.int (Int32.ofInt 124), .int (Int32.ofInt (xat n f qq))]) 2 rfl ?_
              refine xr_icmp_ne rfl (by omega) (by omega) (fun z40 => ?_) (fun z40 => ?_)
              · refine xr_steps (pc' := 74) (L' := [(3, .int (Int32.ofInt (xat n f qq))), (5, .int (Int32.ofInt 0)), (6, .int (Int32.ofInt (xat n f qq))), (1, .int (Int32.ofInt (400 + (qq : Int)))), (4, .int (Int32.ofInt (400 + (n : Int)))), (0, .ref 165)]) (st' := []) 5 rfl ?_
                refine xr_steps (pc' := 76) (L' := [(3, .int (Int32.ofInt (xat n f qq))), (5, .int (Int32.ofInt 0)), (6, .int (Int32.ofInt (xat n f qq))), (1, .int (Int32.ofInt (400 + (qq : Int)))), (4, .int (Int32.ofInt (400 + (n : Int)))), (0, .ref 165)]) (st' := [.int (Int32.ofInt 0)]) 1 rfl ?_
                refine xr_if_eq rfl (by omega) (fun z41 => ?_) (fun z41 => ?_)
                · refine xr_steps (pc' := 154) (L' := [(3, .int (Int32.ofInt (xat n f qq))), (5, .int (Int32.ofInt 0)), (6, .int (Int32.ofInt (xat n f qq))), (1, .int (Int32.ofInt (400 + (qq : Int)))), (4, .int (Int32.ofInt (400 + (n : Int)))), (0, .ref 165)]) (st' := [.int (Int32.ofInt 0)]) 1 rfl ?_
                  exact xr_retZ rfl rfl (by omega) (hQ 0 (Or.inr ⟨rfl, xQS_stop hs ym_ (by omega) (by omega)⟩))
                · exfalso; omega
              · refine xr_steps (pc' := 131) (L' := [(6, .int (Int32.ofInt (xat n f qq))), (1, .int (Int32.ofInt (400 + (qq : Int)))), (3, .int (Int32.ofInt sg)), (4, .int (Int32.ofInt (400 + (n : Int)))), (5, .int (Int32.ofInt 1)), (0, .ref 165)]) (st' := [.int (Int32.ofInt sg)]) 1 rfl ?_
                refine xr_if_eq rfl (by omega) (fun z42 => ?_) (fun z42 => ?_)
                · refine xr_steps (pc' := 74) (L' := [(3, .int (Int32.ofInt (xat n f qq))), (5, .int (Int32.ofInt 1)), (6, .int (Int32.ofInt (xat n f qq))), (1, .int (Int32.ofInt (400 + (qq : Int)))), (4, .int (Int32.ofInt (400 + (n : Int)))), (0, .ref 165)]) (st' := []) 6 rfl ?_
                  refine xr_loc (L := [(1, .int (Int32.ofInt (400 + (qq : Int)))), (3, .int (Int32.ofInt (xat n f qq))), (4, .int (Int32.ofInt (400 + (n : Int)))), (5, .int (Int32.ofInt 1)), (0, .ref 165)]) (show [1, 3, 4, 5, 0].Nodup by decide) ⟨rfl, rfl, rfl, rfl, rfl, trivial⟩ ?_
                  obtain ⟨k, rfl⟩ : ∃ k0, k = k0 + 1 := ⟨k - 1, by omega⟩
                  have hxq : xat n f qq = ye n f qq := by omega
                  rw [hxq]
                  refine ih k (by omega) qq (ye n f qq) (by omega) (by omega) (by omega) (fun b hb => hQ b ?_)
                  rw [xQS_more hs ym_ (by omega)]
                  exact hb
                · refine xr_steps (pc' := 137) (L' := [(6, .int (Int32.ofInt (xat n f qq))), (1, .int (Int32.ofInt (400 + (qq : Int)))), (3, .int (Int32.ofInt sg)), (4, .int (Int32.ofInt (400 + (n : Int)))), (5, .int (Int32.ofInt 1)), (0, .ref 165)]) (st' := [.int (Int32.ofInt (xat n f qq)), .int (Int32.ofInt sg)]) 2 rfl ?_
                  refine xr_icmp_ne rfl (by omega) (by omega) (fun z43 => ?_) (fun z43 => ?_)
                  · refine xr_steps (pc' := 74) (L' := [(3, .int (Int32.ofInt (xat n f qq))), (5, .int (Int32.ofInt 0)), (6, .int (Int32.ofInt (xat n f qq))), (1, .int (Int32.ofInt (400 + (qq : Int)))), (4, .int (Int32.ofInt (400 + (n : Int)))), (0, .ref 165)]) (st' := []) 5 rfl ?_
                    refine xr_steps (pc' := 76) (L' := [(3, .int (Int32.ofInt (xat n f qq))), (5, .int (Int32.ofInt 0)), (6, .int (Int32.ofInt (xat n f qq))), (1, .int (Int32.ofInt (400 + (qq : Int)))), (4, .int (Int32.ofInt (400 + (n : Int)))), (0, .ref 165)]) (st' := [.int (Int32.ofInt 0)]) 1 rfl ?_
                    refine xr_if_eq rfl (by omega) (fun z44 => ?_) (fun z44 => ?_)
                    · refine xr_steps (pc' := 154) (L' := [(3, .int (Int32.ofInt (xat n f qq))), (5, .int (Int32.ofInt 0)), (6, .int (Int32.ofInt (xat n f qq))), (1, .int (Int32.ofInt (400 + (qq : Int)))), (4, .int (Int32.ofInt (400 + (n : Int)))), (0, .ref 165)]) (st' := [.int (Int32.ofInt 0)]) 1 rfl ?_
                      exact xr_retZ rfl rfl (by omega) (hQ 0 (Or.inr ⟨rfl, xQS_stop hs ym_ (by omega) (by omega)⟩))
                    · exfalso; omega
                  · refine xr_steps (pc' := 74) (L' := [(3, .int (Int32.ofInt (xat n f qq))), (5, .int (Int32.ofInt 1)), (6, .int (Int32.ofInt (xat n f qq))), (1, .int (Int32.ofInt (400 + (qq : Int)))), (4, .int (Int32.ofInt (400 + (n : Int)))), (0, .ref 165)]) (st' := []) 6 rfl ?_
                    refine xr_loc (L := [(1, .int (Int32.ofInt (400 + (qq : Int)))), (3, .int (Int32.ofInt (xat n f qq))), (4, .int (Int32.ofInt (400 + (n : Int)))), (5, .int (Int32.ofInt 1)), (0, .ref 165)]) (show [1, 3, 4, 5, 0].Nodup by decide) ⟨rfl, rfl, rfl, rfl, rfl, trivial⟩ ?_
                    obtain ⟨k, rfl⟩ : ∃ k0, k = k0 + 1 := ⟨k - 1, by omega⟩
                    have hxq : xat n f qq = ye n f qq := by omega
                    rw [hxq]
                    refine ih k (by omega) qq (ye n f qq) (by omega) (by omega) (by omega) (fun b hb => hQ b ?_)
                    rw [xQS_more hs ym_ (by omega)]
                    exact hb
          · refine xr_steps (pc' := 100) (L' := [(1, .int (Int32.ofInt (400 + (qq : Int)))), (3, .int (Int32.ofInt sg)), (4, .int (Int32.ofInt (400 + (n : Int)))), (5, .int (Int32.ofInt 1)), (0, .ref 165)]) (st' := [.int (Int32.ofInt (400 + (n : Int))), .int (Int32.ofInt (400 + (qq : Int)))]) 2 rfl ?_
            refine xr_icmp_ne rfl (by omega) (by omega) (fun z45 => ?_) (fun z45 => ?_)
            · refine xr_steps (pc' := 108) (L' := [(1, .int (Int32.ofInt (400 + (qq : Int)))), (3, .int (Int32.ofInt sg)), (4, .int (Int32.ofInt (400 + (n : Int)))), (5, .int (Int32.ofInt 1)), (0, .ref 165)]) (st' := [.int (Int32.ofInt 0)]) 1 rfl ?_
              exact xr_retZ rfl rfl (by omega) (hQ 0 (Or.inr ⟨rfl, xQS_stop hs ym_ (by omega) (by omega)⟩))
            · refine xr_steps (pc' := 108) (L' := [(1, .int (Int32.ofInt (400 + (qq : Int)))), (3, .int (Int32.ofInt sg)), (4, .int (Int32.ofInt (400 + (n : Int)))), (5, .int (Int32.ofInt 1)), (0, .ref 165)]) (st' := [.int (Int32.ofInt 1)]) 2 rfl ?_
              obtain rfl : qq = n := by omega
              obtain ⟨k, rfl⟩ : ∃ k0, k = k0 + 1 := ⟨k - 1, by omega⟩
              exact xr_retZ rfl rfl (by omega) (hQ 1 (Or.inl ⟨rfl, xQS_end hs ym_⟩))
      · refine xr_steps (pc' := 88) (L' := [(1, .int (Int32.ofInt (-1))), (3, .int (Int32.ofInt sg)), (4, .int (Int32.ofInt (400 + (n : Int)))), (5, .int (Int32.ofInt 1)), (0, .ref 165)]) (st' := [.int (Int32.ofInt (-1))]) 2 rfl ?_
        refine xr_if_lt rfl (by omega) (fun z46 => ?_) (fun z46 => ?_)
        · refine xr_steps (pc' := 100) (L' := [(1, .int (Int32.ofInt (-1))), (3, .int (Int32.ofInt sg)), (4, .int (Int32.ofInt (400 + (n : Int)))), (5, .int (Int32.ofInt 1)), (0, .ref 165)]) (st' := [.int (Int32.ofInt (400 + (n : Int))), .int (Int32.ofInt (-1))]) 2 rfl ?_
          refine xr_icmp_ne rfl (by omega) (by omega) (fun z47 => ?_) (fun z47 => ?_)
          · refine xr_steps (pc' := 108) (L' := [(1, .int (Int32.ofInt (-1))), (3, .int (Int32.ofInt sg)), (4, .int (Int32.ofInt (400 + (n : Int)))), (5, .int (Int32.ofInt 1)), (0, .ref 165)]) (st' := [.int (Int32.ofInt 0)]) 1 rfl ?_
            exact xr_retZ rfl rfl (by omega) (hQ 0 (Or.inr ⟨rfl, xQS_none ym_⟩))
          · refine xr_steps (pc' := 108) (L' := [(1, .int (Int32.ofInt (-1))), (3, .int (Int32.ofInt sg)), (4, .int (Int32.ofInt (400 + (n : Int)))), (5, .int (Int32.ofInt 1)), (0, .ref 165)]) (st' := [.int (Int32.ofInt 1)]) 2 rfl ?_
            exfalso; omega
        · exfalso; omega
theorem mo_228 {w : Value} {d : Nat} {A : xb_H} {s : Nat → Int} {t : Nat → Nat → Int} {n : Nat} {f : Nat → Int} (hA : 194 ≤ A.1) (hx : xtx s t n f) : xr_ok (xt_G w) (d + 1 + 1 + 1) 228 0 [(0, .ref 165)] [] (ym A s t) (fun o A' => ∃ v0, o = .inl v0 ∧ ∃ b : Int, (v0 = some (.int (Int32.ofInt b)) ∧ A' = ym A s t) ∧ ((b = 1 ∧ ∃ (ps : List Int) (ms : List (Int × Int × List Int)) (sp : Int), xRU n f ps ms sp) ∨ (b = 0 ∧ ¬ ∃ (ps : List Int) (ms : List (Int × Int × List Int)) (sp : Int), xRU n f ps ms sp))) := by
  have hs2 := hx.1
  have hn100 := hx.2.1
  refine xr_steps (pc' := 6) (L' := [(2, .int (Int32.ofInt 0)), (1, .int (Int32.ofInt 401)), (0, .ref 165)]) (st' := []) 4 rfl ?_
  refine xr_loc (L := [(1, .int (Int32.ofInt 401)), (2, .int (Int32.ofInt 0)), (0, .ref 165)]) (show [1, 2, 0].Nodup by decide) ⟨rfl, rfl, rfl, trivial⟩ ?_
  rw [show Int32.ofInt 0 = Int32.ofInt ((0 : Nat) : Int) from rfl, show Int32.ofInt 401 = Int32.ofInt (400 + ((1 : Nat) : Int)) from rfl]
  refine mo_228a hA hx 5 1 0 (by omega) (by omega) (fun l q hp => ?_) (fun hno => ⟨_, rfl, 0, ⟨rfl, rfl⟩, Or.inr ⟨rfl, fun ⟨ps, ms, sp, q, e1, e2, e3, e4⟩ => hno ⟨ps, q, e2, e3⟩⟩⟩)
  have hql : q < n := ye_in (f := f) (by have := hp.2; omega)
  refine xr_steps (pc' := 49) (L' := [(3, .int (Int32.ofInt 0)), (1, .int (Int32.ofInt (400 + (q : Int)))), (0, .ref 165)]) (st' := [.ref 165, .int (Int32.ofInt 400)]) 4 rfl ?_
  refine xr_getf (v := .int (Int32.ofInt (s 2))) rfl (ym_165 hA) rfl ?_
  refine xr_iadd rfl ?_
  refine xr_steps (pc' := 59) (L' := [(4, .int (Int32.ofInt (400 + (s 2)))), (3, .int (Int32.ofInt 0)), (1, .int (Int32.ofInt (400 + (q : Int)))), (0, .ref 165)]) (st' := [.int (Int32.ofInt 400), .ref 165]) 3 rfl ?_
  refine xr_call (q := (.invokevirtual 103, 3, 209, 2)) (av := [.ref 165, .int (Int32.ofInt 400)]) (rest := []) rfl rfl (by decide) rfl (ym_rcv hA rfl) (Nat.le_of_ble_eq_true rfl) (mo_209t (i := 0) hA hx (by omega) (by omega)) ?_
  rintro _ _ ⟨rfl, eA⟩
  rw [eA]
  clear eA
  have hx31 := xtx_ye hx 0
  refine xr_steps (pc' := 64) (L' := [(4, .int (Int32.ofInt (400 + (s 2)))), (3, .int (Int32.ofInt 0)), (1, .int (Int32.ofInt (400 + (q : Int)))), (0, .ref 165)]) (st' := [.int (Int32.ofInt 36), .int (Int32.ofInt (xat n f 0))]) 1 rfl ?_
  refine xr_icmp_ne rfl (by omega) (by omega) (fun z32 => ?_) (fun z32 => ?_)
  · refine xr_steps (pc' := 74) (L' := [(5, .int (Int32.ofInt 0)), (4, .int (Int32.ofInt (400 + (s 2)))), (3, .int (Int32.ofInt 0)), (1, .int (Int32.ofInt (400 + (q : Int)))), (0, .ref 165)]) (st' := []) 2 rfl ?_
    refine xr_loc (L := [(1, .int (Int32.ofInt (400 + (q : Int)))), (3, .int (Int32.ofInt 0)), (4, .int (Int32.ofInt (400 + (s 2)))), (5, .int (Int32.ofInt 0)), (0, .ref 165)]) (show [1, 3, 4, 5, 0].Nodup by decide) ⟨rfl, rfl, rfl, rfl, rfl, trivial⟩ ?_
    refine xr_steps (pc' := 76) (L' := [(1, .int (Int32.ofInt (400 + (q : Int)))), (3, .int (Int32.ofInt 0)), (4, .int (Int32.ofInt (400 + (s 2)))), (5, .int (Int32.ofInt 0)), (0, .ref 165)]) (st' := [.int (Int32.ofInt 0)]) 1 rfl ?_
    refine xr_if_eq rfl (by omega) (fun z33 => ?_) (fun z33 => ?_)
    · refine xr_steps (pc' := 154) (L' := [(1, .int (Int32.ofInt (400 + (q : Int)))), (3, .int (Int32.ofInt 0)), (4, .int (Int32.ofInt (400 + (s 2)))), (5, .int (Int32.ofInt 0)), (0, .ref 165)]) (st' := [.int (Int32.ofInt 0)]) 1 rfl ?_
      exact xr_retZ rfl rfl (by omega) ⟨_, rfl, 0, ⟨rfl, rfl⟩, Or.inr ⟨rfl, fun ⟨ps, ms, sp, q, e1, e2⟩ => by omega⟩⟩
    · exfalso; omega
  · refine xr_steps (pc' := 74) (L' := [(5, .int (Int32.ofInt 1)), (4, .int (Int32.ofInt (400 + (s 2)))), (3, .int (Int32.ofInt 0)), (1, .int (Int32.ofInt (400 + (q : Int)))), (0, .ref 165)]) (st' := []) 3 rfl ?_
    refine xr_loc (L := [(1, .int (Int32.ofInt (400 + (q : Int)))), (3, .int (Int32.ofInt 0)), (4, .int (Int32.ofInt (400 + (s 2)))), (5, .int (Int32.ofInt 1)), (0, .ref 165)]) (show [1, 3, 4, 5, 0].Nodup by decide) ⟨rfl, rfl, rfl, rfl, rfl, trivial⟩ ?_
    rw [hs2]
    refine mo_228b hA hx 100 q 0 (by omega) (by omega) (by omega) (fun b hb => ⟨_, rfl, b, ⟨rfl, rfl⟩, ?_⟩)
    have h0 : ye n f 0 = 36 := by omega
    rcases hb with ⟨e1, ms, e2⟩ | ⟨e1, e2⟩
    · rw [if_pos rfl] at e2
      exact Or.inl ⟨e1, l, ms, _, q, h0, hp.1, hp.2, rfl, e2⟩
    · refine Or.inr ⟨e1, ?_⟩
      rintro ⟨ps, ms, sp, q', f1, f2, f3, f4, f5⟩
      have hu := hp.1
      rw [f2] at hu
      cases hu
      refine e2 ⟨ms, ?_⟩
      rw [if_pos rfl, ← f4]
      exact f5
