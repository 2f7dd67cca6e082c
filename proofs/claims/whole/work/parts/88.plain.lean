/-! Bits -/
def xbt (x : Int32) (j : Nat) : Bool := x.toBitVec.getLsbD j
theorem xbt_amt : ∀ j : Nat, j < 31 → ((Int32.ofInt (j : Int) &&& 31).toBitVec.smod 32).toNat = j := by decide +kernel
theorem xbt_get (x : Int32) {j : Nat} (hj : j < 31) : (x >>> (Int32.ofInt (j : Int) &&& 31)) &&& Int32.ofInt 1 = Int32.ofInt (if xbt x j = true then 1 else 0) := by
  have h := xbt_amt j hj
  have e : ((x >>> (Int32.ofInt (j : Int) &&& 31)) &&& Int32.ofInt 1).toBitVec = (x.toBitVec.sshiftRight j) &&& 1#32 := by
    rw [Int32.toBitVec_and, Int32.toBitVec_shiftRight]
    show (BitVec.sshiftRight' _ _) &&& 1#32 = _
    unfold BitVec.sshiftRight'
    rw [h]
  apply Int32.toBitVec_inj.mp
  rw [e]
  apply BitVec.eq_of_getLsbD_eq
  intro i hi
  rw [BitVec.getLsbD_and, BitVec.getLsbD_one]
  unfold xbt
  cases hb : x.toBitVec.getLsbD j
  · rw [if_neg (by decide)]
    show _ = (0#32).getLsbD i
    rw [BitVec.getLsbD_zero]
    by_cases h0 : i = 0
    · subst h0
      rw [BitVec.getLsbD_sshiftRight]
      simp [hb]
      omega
    · simp [h0]
  · rw [if_pos rfl]
    show _ = (1#32).getLsbD i
    rw [BitVec.getLsbD_one]
    by_cases h0 : i = 0
    · subst h0
      rw [BitVec.getLsbD_sshiftRight]
      simp [hb]
      omega
    · simp [h0]
theorem xbt_or (x : Int32) {j : Nat} (hj : j < 31) (i : Nat) (hi : i < 31) : xbt (x ||| (Int32.ofInt 1 <<< (Int32.ofInt (j : Int) &&& 31))) i = (xbt x i || decide (i = j)) := by
  have h := xbt_amt j hj
  unfold xbt
  rw [Int32.toBitVec_or, Int32.toBitVec_shiftLeft, BitVec.getLsbD_or]
  congr 1
  rw [BitVec.shiftLeft_eq', h, BitVec.getLsbD_shiftLeft]
  show (decide (i < 32) && !decide (i < j) && (1#32).getLsbD (i - j)) = _
  rw [BitVec.getLsbD_one]
  by_cases e : i = j
  · subst e
    simp
    omega
  · simp [e]
    omega
theorem xbt_zero (i : Nat) : xbt (Int32.ofInt 0) i = false := by
  show (0#32).getLsbD i = false
  exact BitVec.getLsbD_zero
/-! The reference reads plain values -/
/-- the text as the reference asks for it: a blank behind its end -/
def xat (n : Nat) (f : Nat → Int) (i : Nat) : Int := if i < n then f i else 32
/-- the reference's text: n characters f -/
def xtx (s : Nat → Int) (t : Nat → Nat → Int) (n : Nat) (f : Nat → Int) : Prop := s 2 = (n : Int) ∧ n ≤ 100 ∧ (∀ j : Nat, 0 ≤ t 166 j ∧ t 166 j ≤ 127) ∧ ∀ j : Nat, j < n → t 166 (400 + j) = f j ∧ 32 ≤ f j ∧ f j ≤ 126
theorem xat_ye {n : Nat} {f : Nat → Int} (hf : ∀ j : Nat, j < n → 32 ≤ f j ∧ f j ≤ 126) (i : Nat) : (i < n ∧ xat n f i = ye n f i ∧ 32 ≤ xat n f i ∧ xat n f i ≤ 126) ∨ (n ≤ i ∧ xat n f i = 32 ∧ ye n f i = 0) := by
  unfold xat ye
  by_cases h : i < n
  · rw [if_pos h, if_pos h]
    exact Or.inl ⟨h, rfl, hf i h⟩
  · rw [if_neg h, if_neg h]
    exact Or.inr ⟨by omega, rfl, rfl⟩
theorem xtx_ye {s : Nat → Int} {t : Nat → Nat → Int} {n : Nat} {f : Nat → Int} (h : xtx s t n f) (i : Nat) : (i < n ∧ xat n f i = ye n f i ∧ 32 ≤ xat n f i ∧ xat n f i ≤ 126) ∨ (n ≤ i ∧ xat n f i = 32 ∧ ye n f i = 0) := xat_ye (fun j hj => (h.2.2.2 j hj).2) i
theorem mo_209t {w : Value} {d : Nat} {A : xb_H} {s : Nat → Int} {t : Nat → Nat → Int} {p : Int} {i n : Nat} {f : Nat → Int} (hA : 194 ≤ A.1) (hx : xtx s t n f) (hp : p = 400 + (i : Int)) (hi : i ≤ 2000) : xr_ok (xt_G w) d 209 0 [(0, .ref 165), (1, .int (Int32.ofInt p))] [] (ym A s t) (fun o A' => ∃ v0, o = .inl v0 ∧ v0 = some (.int (Int32.ofInt (xat n f i))) ∧ A' = ym A s t) := by
  obtain ⟨h1, h2, h3, h4⟩ := hx
  have e : mo_at s t p = xat n f i := by
    unfold mo_at xat
    by_cases h : i < n
    · rw [if_pos (by omega), if_pos h, ← (h4 i h).1]
      congr 1
      omega
    · rw [if_neg (by omega), if_neg h]
  rw [← e]
  exact mo_209 hA (by omega) (by omega) (fun j _ => by have := h3 j; omega)
theorem mo_212 {w : Value} {d : Nat} {A : xb_H} {s : Nat → Int} {t : Nat → Nat → Int} {i n : Nat} {f : Nat → Int} {c1 c2 c3 c4 : Int} (hA : 194 ≤ A.1) (hx : xtx s t n f) (hi : i ≤ 1000) (hc1 : 97 ≤ c1 ∧ c1 ≤ 122) (hc2 : 97 ≤ c2 ∧ c2 ≤ 122) (hc3 : 97 ≤ c3 ∧ c3 ≤ 122) (hc4 : 97 ≤ c4 ∧ c4 ≤ 122) {b : Int} (hb : (b = 1 ∧ (ye n f i = c1 ∧ ye n f (i + 1) = c2 ∧ ye n f (i + 2) = c3 ∧ ye n f (i + 3) = c4)) ∨ (b = 0 ∧ ¬ (ye n f i = c1 ∧ ye n f (i + 1) = c2 ∧ ye n f (i + 2) = c3 ∧ ye n f (i + 3) = c4))) : xr_ok (xt_G w) (d + 1) 212 0 [(0, .ref 165), (1, .int (Int32.ofInt (400 + (i : Int)))), (2, .int (Int32.ofInt c1)), (3, .int (Int32.ofInt c2)), (4, .int (Int32.ofInt c3)), (5, .int (Int32.ofInt c4))] [] (ym A s t) (fun o A' => ∃ v0, o = .inl v0 ∧ v0 = some (.int (Int32.ofInt b)) ∧ A' = ym A s t) := by
  refine xr_steps (pc' := 2) (L' := [(0, .ref 165), (1, .int (Int32.ofInt (400 + (i : Int)))), (2, .int (Int32.ofInt c1)), (3, .int (Int32.ofInt c2)), (4, .int (Int32.ofInt c3)), (5, .int (Int32.ofInt c4))]) (st' := [.int (Int32.ofInt (400 + (i : Int))), .ref 165]) 2 rfl ?_
  refine xr_call (q := (.invokevirtual 103, 3, 209, 2)) (av := [.ref 165, .int (Int32.ofInt (400 + (i : Int)))]) (rest := []) rfl rfl (by decide) rfl (ym_rcv hA rfl) (Nat.le_of_ble_eq_true rfl) (mo_209t (i := i) hA hx (by omega) (by omega)) ?_
  rintro _ _ ⟨rfl, eA⟩
  rw [eA]
  clear eA
  have hx31 := xtx_ye hx i
  refine xr_steps (pc' := 6) (L' := [(0, .ref 165), (1, .int (Int32.ofInt (400 + (i : Int)))), (2, .int (Int32.ofInt c1)), (3, .int (Int32.ofInt c2)), (4, .int (Int32.ofInt c3)), (5, .int (Int32.ofInt c4))]) (st' := [.int (Int32.ofInt c1), .int (Int32.ofInt (xat n f i))]) 1 rfl ?_
  refine xr_icmp_ne rfl (by omega) (by omega) (fun z32 => ?_) (fun z32 => ?_)
  · refine xr_steps (pc' := 49) (L' := [(0, .ref 165), (1, .int (Int32.ofInt (400 + (i : Int)))), (2, .int (Int32.ofInt c1)), (3, .int (Int32.ofInt c2)), (4, .int (Int32.ofInt c3)), (5, .int (Int32.ofInt c4))]) (st' := [.int (Int32.ofInt 0)]) 1 rfl ?_
    obtain rfl : b = 0 := by omega
    exact xr_retZ rfl rfl (by omega) ⟨_, rfl, rfl, rfl⟩
  · refine xr_steps (pc' := 12) (L' := [(0, .ref 165), (1, .int (Int32.ofInt (400 + (i : Int)))), (2, .int (Int32.ofInt c1)), (3, .int (Int32.ofInt c2)), (4, .int (Int32.ofInt c3)), (5, .int (Int32.ofInt c4))]) (st' := [.int (Int32.ofInt 1), .int (Int32.ofInt (400 + (i : Int))), .ref 165]) 3 rfl ?_
    refine xr_iadd rfl ?_
    refine xr_call (q := (.invokevirtual 103, 3, 209, 2)) (av := [.ref 165, .int (Int32.ofInt ((400 + (i : Int)) + 1))]) (rest := []) rfl rfl (by decide) rfl (ym_rcv hA rfl) (Nat.le_of_ble_eq_true rfl) (mo_209t (i := i + 1) hA hx (by omega) (by omega)) ?_
    rintro _ _ ⟨rfl, eA⟩
    rw [eA]
    clear eA
    have hx33 := xtx_ye hx (i + 1)
    refine xr_steps (pc' := 17) (L' := [(0, .ref 165), (1, .int (Int32.ofInt (400 + (i : Int)))), (2, .int (Int32.ofInt c1)), (3, .int (Int32.ofInt c2)), (4, .int (Int32.ofInt c3)), (5, .int (Int32.ofInt c4))]) (st' := [.int (Int32.ofInt c2), .int (Int32.ofInt (xat n f (i + 1)))]) 1 rfl ?_
    refine xr_icmp_ne rfl (by omega) (by omega) (fun z34 => ?_) (fun z34 => ?_)
    · refine xr_steps (pc' := 49) (L' := [(0, .ref 165), (1, .int (Int32.ofInt (400 + (i : Int)))), (2, .int (Int32.ofInt c1)), (3, .int (Int32.ofInt c2)), (4, .int (Int32.ofInt c3)), (5, .int (Int32.ofInt c4))]) (st' := [.int (Int32.ofInt 0)]) 1 rfl ?_
      obtain rfl : b = 0 := by omega
      exact xr_retZ rfl rfl (by omega) ⟨_, rfl, rfl, rfl⟩
    · refine xr_steps (pc' := 23) (L' := [(0, .ref 165), (1, .int (Int32.ofInt (400 + (i : Int)))), (2, .int (Int32.ofInt c1)), (3, .int (Int32.ofInt c2)), (4, .int (Int32.ofInt c3)), (5, .int (Int32.ofInt c4))]) (st' := [.int (Int32.ofInt 2), .int (Int32.ofInt (400 + (i : Int))), .ref 165]) 3 rfl ?_
      refine xr_iadd rfl ?_
      refine xr_call (q := (.invokevirtual 103, 3, 209, 2)) (av := [.ref 165, .int (Int32.ofInt ((400 + (i : Int)) + 2))]) (rest := []) rfl rfl (by decide) rfl (ym_rcv hA rfl) (Nat.le_of_ble_eq_true rfl) (mo_209t (i := i + 2) hA hx (by omega) (by omega)) ?_
      rintro _ _ ⟨rfl, eA⟩
      rw [eA]
      clear eA
      have hx35 := xtx_ye hx (i + 2)
      refine xr_steps (pc' := 29) (L' := [(0, .ref 165), (1, .int (Int32.ofInt (400 + (i : Int)))), (2, .int (Int32.ofInt c1)), (3, .int (Int32.ofInt c2)), (4, .int (Int32.ofInt c3)), (5, .int (Int32.ofInt c4))]) (st' := [.int (Int32.ofInt c3), .int (Int32.ofInt (xat n f (i + 2)))]) 1 rfl ?_
      refine xr_icmp_ne rfl (by omega) (by omega) (fun z36 => ?_) (fun z36 => ?_)
      · refine xr_steps (pc' := 49) (L' := [(0, .ref 165), (1, .int (Int32.ofInt (400 + (i : Int)))), (2, .int (Int32.ofInt c1)), (3, .int (Int32.ofInt c2)), (4, .int (Int32.ofInt c3)), (5, .int (Int32.ofInt c4))]) (st' := [.int (Int32.ofInt 0)]) 1 rfl ?_
        obtain rfl : b = 0 := by omega
        exact xr_retZ rfl rfl (by omega) ⟨_, rfl, rfl, rfl⟩
      · refine xr_steps (pc' := 35) (L' := [(0, .ref 165), (1, .int (Int32.ofInt (400 + (i : Int)))), (2, .int (Int32.ofInt c1)), (3, .int (Int32.ofInt c2)), (4, .int (Int32.ofInt c3)), (5, .int (Int32.ofInt c4))]) (st' := [.int (Int32.ofInt 3), .int (Int32.ofInt (400 + (i : Int))), .ref 165]) 3 rfl ?_
        refine xr_iadd rfl ?_
        refine xr_call (q := (.invokevirtual 103, 3, 209, 2)) (av := [.ref 165, .int (Int32.ofInt ((400 + (i : Int)) + 3))]) (rest := []) rfl rfl (by decide) rfl (ym_rcv hA rfl) (Nat.le_of_ble_eq_true rfl) (mo_209t (i := i + 3) hA hx (by omega) (by omega)) ?_
        rintro _ _ ⟨rfl, eA⟩
        rw [eA]
        clear eA
        have hx37 := xtx_ye hx (i + 3)
        refine xr_steps (pc' := 41) (L' := [(0, .ref 165), (1, .int (Int32.ofInt (400 + (i : Int)))), (2, .int (Int32.ofInt c1)), (3, .int (Int32.ofInt c2)), (4, .int (Int32.ofInt c3)), (5, .int (Int32.ofInt c4))]) (st' := [.int (Int32.ofInt c4), .int (Int32.ofInt (xat n f (i + 3)))]) 1 rfl ?_
        refine xr_icmp_ne rfl (by omega) (by omega) (fun z38 => ?_) (fun z38 => ?_)
        · refine xr_steps (pc' := 49) (L' := [(0, .ref 165), (1, .int (Int32.ofInt (400 + (i : Int)))), (2, .int (Int32.ofInt c1)), (3, .int (Int32.ofInt c2)), (4, .int (Int32.ofInt c3)), (5, .int (Int32.ofInt c4))]) (st' := [.int (Int32.ofInt 0)]) 1 rfl ?_
          obtain rfl : b = 0 := by omega
          exact xr_retZ rfl rfl (by omega) ⟨_, rfl, rfl, rfl⟩
        · refine xr_steps (pc' := 49) (L' := [(0, .ref 165), (1, .int (Int32.ofInt (400 + (i : Int)))), (2, .int (Int32.ofInt c1)), (3, .int (Int32.ofInt c2)), (4, .int (Int32.ofInt c3)), (5, .int (Int32.ofInt c4))]) (st' := [.int (Int32.ofInt 1)]) 2 rfl ?_
          obtain rfl : b = 1 := by omega
          exact xr_retZ rfl rfl (by omega) ⟨_, rfl, rfl, rfl⟩
theorem mo_211a {w : Value} {d : Nat} {A : xb_H} {s : Nat → Int} {t : Nat → Nat → Int} {i n : Nat} {f : Nat → Int} {Q : xb_R → xb_H → Prop} (hA : 194 ≤ A.1) (hx : xtx s t n f) : ∀ (k j : Nat), n ≤ j + k → j ≤ 500 → (∀ j' : Nat, j' = j + yn (ye n f) 97 122 k j → xr_ok (xt_G w) (d + 1) 211 99 [(2, .int (Int32.ofInt (400 + (j' : Int)))), (0, .ref 165), (1, .int (Int32.ofInt (400 + (i : Int))))] [] (ym A s t) Q) → xr_ok (xt_G w) (d + 1) 211 82 [(2, .int (Int32.ofInt (400 + (j : Int)))), (0, .ref 165), (1, .int (Int32.ofInt (400 + (i : Int))))] [] (ym A s t) Q := by
  have hn := hx.2.1
  have key : ∀ (j : Nat), j ≤ 500 → (¬ (97 ≤ ye n f j ∧ ye n f j ≤ 122) → xr_ok (xt_G w) (d + 1) 211 99 [(2, .int (Int32.ofInt (400 + (j : Int)))), (0, .ref 165), (1, .int (Int32.ofInt (400 + (i : Int))))] [] (ym A s t) Q) → ((97 ≤ ye n f j ∧ ye n f j ≤ 122) → xr_ok (xt_G w) (d + 1) 211 82 [(2, .int (Int32.ofInt (400 + ((j + 1 : Nat) : Int)))), (0, .ref 165), (1, .int (Int32.ofInt (400 + (i : Int))))] [] (ym A s t) Q) → xr_ok (xt_G w) (d + 1) 211 82 [(2, .int (Int32.ofInt (400 + (j : Int)))), (0, .ref 165), (1, .int (Int32.ofInt (400 + (i : Int))))] [] (ym A s t) Q := by
    intro j hj h1 h2
    obtain ⟨b, hb⟩ := mo_bool (97 ≤ xat n f j ∧ xat n f j ≤ 122)
    refine xr_steps (pc' := 84) (L' := [(2, .int (Int32.ofInt (400 + (j : Int)))), (0, .ref 165), (1, .int (Int32.ofInt (400 + (i : Int))))]) (st' := [.int (Int32.ofInt (400 + (j : Int))), .ref 165]) 2 rfl ?_
    refine xr_call (q := (.invokevirtual 103, 3, 209, 2)) (av := [.ref 165, .int (Int32.ofInt (400 + (j : Int)))]) (rest := []) rfl rfl (by decide) rfl (ym_rcv hA rfl) (Nat.le_of_ble_eq_true rfl) (mo_209t (i := j) hA hx (by omega) (by omega)) ?_
    rintro _ _ ⟨rfl, eA⟩
    rw [eA]
    clear eA
    have hx31 := xtx_ye hx j
    refine xr_call (q := (.invokestatic 111, 3, 210, 1)) (av := [.int (Int32.ofInt (xat n f j))]) (rest := []) rfl rfl (by decide) rfl rfl (Nat.le_of_ble_eq_true rfl) (mo_210 (by omega) hb) ?_
    rintro _ _ ⟨rfl, eA⟩
    rw [eA]
    clear eA
    refine xr_if_eq rfl (by omega) (fun z32 => ?_) (fun z32 => ?_)
    · exact h1 (by omega)
    · refine xr_iinc (L' := [(2, .int (Int32.ofInt ((400 + (j : Int)) + 1))), (0, .ref 165), (1, .int (Int32.ofInt (400 + (i : Int))))]) rfl rfl rfl ?_
      refine xr_steps (pc' := 82) (L' := [(2, .int (Int32.ofInt ((400 + (j : Int)) + 1))), (0, .ref 165), (1, .int (Int32.ofInt (400 + (i : Int))))]) (st' := []) 1 rfl ?_
      rw [show 400 + (j : Int) + 1 = 400 + ((j + 1 : Nat) : Int) by omega]
      exact h2 (by omega)
  intro k
  induction k with
  | zero =>
    intro j hk hj h
    refine key j hj (fun _ => h j rfl) (fun hc => ?_)
    have hy := xtx_ye hx j
    omega
  | succ k ih =>
    intro j hk hj h
    refine key j hj (fun hc => h j (by rw [yn, if_neg hc, Nat.add_zero])) (fun hc => ?_)
    have hy := xtx_ye hx j
    refine ih (j + 1) (by omega) (by omega) (fun j' hj' => h j' ?_)
    rw [hj', yn, if_pos hc]
    omega
theorem mo_211d {w : Value} {d : Nat} {A : xb_H} {s : Nat → Int} {t : Nat → Nat → Int} {i n : Nat} {f : Nat → Int} {i0 : Nat} {Q : xb_R → xb_H → Prop} (hA : 194 ≤ A.1) (hx : xtx s t n f) : ∀ (k j : Nat), n ≤ j + k → j ≤ 500 → (∀ j' : Nat, j' = j + yn (ye n f) 48 57 k j → xr_ok (xt_G w) (d + 1) 211 176 [(2, .int (Int32.ofInt (400 + (j' : Int)))), (3, .int (Int32.ofInt (400 + (i0 : Int)))), (0, .ref 165), (1, .int (Int32.ofInt (400 + (i : Int))))] [] (ym A s t) Q) → xr_ok (xt_G w) (d + 1) 211 159 [(2, .int (Int32.ofInt (400 + (j : Int)))), (3, .int (Int32.ofInt (400 + (i0 : Int)))), (0, .ref 165), (1, .int (Int32.ofInt (400 + (i : Int))))] [] (ym A s t) Q := by
  have hn := hx.2.1
  have key : ∀ (j : Nat), j ≤ 500 → (¬ (48 ≤ ye n f j ∧ ye n f j ≤ 57) → xr_ok (xt_G w) (d + 1) 211 176 [(2, .int (Int32.ofInt (400 + (j : Int)))), (3, .int (Int32.ofInt (400 + (i0 : Int)))), (0, .ref 165), (1, .int (Int32.ofInt (400 + (i : Int))))] [] (ym A s t) Q) → ((48 ≤ ye n f j ∧ ye n f j ≤ 57) → xr_ok (xt_G w) (d + 1) 211 159 [(2, .int (Int32.ofInt (400 + ((j + 1 : Nat) : Int)))), (3, .int (Int32.ofInt (400 + (i0 : Int)))), (0, .ref 165), (1, .int (Int32.ofInt (400 + (i : Int))))] [] (ym A s t) Q) → xr_ok (xt_G w) (d + 1) 211 159 [(2, .int (Int32.ofInt (400 + (j : Int)))), (3, .int (Int32.ofInt (400 + (i0 : Int)))), (0, .ref 165), (1, .int (Int32.ofInt (400 + (i : Int))))] [] (ym A s t) Q := by
    intro j hj h1 h2
    obtain ⟨b, hb⟩ := mo_bool (48 ≤ xat n f j ∧ xat n f j ≤ 57)
    refine xr_steps (pc' := 161) (L' := [(2, .int (Int32.ofInt (400 + (j : Int)))), (3, .int (Int32.ofInt (400 + (i0 : Int)))), (0, .ref 165), (1, .int (Int32.ofInt (400 + (i : Int))))]) (st' := [.int (Int32.ofInt (400 + (j : Int))), .ref 165]) 2 rfl ?_
    refine xr_call (q := (.invokevirtual 103, 3, 209, 2)) (av := [.ref 165, .int (Int32.ofInt (400 + (j : Int)))]) (rest := []) rfl rfl (by decide) rfl (ym_rcv hA rfl) (Nat.le_of_ble_eq_true rfl) (mo_209t (i := j) hA hx (by omega) (by omega)) ?_
    rintro _ _ ⟨rfl, eA⟩
    rw [eA]
    clear eA
    have hx31 := xtx_ye hx j
    refine xr_call (q := (.invokestatic 115, 3, 213, 1)) (av := [.int (Int32.ofInt (xat n f j))]) (rest := []) rfl rfl (by decide) rfl rfl (Nat.le_of_ble_eq_true rfl) (mo_213 (by omega) hb) ?_
    rintro _ _ ⟨rfl, eA⟩
    rw [eA]
    clear eA
    refine xr_if_eq rfl (by omega) (fun z32 => ?_) (fun z32 => ?_)
    · exact h1 (by omega)
    · refine xr_iinc (L' := [(2, .int (Int32.ofInt ((400 + (j : Int)) + 1))), (3, .int (Int32.ofInt (400 + (i0 : Int)))), (0, .ref 165), (1, .int (Int32.ofInt (400 + (i : Int))))]) rfl rfl rfl ?_
      refine xr_steps (pc' := 159) (L' := [(2, .int (Int32.ofInt ((400 + (j : Int)) + 1))), (3, .int (Int32.ofInt (400 + (i0 : Int)))), (0, .ref 165), (1, .int (Int32.ofInt (400 + (i : Int))))]) (st' := []) 1 rfl ?_
      rw [show 400 + (j : Int) + 1 = 400 + ((j + 1 : Nat) : Int) by omega]
      exact h2 (by omega)
  intro k
  induction k with
  | zero =>
    intro j hk hj h
    refine key j hj (fun _ => h j rfl) (fun hc => ?_)
    have hy := xtx_ye hx j
    omega
  | succ k ih =>
    intro j hk hj h
    refine key j hj (fun hc => h j (by rw [yn, if_neg hc, Nat.add_zero])) (fun hc => ?_)
    have hy := xtx_ye hx j
    refine ih (j + 1) (by omega) (by omega) (fun j' hj' => h j' ?_)
    rw [hj', yn, if_pos hc]
    omega
/-! What plain values are, case by case -/
theorem yn_min (e : Nat → Int) (lo hi : Int) (j : Nat) : ∀ (k p : Nat), yn e lo hi k p = min k (yn e lo hi (k + j) p) := by
  intro k
  induction k with
  | zero => intro p; rw [yn]; omega
  | succ k ih =>
    intro p
    rw [show k + 1 + j = (k + j) + 1 by omega, yn, yn]
    by_cases h : lo ≤ e p ∧ e p ≤ hi
    · rw [if_pos h, if_pos h, ih (p + 1)]
      omega
    · rw [if_neg h, if_neg h]
      omega
theorem yn_stop (e : Nat → Int) (lo hi : Int) : ∀ (k p : Nat), yn e lo hi k p < k → ¬ (lo ≤ e (p + yn e lo hi k p) ∧ e (p + yn e lo hi k p) ≤ hi) := by
  intro k
  induction k with
  | zero => intro p h; exact absurd h (Nat.not_lt_zero _)
  | succ k ih =>
    intro p h
    rw [yn] at h ⊢
    by_cases hc : lo ≤ e p ∧ e p ≤ hi
    · rw [if_pos hc] at h ⊢
      have := ih (p + 1) (by omega)
      rwa [show p + 1 + yn e lo hi k (p + 1) = p + (yn e lo hi k (p + 1) + 1) by omega] at this
    · rw [if_neg hc]
      exact hc
/-- what plainEnd answers -/
def xPE (e : Nat → Int) (i : Nat) (r : Int) : Prop := (∃ (kd : Nat) (ls : List Int) (q : Nat), xpl e i = some (kd, ls, q) ∧ r = 400 + (q : Int)) ∨ (xpl e i = none ∧ r = -1)
section XPL
variable {e : Nat → Int} {i : Nat}
theorem xpl_null (h : e i = 110 ∧ e (i + 1) = 117 ∧ e (i + 2) = 108 ∧ e (i + 3) = 108) {r : Int} (hr : r = 400 + (i : Int) + 4) : xPE e i r := by
  refine Or.inl ⟨0, [110, 117, 108, 108], i + 4, ?_, by omega⟩
  unfold xpl
  rw [if_neg (by omega), if_pos h.1]
  exact if_pos ⟨h.1, h.2.1, h.2.2.1, h.2.2.2, trivial⟩
theorem xpl_true (h : e i = 116 ∧ e (i + 1) = 114 ∧ e (i + 2) = 117 ∧ e (i + 3) = 101) {r : Int} (hr : r = 400 + (i : Int) + 4) : xPE e i r := by
  refine Or.inl ⟨1, [116, 114, 117, 101], i + 4, ?_, by omega⟩
  unfold xpl
  rw [if_neg (by omega), if_neg (by omega), if_pos h.1]
  exact if_pos ⟨h.1, h.2.1, h.2.2.1, h.2.2.2, trivial⟩
theorem xpl_false (h : (e i = 102 ∧ e (i + 1) = 97 ∧ e (i + 2) = 108 ∧ e (i + 3) = 115) ∧ e (i + 4) = 101) {r : Int} (hr : r = 400 + (i : Int) + 5) : xPE e i r := by
  refine Or.inl ⟨1, [102, 97, 108, 115, 101], i + 5, ?_, by omega⟩
  unfold xpl
  rw [if_neg (by omega), if_neg (by omega), if_neg (by omega), if_pos h.1.1]
  exact if_pos ⟨h.1.1, h.1.2.1, h.1.2.2.1, h.1.2.2.2, h.2, trivial⟩
theorem xpl_str (h : e i = 34) {j : Nat} (hj : j = i + 1 + yn e 97 122 200 (i + 1)) (h1 : e j = 34) (h2 : j ≤ i + 13) {r : Int} (hr : r = 400 + (j : Int) + 1) : xPE e i r := by
  have m : yn e 97 122 12 (i + 1) = min 12 (yn e 97 122 200 (i + 1)) := yn_min e 97 122 188 12 (i + 1)
  have ek : yn e 97 122 12 (i + 1) = yn e 97 122 200 (i + 1) := by omega
  refine Or.inl ⟨3, xch e (i + 1) (yn e 97 122 12 (i + 1)), j + 1, ?_, by omega⟩
  unfold xpl
  rw [if_pos h]
  unfold xps
  rw [show i + 1 + yn e 97 122 12 (i + 1) = j by omega, if_pos h1]
theorem xpl_strn (h : e i = 34) {j : Nat} (hj : j = i + 1 + yn e 97 122 200 (i + 1)) (h1 : ¬ (e j = 34 ∧ j ≤ i + 13)) {r : Int} (hr : r = -1) : xPE e i r := by
  have m : yn e 97 122 12 (i + 1) = min 12 (yn e 97 122 200 (i + 1)) := yn_min e 97 122 188 12 (i + 1)
  refine Or.inr ⟨?_, hr⟩
  unfold xpl
  rw [if_pos h]
  unfold xps
  by_cases hk : yn e 97 122 200 (i + 1) ≤ 12
  · rw [show i + 1 + yn e 97 122 12 (i + 1) = j by omega, if_neg (by omega)]
  · have ek : yn e 97 122 12 (i + 1) = 12 := by omega
    have g := yn_get e 97 122 200 (i + 1) 12 (by omega)
    rw [ek, if_neg (by omega)]
theorem xpl_zero (h : e i = 48) {r : Int} (hr : r = 400 + (i : Int) + 1) : xPE e i r := by
  refine Or.inl ⟨2, [48], i + 1, ?_, by omega⟩
  unfold xpl
  rw [if_neg (by omega), if_neg (by omega), if_neg (by omega), if_neg (by omega)]
  unfold xpn
  rw [if_pos h]
/-- no word, no string -/
theorem xpl_else (h34 : ¬ e i = 34) (h1 : ¬ (e i = 110 ∧ e (i + 1) = 117 ∧ e (i + 2) = 108 ∧ e (i + 3) = 108)) (h2 : ¬ (e i = 116 ∧ e (i + 1) = 114 ∧ e (i + 2) = 117 ∧ e (i + 3) = 101)) (h3 : ¬ ((e i = 102 ∧ e (i + 1) = 97 ∧ e (i + 2) = 108 ∧ e (i + 3) = 115) ∧ e (i + 4) = 101)) (h48 : ¬ e i = 48) {i0 j : Nat} (hi0 : (e i = 45 ∧ i0 = i + 1) ∨ (¬ e i = 45 ∧ i0 = i)) (hj : j = i0 + yn e 48 57 200 i0) {r : Int} (hr : ((i0 < j ∧ j ≤ i0 + 5 ∧ ¬ e i0 = 48) ∧ r = 400 + (j : Int)) ∨ (¬ (i0 < j ∧ j ≤ i0 + 5 ∧ ¬ e i0 = 48) ∧ r = -1)) : xPE e i r := by
  by_cases hl : e i = 110 ∨ e i = 116 ∨ e i = 102
  · have hi : i0 = i := by omega
    have hy : yn e 48 57 200 i0 = 0 := by
      rw [hi, show (200 : Nat) = 199 + 1 from rfl, yn, if_neg (by omega)]
    refine Or.inr ⟨?_, by omega⟩
    unfold xpl
    rw [if_neg h34]
    rcases hl with hl | hl | hl
    · rw [if_pos hl]
      exact if_neg (fun ⟨a, b, c, f, _⟩ => h1 ⟨a, b, c, f⟩)
    · rw [if_neg (by omega), if_pos hl]
      exact if_neg (fun ⟨a, b, c, f, _⟩ => h2 ⟨a, b, c, f⟩)
    · rw [if_neg (by omega), if_neg (by omega), if_pos hl]
      exact if_neg (fun ⟨a, b, c, f, g, _⟩ => h3 ⟨⟨a, b, c, f⟩, g⟩)
  · have m : yn e 48 57 6 i0 = min 6 (yn e 48 57 200 i0) := yn_min e 48 57 194 6 i0
    have hx : xpl e i = xpn e i := by
      unfold xpl
      rw [if_neg h34, if_neg (by omega), if_neg (by omega), if_neg (by omega)]
    have hp : (i + if e i = 45 then 1 else 0) = i0 := by
      rcases hi0 with ⟨a, b⟩ | ⟨a, b⟩
      · rw [if_pos a, b]
      · rw [if_neg a, b]; rfl
    unfold xPE
    rw [hx]
    unfold xpn
    rw [if_neg h48, hp]
    by_cases hc : (1 ≤ yn e 48 57 6 i0 ∧ yn e 48 57 6 i0 ≤ 5) ∧ ¬ e i0 = 48
    · rw [if_pos hc]
      exact Or.inl ⟨_, _, _, rfl, by omega⟩
    · rw [if_neg hc]
      exact Or.inr ⟨rfl, by omega⟩
end XPL
theorem mo_211 {w : Value} {d : Nat} {A : xb_H} {s : Nat → Int} {t : Nat → Nat → Int} {i n : Nat} {f : Nat → Int} (hA : 194 ≤ A.1) (hx : xtx s t n f) (hi : i ≤ 100) : xr_ok (xt_G w) (d + 1 + 1) 211 0 [(0, .ref 165), (1, .int (Int32.ofInt (400 + (i : Int))))] [] (ym A s t) (fun o A' => ∃ v0, o = .inl v0 ∧ ∃ r : Int, (v0 = some (.int (Int32.ofInt r)) ∧ A' = ym A s t) ∧ xPE (ye n f) i r) := by
  have hn := hx.2.1
  refine xr_steps (pc' := 10) (L' := [(0, .ref 165), (1, .int (Int32.ofInt (400 + (i : Int))))]) (st' := [.int (Int32.ofInt 108), .int (Int32.ofInt 108), .int (Int32.ofInt 117), .int (Int32.ofInt 110), .int (Int32.ofInt (400 + (i : Int))), .ref 165]) 6 rfl ?_
  obtain ⟨b31, hb31⟩ := mo_bool (ye n f i = 110 ∧ ye n f (i + 1) = 117 ∧ ye n f (i + 2) = 108 ∧ ye n f (i + 3) = 108)
  refine xr_call (q := (.invokevirtual 107, 3, 212, 6)) (av := [.ref 165, .int (Int32.ofInt (400 + (i : Int))), .int (Int32.ofInt 110), .int (Int32.ofInt 117), .int (Int32.ofInt 108), .int (Int32.ofInt 108)]) (rest := []) rfl rfl (by decide) rfl (ym_rcv hA rfl) (Nat.le_of_ble_eq_true rfl) (mo_212 hA hx (by omega) (by omega) (by omega) (by omega) (by omega) hb31) ?_
  rintro _ _ ⟨rfl, eA⟩
  rw [eA]
  clear eA
  refine xr_if_ne rfl (by omega) (fun z32 => ?_) (fun z32 => ?_)
  · refine xr_steps (pc' := 34) (L' := [(0, .ref 165), (1, .int (Int32.ofInt (400 + (i : Int))))]) (st' := [.int (Int32.ofInt 4), .int (Int32.ofInt (400 + (i : Int)))]) 2 rfl ?_
    refine xr_iadd rfl ?_
    refine xr_retI2 rfl rfl ⟨_, rfl, _, ⟨rfl, rfl⟩, ?_⟩
    first | exact xpl_null (by omega) rfl | exact xpl_true (by omega) rfl
  · refine xr_steps (pc' := 26) (L' := [(0, .ref 165), (1, .int (Int32.ofInt (400 + (i : Int))))]) (st' := [.int (Int32.ofInt 101), .int (Int32.ofInt 117), .int (Int32.ofInt 114), .int (Int32.ofInt 116), .int (Int32.ofInt (400 + (i : Int))), .ref 165]) 6 rfl ?_
    obtain ⟨b33, hb33⟩ := mo_bool (ye n f i = 116 ∧ ye n f (i + 1) = 114 ∧ ye n f (i + 2) = 117 ∧ ye n f (i + 3) = 101)
    refine xr_call (q := (.invokevirtual 107, 3, 212, 6)) (av := [.ref 165, .int (Int32.ofInt (400 + (i : Int))), .int (Int32.ofInt 116), .int (Int32.ofInt 114), .int (Int32.ofInt 117), .int (Int32.ofInt 101)]) (rest := []) rfl rfl (by decide) rfl (ym_rcv hA rfl) (Nat.le_of_ble_eq_true rfl) (mo_212 hA hx (by omega) (by omega) (by omega) (by omega) (by omega) hb33) ?_
    rintro _ _ ⟨rfl, eA⟩
    rw [eA]
    clear eA
    refine xr_if_eq rfl (by omega) (fun z34 => ?_) (fun z34 => ?_)
    · refine xr_steps (pc' := 46) (L' := [(0, .ref 165), (1, .int (Int32.ofInt (400 + (i : Int))))]) (st' := [.int (Int32.ofInt 115), .int (Int32.ofInt 108), .int (Int32.ofInt 97), .int (Int32.ofInt 102), .int (Int32.ofInt (400 + (i : Int))), .ref 165]) 6 rfl ?_
      obtain ⟨b35, hb35⟩ := mo_bool (ye n f i = 102 ∧ ye n f (i + 1) = 97 ∧ ye n f (i + 2) = 108 ∧ ye n f (i + 3) = 115)
      refine xr_call (q := (.invokevirtual 107, 3, 212, 6)) (av := [.ref 165, .int (Int32.ofInt (400 + (i : Int))), .int (Int32.ofInt 102), .int (Int32.ofInt 97), .int (Int32.ofInt 108), .int (Int32.ofInt 115)]) (rest := []) rfl rfl (by decide) rfl (ym_rcv hA rfl) (Nat.le_of_ble_eq_true rfl) (mo_212 hA hx (by omega) (by omega) (by omega) (by omega) (by omega) hb35) ?_
      rintro _ _ ⟨rfl, eA⟩
      rw [eA]
      clear eA
      refine xr_if_eq rfl (by omega) (fun z36 => ?_) (fun z36 => ?_)
      · refine xr_steps (pc' := 70) (L' := [(0, .ref 165), (1, .int (Int32.ofInt (400 + (i : Int))))]) (st' := [.int (Int32.ofInt (400 + (i : Int))), .ref 165]) 2 rfl ?_
        refine xr_call (q := (.invokevirtual 103, 3, 209, 2)) (av := [.ref 165, .int (Int32.ofInt (400 + (i : Int)))]) (rest := []) rfl rfl (by decide) rfl (ym_rcv hA rfl) (Nat.le_of_ble_eq_true rfl) (mo_209t (i := i) hA hx (by omega) (by omega)) ?_
        rintro _ _ ⟨rfl, eA⟩
        rw [eA]
        clear eA
        have hx37 := xtx_ye hx i
        refine xr_steps (pc' := 75) (L' := [(0, .ref 165), (1, .int (Int32.ofInt (400 + (i : Int))))]) (st' := [.int (Int32.ofInt 34), .int (Int32.ofInt (xat n f i))]) 1 rfl ?_
        refine xr_icmp_ne rfl (by omega) (by omega) (fun z38 => ?_) (fun z38 => ?_)
        · refine xr_steps (pc' := 127) (L' := [(0, .ref 165), (1, .int (Int32.ofInt (400 + (i : Int))))]) (st' := [.int (Int32.ofInt (400 + (i : Int))), .ref 165]) 2 rfl ?_
          refine xr_call (q := (.invokevirtual 103, 3, 209, 2)) (av := [.ref 165, .int (Int32.ofInt (400 + (i : Int)))]) (rest := []) rfl rfl (by decide) rfl (ym_rcv hA rfl) (Nat.le_of_ble_eq_true rfl) (mo_209t (i := i) hA hx (by omega) (by omega)) ?_
          rintro _ _ ⟨rfl, eA⟩
          rw [eA]
          clear eA
          have hx39 := xtx_ye hx i
          refine xr_steps (pc' := 132) (L' := [(0, .ref 165), (1, .int (Int32.ofInt (400 + (i : Int))))]) (st' := [.int (Int32.ofInt 45), .int (Int32.ofInt (xat n f i))]) 1 rfl ?_
          refine xr_icmp_ne rfl (by omega) (by omega) (fun z40 => ?_) (fun z40 => ?_)
          · refine xr_steps (pc' := 145) (L' := [(2, .int (Int32.ofInt (400 + (i : Int)))), (0, .ref 165), (1, .int (Int32.ofInt (400 + (i : Int))))]) (st' := [.int (Int32.ofInt (400 + (i : Int))), .ref 165]) 4 rfl ?_
            refine xr_call (q := (.invokevirtual 103, 3, 209, 2)) (av := [.ref 165, .int (Int32.ofInt (400 + (i : Int)))]) (rest := []) rfl rfl (by decide) rfl (ym_rcv hA rfl) (Nat.le_of_ble_eq_true rfl) (mo_209t (i := i) hA hx (by omega) (by omega)) ?_
            rintro _ _ ⟨rfl, eA⟩
            rw [eA]
            clear eA
            have hx41 := xtx_ye hx i
            refine xr_steps (pc' := 150) (L' := [(2, .int (Int32.ofInt (400 + (i : Int)))), (0, .ref 165), (1, .int (Int32.ofInt (400 + (i : Int))))]) (st' := [.int (Int32.ofInt 48), .int (Int32.ofInt (xat n f i))]) 1 rfl ?_
            refine xr_icmp_ne rfl (by omega) (by omega) (fun z42 => ?_) (fun z42 => ?_)
            · refine xr_steps (pc' := 159) (L' := [(3, .int (Int32.ofInt (400 + (i : Int)))), (2, .int (Int32.ofInt (400 + (i : Int)))), (0, .ref 165), (1, .int (Int32.ofInt (400 + (i : Int))))]) (st' := []) 2 rfl ?_
              obtain ⟨i0, hi0⟩ : ∃ i0, i0 = i := ⟨_, rfl⟩
              refine xr_loc (L := [(2, .int (Int32.ofInt (400 + (i : Int)))), (3, .int (Int32.ofInt (400 + (i : Int)))), (0, .ref 165), (1, .int (Int32.ofInt (400 + (i : Int))))]) (show [2, 3, 0, 1].Nodup by decide) ⟨rfl, rfl, rfl, rfl, trivial⟩ ?_
              have hloc : xr_ok (xt_G w) (d + 1 + 1) 211 159 [(2, .int (Int32.ofInt (400 + (i0 : Int)))), (3, .int (Int32.ofInt (400 + (i0 : Int)))), (0, .ref 165), (1, .int (Int32.ofInt (400 + (i : Int))))] [] (ym A s t) (fun o A' => ∃ v0, o = .inl v0 ∧ ∃ r : Int, (v0 = some (.int (Int32.ofInt r)) ∧ A' = ym A s t) ∧ xPE (ye n f) i r) := ?_
              · rw [hi0] at hloc; exact hloc
              refine mo_211d (i0 := i0) hA hx 200 i0 (by omega) (by omega) (fun j hj => ?_)
              have hjl := yn_le (ye n f) 48 57 200 i0
              have hji : j ≤ 400 := by omega
              refine xr_steps (pc' := 178) (L' := [(2, .int (Int32.ofInt (400 + (j : Int)))), (3, .int (Int32.ofInt (400 + (i0 : Int)))), (0, .ref 165), (1, .int (Int32.ofInt (400 + (i : Int))))]) (st' := [.int (Int32.ofInt (400 + (i0 : Int))), .int (Int32.ofInt (400 + (j : Int)))]) 2 rfl ?_
              refine xr_icmp_le rfl (by omega) (by omega) (fun z43 => ?_) (fun z43 => ?_)
              · refine xr_steps (pc' := 203) (L' := [(2, .int (Int32.ofInt (400 + (j : Int)))), (3, .int (Int32.ofInt (400 + (i0 : Int)))), (0, .ref 165), (1, .int (Int32.ofInt (400 + (i : Int))))]) (st' := [.int (Int32.ofInt (-1))]) 1 rfl ?_
                refine xr_retI2 rfl rfl ⟨_, rfl, _, ⟨rfl, rfl⟩, ?_⟩
                exact xpl_else (by omega) (by omega) (by omega) (by omega) (by omega) (i0 := i0) (by omega) hj (by omega)
              · refine xr_steps (pc' := 184) (L' := [(2, .int (Int32.ofInt (400 + (j : Int)))), (3, .int (Int32.ofInt (400 + (i0 : Int)))), (0, .ref 165), (1, .int (Int32.ofInt (400 + (i : Int))))]) (st' := [.int (Int32.ofInt 5), .int (Int32.ofInt (400 + (i0 : Int))), .int (Int32.ofInt (400 + (j : Int)))]) 3 rfl ?_
                refine xr_iadd rfl ?_
                refine xr_icmp_gt rfl (by omega) (by omega) (fun z44 => ?_) (fun z44 => ?_)
                · refine xr_steps (pc' := 203) (L' := [(2, .int (Int32.ofInt (400 + (j : Int)))), (3, .int (Int32.ofInt (400 + (i0 : Int)))), (0, .ref 165), (1, .int (Int32.ofInt (400 + (i : Int))))]) (st' := [.int (Int32.ofInt (-1))]) 1 rfl ?_
                  refine xr_retI2 rfl rfl ⟨_, rfl, _, ⟨rfl, rfl⟩, ?_⟩
                  exact xpl_else (by omega) (by omega) (by omega) (by omega) (by omega) (i0 := i0) (by omega) hj (by omega)
                · refine xr_steps (pc' := 190) (L' := [(2, .int (Int32.ofInt (400 + (j : Int)))), (3, .int (Int32.ofInt (400 + (i0 : Int)))), (0, .ref 165), (1, .int (Int32.ofInt (400 + (i : Int))))]) (st' := [.int (Int32.ofInt (400 + (i0 : Int))), .ref 165]) 2 rfl ?_
                  refine xr_call (q := (.invokevirtual 103, 3, 209, 2)) (av := [.ref 165, .int (Int32.ofInt (400 + (i0 : Int)))]) (rest := []) rfl rfl (by decide) rfl (ym_rcv hA rfl) (Nat.le_of_ble_eq_true rfl) (mo_209t (i := i0) hA hx (by omega) (by omega)) ?_
                  rintro _ _ ⟨rfl, eA⟩
                  rw [eA]
                  clear eA
                  have hx45 := xtx_ye hx i0
                  refine xr_steps (pc' := 195) (L' := [(2, .int (Int32.ofInt (400 + (j : Int)))), (3, .int (Int32.ofInt (400 + (i0 : Int)))), (0, .ref 165), (1, .int (Int32.ofInt (400 + (i : Int))))]) (st' := [.int (Int32.ofInt 48), .int (Int32.ofInt (xat n f i0))]) 1 rfl ?_
                  refine xr_icmp_eq rfl (by omega) (by omega) (fun z46 => ?_) (fun z46 => ?_)
                  · refine xr_steps (pc' := 203) (L' := [(2, .int (Int32.ofInt (400 + (j : Int)))), (3, .int (Int32.ofInt (400 + (i0 : Int)))), (0, .ref 165), (1, .int (Int32.ofInt (400 + (i : Int))))]) (st' := [.int (Int32.ofInt (-1))]) 1 rfl ?_
                    refine xr_retI2 rfl rfl ⟨_, rfl, _, ⟨rfl, rfl⟩, ?_⟩
                    exact xpl_else (by omega) (by omega) (by omega) (by omega) (by omega) (i0 := i0) (by omega) hj (by omega)
                  · refine xr_steps (pc' := 203) (L' := [(2, .int (Int32.ofInt (400 + (j : Int)))), (3, .int (Int32.ofInt (400 + (i0 : Int)))), (0, .ref 165), (1, .int (Int32.ofInt (400 + (i : Int))))]) (st' := [.int (Int32.ofInt (400 + (j : Int)))]) 2 rfl ?_
                    refine xr_retI2 rfl rfl ⟨_, rfl, _, ⟨rfl, rfl⟩, ?_⟩
                    exact xpl_else (by omega) (by omega) (by omega) (by omega) (by omega) (i0 := i0) (by omega) hj (by omega)
            · refine xr_steps (pc' := 155) (L' := [(2, .int (Int32.ofInt (400 + (i : Int)))), (0, .ref 165), (1, .int (Int32.ofInt (400 + (i : Int))))]) (st' := [.int (Int32.ofInt 1), .int (Int32.ofInt (400 + (i : Int)))]) 2 rfl ?_
              refine xr_iadd rfl ?_
              refine xr_retI2 rfl rfl ⟨_, rfl, _, ⟨rfl, rfl⟩, ?_⟩
              exact xpl_zero (by omega) rfl
          · refine xr_steps (pc' := 137) (L' := [(0, .ref 165), (1, .int (Int32.ofInt (400 + (i : Int))))]) (st' := [.int (Int32.ofInt 1), .int (Int32.ofInt (400 + (i : Int)))]) 2 rfl ?_
            refine xr_iadd rfl ?_
            refine xr_steps (pc' := 145) (L' := [(2, .int (Int32.ofInt ((400 + (i : Int)) + 1))), (0, .ref 165), (1, .int (Int32.ofInt (400 + (i : Int))))]) (st' := [.int (Int32.ofInt (400 + (i : Int))), .ref 165]) 4 rfl ?_
            refine xr_call (q := (.invokevirtual 103, 3, 209, 2)) (av := [.ref 165, .int (Int32.ofInt (400 + (i : Int)))]) (rest := []) rfl rfl (by decide) rfl (ym_rcv hA rfl) (Nat.le_of_ble_eq_true rfl) (mo_209t (i := i) hA hx (by omega) (by omega)) ?_
            rintro _ _ ⟨rfl, eA⟩
            rw [eA]
            clear eA
            have hx47 := xtx_ye hx i
            refine xr_steps (pc' := 150) (L' := [(2, .int (Int32.ofInt ((400 + (i : Int)) + 1))), (0, .ref 165), (1, .int (Int32.ofInt (400 + (i : Int))))]) (st' := [.int (Int32.ofInt 48), .int (Int32.ofInt (xat n f i))]) 1 rfl ?_
            refine xr_icmp_ne rfl (by omega) (by omega) (fun z48 => ?_) (fun z48 => ?_)
            · refine xr_steps (pc' := 159) (L' := [(3, .int (Int32.ofInt ((400 + (i : Int)) + 1))), (2, .int (Int32.ofInt ((400 + (i : Int)) + 1))), (0, .ref 165), (1, .int (Int32.ofInt (400 + (i : Int))))]) (st' := []) 2 rfl ?_
              rw [show 400 + (i : Int) + 1 = 400 + ((i + 1 : Nat) : Int) by omega]
              obtain ⟨i0, hi0⟩ : ∃ i0, i0 = i + 1 := ⟨_, rfl⟩
              rw [← hi0]
              refine xr_loc (L := [(2, .int (Int32.ofInt (400 + (i0 : Int)))), (3, .int (Int32.ofInt (400 + (i0 : Int)))), (0, .ref 165), (1, .int (Int32.ofInt (400 + (i : Int))))]) (show [2, 3, 0, 1].Nodup by decide) ⟨rfl, rfl, rfl, rfl, trivial⟩ ?_
              refine mo_211d (i0 := i0) hA hx 200 i0 (by omega) (by omega) (fun j hj => ?_)
              have hjl := yn_le (ye n f) 48 57 200 i0
              have hji : j ≤ 400 := by omega
              refine xr_steps (pc' := 178) (L' := [(2, .int (Int32.ofInt (400 + (j : Int)))), (3, .int (Int32.ofInt (400 + (i0 : Int)))), (0, .ref 165), (1, .int (Int32.ofInt (400 + (i : Int))))]) (st' := [.int (Int32.ofInt (400 + (i0 : Int))), .int (Int32.ofInt (400 + (j : Int)))]) 2 rfl ?_
              refine xr_icmp_le rfl (by omega) (by omega) (fun z49 => ?_) (fun z49 => ?_)
              · refine xr_steps (pc' := 203) (L' := [(2, .int (Int32.ofInt (400 + (j : Int)))), (3, .int (Int32.ofInt (400 + (i0 : Int)))), (0, .ref 165), (1, .int (Int32.ofInt (400 + (i : Int))))]) (st' := [.int (Int32.ofInt (-1))]) 1 rfl ?_
                refine xr_retI2 rfl rfl ⟨_, rfl, _, ⟨rfl, rfl⟩, ?_⟩
                exact xpl_else (by omega) (by omega) (by omega) (by omega) (by omega) (i0 := i0) (by omega) hj (by omega)
              · refine xr_steps (pc' := 184) (L' := [(2, .int (Int32.ofInt (400 + (j : Int)))), (3, .int (Int32.ofInt (400 + (i0 : Int)))), (0, .ref 165), (1, .int (Int32.ofInt (400 + (i : Int))))]) (st' := [.int (Int32.ofInt 5), .int (Int32.ofInt (400 + (i0 : Int))), .int (Int32.ofInt (400 + (j : Int)))]) 3 rfl ?_
                refine xr_iadd rfl ?_
                refine xr_icmp_gt rfl (by omega) (by omega) (fun z50 => ?_) (fun z50 => ?_)
                · refine xr_steps (pc' := 203) (L' := [(2, .int (Int32.ofInt (400 + (j : Int)))), (3, .int (Int32.ofInt (400 + (i0 : Int)))), (0, .ref 165), (1, .int (Int32.ofInt (400 + (i : Int))))]) (st' := [.int (Int32.ofInt (-1))]) 1 rfl ?_
                  refine xr_retI2 rfl rfl ⟨_, rfl, _, ⟨rfl, rfl⟩, ?_⟩
                  exact xpl_else (by omega) (by omega) (by omega) (by omega) (by omega) (i0 := i0) (by omega) hj (by omega)
                · refine xr_steps (pc' := 190) (L' := [(2, .int (Int32.ofInt (400 + (j : Int)))), (3, .int (Int32.ofInt (400 + (i0 : Int)))), (0, .ref 165), (1, .int (Int32.ofInt (400 + (i : Int))))]) (st' := [.int (Int32.ofInt (400 + (i0 : Int))), .ref 165]) 2 rfl ?_
                  refine xr_call (q := (.invokevirtual 103, 3, 209, 2)) (av := [.ref 165, .int (Int32.ofInt (400 + (i0 : Int)))]) (rest := []) rfl rfl (by decide) rfl (ym_rcv hA rfl) (Nat.le_of_ble_eq_true rfl) (mo_209t (i := i0) hA hx (by omega) (by omega)) ?_
                  rintro _ _ ⟨rfl, eA⟩
                  rw [eA]
                  clear eA
                  have hx51 := xtx_ye hx i0
                  refine xr_steps (pc' := 195) (L' := [(2, .int (Int32.ofInt (400 + (j : Int)))), (3, .int (Int32.ofInt (400 + (i0 : Int)))), (0, .ref 165), (1, .int (Int32.ofInt (400 + (i : Int))))]) (st' := [.int (Int32.ofInt 48), .int (Int32.ofInt (xat n f i0))]) 1 rfl ?_
                  refine xr_icmp_eq rfl (by omega) (by omega) (fun z52 => ?_) (fun z52 => ?_)
                  · refine xr_steps (pc' := 203) (L' := [(2, .int (Int32.ofInt (400 + (j : Int)))), (3, .int (Int32.ofInt (400 + (i0 : Int)))), (0, .ref 165), (1, .int (Int32.ofInt (400 + (i : Int))))]) (st' := [.int (Int32.ofInt (-1))]) 1 rfl ?_
                    refine xr_retI2 rfl rfl ⟨_, rfl, _, ⟨rfl, rfl⟩, ?_⟩
                    exact xpl_else (by omega) (by omega) (by omega) (by omega) (by omega) (i0 := i0) (by omega) hj (by omega)
                  · refine xr_steps (pc' := 203) (L' := [(2, .int (Int32.ofInt (400 + (j : Int)))), (3, .int (Int32.ofInt (400 + (i0 : Int)))), (0, .ref 165), (1, .int (Int32.ofInt (400 + (i : Int))))]) (st' := [.int (Int32.ofInt (400 + (j : Int)))]) 2 rfl ?_
                    refine xr_retI2 rfl rfl ⟨_, rfl, _, ⟨rfl, rfl⟩, ?_⟩
                    exact xpl_else (by omega) (by omega) (by omega) (by omega) (by omega) (i0 := i0) (by omega) hj (by omega)
            · refine xr_steps (pc' := 155) (L' := [(2, .int (Int32.ofInt ((400 + (i : Int)) + 1))), (0, .ref 165), (1, .int (Int32.ofInt (400 + (i : Int))))]) (st' := [.int (Int32.ofInt 1), .int (Int32.ofInt (400 + (i : Int)))]) 2 rfl ?_
              refine xr_iadd rfl ?_
              refine xr_retI2 rfl rfl ⟨_, rfl, _, ⟨rfl, rfl⟩, ?_⟩
              exact xpl_zero (by omega) rfl
        · refine xr_steps (pc' := 80) (L' := [(0, .ref 165), (1, .int (Int32.ofInt (400 + (i : Int))))]) (st' := [.int (Int32.ofInt 1), .int (Int32.ofInt (400 + (i : Int)))]) 2 rfl ?_
          refine xr_iadd rfl ?_
          refine xr_steps (pc' := 82) (L' := [(2, .int (Int32.ofInt ((400 + (i : Int)) + 1))), (0, .ref 165), (1, .int (Int32.ofInt (400 + (i : Int))))]) (st' := []) 1 rfl ?_
          rw [show 400 + (i : Int) + 1 = 400 + ((i + 1 : Nat) : Int) by omega]
          refine mo_211a hA hx 200 (i + 1) (by omega) (by omega) (fun j hj => ?_)
          have hjl := yn_le (ye n f) 97 122 200 (i + 1)
          have hji : j ≤ 400 := by omega
          refine xr_steps (pc' := 101) (L' := [(2, .int (Int32.ofInt (400 + (j : Int)))), (0, .ref 165), (1, .int (Int32.ofInt (400 + (i : Int))))]) (st' := [.int (Int32.ofInt (400 + (j : Int))), .ref 165]) 2 rfl ?_
          refine xr_call (q := (.invokevirtual 103, 3, 209, 2)) (av := [.ref 165, .int (Int32.ofInt (400 + (j : Int)))]) (rest := []) rfl rfl (by decide) rfl (ym_rcv hA rfl) (Nat.le_of_ble_eq_true rfl) (mo_209t (i := j) hA hx (by omega) (by omega)) ?_
          rintro _ _ ⟨rfl, eA⟩
          rw [eA]
          clear eA
          have hx53 := xtx_ye hx j
          refine xr_steps (pc' := 106) (L' := [(2, .int (Int32.ofInt (400 + (j : Int)))), (0, .ref 165), (1, .int (Int32.ofInt (400 + (i : Int))))]) (st' := [.int (Int32.ofInt 34), .int (Int32.ofInt (xat n f j))]) 1 rfl ?_
          refine xr_icmp_ne rfl (by omega) (by omega) (fun z54 => ?_) (fun z54 => ?_)
          · refine xr_steps (pc' := 124) (L' := [(2, .int (Int32.ofInt (400 + (j : Int)))), (0, .ref 165), (1, .int (Int32.ofInt (400 + (i : Int))))]) (st' := [.int (Int32.ofInt (-1))]) 1 rfl ?_
            refine xr_retI2 rfl rfl ⟨_, rfl, _, ⟨rfl, rfl⟩, ?_⟩
            exact xpl_strn (by omega) hj (by omega) rfl
          · refine xr_steps (pc' := 111) (L' := [(2, .int (Int32.ofInt (400 + (j : Int)))), (0, .ref 165), (1, .int (Int32.ofInt (400 + (i : Int))))]) (st' := [.int (Int32.ofInt (400 + (i : Int))), .int (Int32.ofInt (400 + (j : Int)))]) 2 rfl ?_
            refine xr_isub rfl ?_
            refine xr_steps (pc' := 114) (L' := [(2, .int (Int32.ofInt (400 + (j : Int)))), (0, .ref 165), (1, .int (Int32.ofInt (400 + (i : Int))))]) (st' := [.int (Int32.ofInt 13), .int (Int32.ofInt ((400 + (j : Int)) - (400 + (i : Int))))]) 1 rfl ?_
            refine xr_icmp_gt rfl (by omega) (by omega) (fun z55 => ?_) (fun z55 => ?_)
            · refine xr_steps (pc' := 124) (L' := [(2, .int (Int32.ofInt (400 + (j : Int)))), (0, .ref 165), (1, .int (Int32.ofInt (400 + (i : Int))))]) (st' := [.int (Int32.ofInt (-1))]) 1 rfl ?_
              refine xr_retI2 rfl rfl ⟨_, rfl, _, ⟨rfl, rfl⟩, ?_⟩
              exact xpl_strn (by omega) hj (by omega) rfl
            · refine xr_steps (pc' := 119) (L' := [(2, .int (Int32.ofInt (400 + (j : Int)))), (0, .ref 165), (1, .int (Int32.ofInt (400 + (i : Int))))]) (st' := [.int (Int32.ofInt 1), .int (Int32.ofInt (400 + (j : Int)))]) 2 rfl ?_
              refine xr_iadd rfl ?_
              refine xr_steps (pc' := 124) (L' := [(2, .int (Int32.ofInt (400 + (j : Int)))), (0, .ref 165), (1, .int (Int32.ofInt (400 + (i : Int))))]) (st' := [.int (Int32.ofInt ((400 + (j : Int)) + 1))]) 1 rfl ?_
              refine xr_retI2 rfl rfl ⟨_, rfl, _, ⟨rfl, rfl⟩, ?_⟩
              exact xpl_str (by omega) hj (by omega) (by omega) rfl
      · refine xr_steps (pc' := 55) (L' := [(0, .ref 165), (1, .int (Int32.ofInt (400 + (i : Int))))]) (st' := [.int (Int32.ofInt 4), .int (Int32.ofInt (400 + (i : Int))), .ref 165]) 3 rfl ?_
        refine xr_iadd rfl ?_
        refine xr_call (q := (.invokevirtual 103, 3, 209, 2)) (av := [.ref 165, .int (Int32.ofInt ((400 + (i : Int)) + 4))]) (rest := []) rfl rfl (by decide) rfl (ym_rcv hA rfl) (Nat.le_of_ble_eq_true rfl) (mo_209t (i := i + 4) hA hx (by omega) (by omega)) ?_
        rintro _ _ ⟨rfl, eA⟩
        rw [eA]
        clear eA
        have hx56 := xtx_ye hx (i + 4)
        refine xr_steps (pc' := 61) (L' := [(0, .ref 165), (1, .int (Int32.ofInt (400 + (i : Int))))]) (st' := [.int (Int32.ofInt 101), .int (Int32.ofInt (xat n f (i + 4)))]) 1 rfl ?_
        refine xr_icmp_ne rfl (by omega) (by omega) (fun z57 => ?_) (fun z57 => ?_)
        · refine xr_steps (pc' := 70) (L' := [(0, .ref 165), (1, .int (Int32.ofInt (400 + (i : Int))))]) (st' := [.int (Int32.ofInt (400 + (i : Int))), .ref 165]) 2 rfl ?_
          refine xr_call (q := (.invokevirtual 103, 3, 209, 2)) (av := [.ref 165, .int (Int32.ofInt (400 + (i : Int)))]) (rest := []) rfl rfl (by decide) rfl (ym_rcv hA rfl) (Nat.le_of_ble_eq_true rfl) (mo_209t (i := i) hA hx (by omega) (by omega)) ?_
          rintro _ _ ⟨rfl, eA⟩
          rw [eA]
          clear eA
          have hx58 := xtx_ye hx i
          refine xr_steps (pc' := 75) (L' := [(0, .ref 165), (1, .int (Int32.ofInt (400 + (i : Int))))]) (st' := [.int (Int32.ofInt 34), .int (Int32.ofInt (xat n f i))]) 1 rfl ?_
          refine xr_icmp_ne rfl (by omega) (by omega) (fun z59 => ?_) (fun z59 => ?_)
          · refine xr_steps (pc' := 127) (L' := [(0, .ref 165), (1, .int (Int32.ofInt (400 + (i : Int))))]) (st' := [.int (Int32.ofInt (400 + (i : Int))), .ref 165]) 2 rfl ?_
            refine xr_call (q := (.invokevirtual 103, 3, 209, 2)) (av := [.ref 165, .int (Int32.ofInt (400 + (i : Int)))]) (rest := []) rfl rfl (by decide) rfl (ym_rcv hA rfl) (Nat.le_of_ble_eq_true rfl) (mo_209t (i := i) hA hx (by omega) (by omega)) ?_
            rintro _ _ ⟨rfl, eA⟩
            rw [eA]
            clear eA
            have hx60 := xtx_ye hx i
            refine xr_steps (pc' := 132) (L' := [(0, .ref 165), (1, .int (Int32.ofInt (400 + (i : Int))))]) (st' := [.int (Int32.ofInt 45), .int (Int32.ofInt (xat n f i))]) 1 rfl ?_
            refine xr_icmp_ne rfl (by omega) (by omega) (fun z61 => ?_) (fun z61 => ?_)
            · refine xr_steps (pc' := 145) (L' := [(2, .int (Int32.ofInt (400 + (i : Int)))), (0, .ref 165), (1, .int (Int32.ofInt (400 + (i : Int))))]) (st' := [.int (Int32.ofInt (400 + (i : Int))), .ref 165]) 4 rfl ?_
              refine xr_call (q := (.invokevirtual 103, 3, 209, 2)) (av := [.ref 165, .int (Int32.ofInt (400 + (i : Int)))]) (rest := []) rfl rfl (by decide) rfl (ym_rcv hA rfl) (Nat.le_of_ble_eq_true rfl) (mo_209t (i := i) hA hx (by omega) (by omega)) ?_
              rintro _ _ ⟨rfl, eA⟩
              rw [eA]
              clear eA
              have hx62 := xtx_ye hx i
              refine xr_steps (pc' := 150) (L' := [(2, .int (Int32.ofInt (400 + (i : Int)))), (0, .ref 165), (1, .int (Int32.ofInt (400 + (i : Int))))]) (st' := [.int (Int32.ofInt 48), .int (Int32.ofInt (xat n f i))]) 1 rfl ?_
              refine xr_icmp_ne rfl (by omega) (by omega) (fun z63 => ?_) (fun z63 => ?_)
              · refine xr_steps (pc' := 159) (L' := [(3, .int (Int32.ofInt (400 + (i : Int)))), (2, .int (Int32.ofInt (400 + (i : Int)))), (0, .ref 165), (1, .int (Int32.ofInt (400 + (i : Int))))]) (st' := []) 2 rfl ?_
                obtain ⟨i0, hi0⟩ : ∃ i0, i0 = i := ⟨_, rfl⟩
                refine xr_loc (L := [(2, .int (Int32.ofInt (400 + (i : Int)))), (3, .int (Int32.ofInt (400 + (i : Int)))), (0, .ref 165), (1, .int (Int32.ofInt (400 + (i : Int))))]) (show [2, 3, 0, 1].Nodup by decide) ⟨rfl, rfl, rfl, rfl, trivial⟩ ?_
                have hloc : xr_ok (xt_G w) (d + 1 + 1) 211 159 [(2, .int (Int32.ofInt (400 + (i0 : Int)))), (3, .int (Int32.ofInt (400 + (i0 : Int)))), (0, .ref 165), (1, .int (Int32.ofInt (400 + (i : Int))))] [] (ym A s t) (fun o A' => ∃ v0, o = .inl v0 ∧ ∃ r : Int, (v0 = some (.int (Int32.ofInt r)) ∧ A' = ym A s t) ∧ xPE (ye n f) i r) := ?_
                · rw [hi0] at hloc; exact hloc
                refine mo_211d (i0 := i0) hA hx 200 i0 (by omega) (by omega) (fun j hj => ?_)
                have hjl := yn_le (ye n f) 48 57 200 i0
                have hji : j ≤ 400 := by omega
                refine xr_steps (pc' := 178) (L' := [(2, .int (Int32.ofInt (400 + (j : Int)))), (3, .int (Int32.ofInt (400 + (i0 : Int)))), (0, .ref 165), (1, .int (Int32.ofInt (400 + (i : Int))))]) (st' := [.int (Int32.ofInt (400 + (i0 : Int))), .int (Int32.ofInt (400 + (j : Int)))]) 2 rfl ?_
                refine xr_icmp_le rfl (by omega) (by omega) (fun z64 => ?_) (fun z64 => ?_)
                · refine xr_steps (pc' := 203) (L' := [(2, .int (Int32.ofInt (400 + (j : Int)))), (3, .int (Int32.ofInt (400 + (i0 : Int)))), (0, .ref 165), (1, .int (Int32.ofInt (400 + (i : Int))))]) (st' := [.int (Int32.ofInt (-1))]) 1 rfl ?_
                  refine xr_retI2 rfl rfl ⟨_, rfl, _, ⟨rfl, rfl⟩, ?_⟩
                  exact xpl_else (by omega) (by omega) (by omega) (by omega) (by omega) (i0 := i0) (by omega) hj (by omega)
                · refine xr_steps (pc' := 184) (L' := [(2, .int (Int32.ofInt (400 + (j : Int)))), (3, .int (Int32.ofInt (400 + (i0 : Int)))), (0, .ref 165), (1, .int (Int32.ofInt (400 + (i : Int))))]) (st' := [.int (Int32.ofInt 5), .int (Int32.ofInt (400 + (i0 : Int))), .int (Int32.ofInt (400 + (j : Int)))]) 3 rfl ?_
                  refine xr_iadd rfl ?_
                  refine xr_icmp_gt rfl (by omega) (by omega) (fun z65 => ?_) (fun z65 => ?_)
                  · refine xr_steps (pc' := 203) (L' := [(2, .int (Int32.ofInt (400 + (j : Int)))), (3, .int (Int32.ofInt (400 + (i0 : Int)))), (0, .ref 165), (1, .int (Int32.ofInt (400 + (i : Int))))]) (st' := [.int (Int32.ofInt (-1))]) 1 rfl ?_
                    refine xr_retI2 rfl rfl ⟨_, rfl, _, ⟨rfl, rfl⟩, ?_⟩
                    exact xpl_else (by omega) (by omega) (by omega) (by omega) (by omega) (i0 := i0) (by omega) hj (by omega)
                  · refine xr_steps (pc' := 190) (L' := [(2, .int (Int32.ofInt (400 + (j : Int)))), (3, .int (Int32.ofInt (400 + (i0 : Int)))), (0, .ref 165), (1, .int (Int32.ofInt (400 + (i : Int))))]) (st' := [.int (Int32.ofInt (400 + (i0 : Int))), .ref 165]) 2 rfl ?_
                    refine xr_call (q := (.invokevirtual 103, 3, 209, 2)) (av := [.ref 165, .int (Int32.ofInt (400 + (i0 : Int)))]) (rest := []) rfl rfl (by decide) rfl (ym_rcv hA rfl) (Nat.le_of_ble_eq_true rfl) (mo_209t (i := i0) hA hx (by omega) (by omega)) ?_
                    rintro _ _ ⟨rfl, eA⟩
                    rw [eA]
                    clear eA
                    have hx66 := xtx_ye hx i0
                    refine xr_steps (pc' := 195) (L' := [(2, .int (Int32.ofInt (400 + (j : Int)))), (3, .int (Int32.ofInt (400 + (i0 : Int)))), (0, .ref 165), (1, .int (Int32.ofInt (400 + (i : Int))))]) (st' := [.int (Int32.ofInt 48), .int (Int32.ofInt (xat n f i0))]) 1 rfl ?_
                    refine xr_icmp_eq rfl (by omega) (by omega) (fun z67 => ?_) (fun z67 => ?_)
                    · refine xr_steps (pc' := 203) (L' := [(2, .int (Int32.ofInt (400 + (j : Int)))), (3, .int (Int32.ofInt (400 + (i0 : Int)))), (0, .ref 165), (1, .int (Int32.ofInt (400 + (i : Int))))]) (st' := [.int (Int32.ofInt (-1))]) 1 rfl ?_
                      refine xr_retI2 rfl rfl ⟨_, rfl, _, ⟨rfl, rfl⟩, ?_⟩
                      exact xpl_else (by omega) (by omega) (by omega) (by omega) (by omega) (i0 := i0) (by omega) hj (by omega)
                    · refine xr_steps (pc' := 203) (L' := [(2, .int (Int32.ofInt (400 + (j : Int)))), (3, .int (Int32.ofInt (400 + (i0 : Int)))), (0, .ref 165), (1, .int (Int32.ofInt (400 + (i : Int))))]) (st' := [.int (Int32.ofInt (400 + (j : Int)))]) 2 rfl ?_
                      refine xr_retI2 rfl rfl ⟨_, rfl, _, ⟨rfl, rfl⟩, ?_⟩
                      exact xpl_else (by omega) (by omega) (by omega) (by omega) (by omega) (i0 := i0) (by omega) hj (by omega)
              · refine xr_steps (pc' := 155) (L' := [(2, .int (Int32.ofInt (400 + (i : Int)))), (0, .ref 165), (1, .int (Int32.ofInt (400 + (i : Int))))]) (st' := [.int (Int32.ofInt 1), .int (Int32.ofInt (400 + (i : Int)))]) 2 rfl ?_
                refine xr_iadd rfl ?_
                refine xr_retI2 rfl rfl ⟨_, rfl, _, ⟨rfl, rfl⟩, ?_⟩
                exact xpl_zero (by omega) rfl
            · refine xr_steps (pc' := 137) (L' := [(0, .ref 165), (1, .int (Int32.ofInt (400 + (i : Int))))]) (st' := [.int (Int32.ofInt 1), .int (Int32.ofInt (400 + (i : Int)))]) 2 rfl ?_
              refine xr_iadd rfl ?_
              refine xr_steps (pc' := 145) (L' := [(2, .int (Int32.ofInt ((400 + (i : Int)) + 1))), (0, .ref 165), (1, .int (Int32.ofInt (400 + (i : Int))))]) (st' := [.int (Int32.ofInt (400 + (i : Int))), .ref 165]) 4 rfl ?_
              refine xr_call (q := (.invokevirtual 103, 3, 209, 2)) (av := [.ref 165, .int (Int32.ofInt (400 + (i : Int)))]) (rest := []) rfl rfl (by decide) rfl (ym_rcv hA rfl) (Nat.le_of_ble_eq_true rfl) (mo_209t (i := i) hA hx (by omega) (by omega)) ?_
              rintro _ _ ⟨rfl, eA⟩
              rw [eA]
              clear eA
              have hx68 := xtx_ye hx i
              refine xr_steps (pc' := 150) (L' := [(2, .int (Int32.ofInt ((400 + (i : Int)) + 1))), (0, .ref 165), (1, .int (Int32.ofInt (400 + (i : Int))))]) (st' := [.int (Int32.ofInt 48), .int (Int32.ofInt (xat n f i))]) 1 rfl ?_
              refine xr_icmp_ne rfl (by omega) (by omega) (fun z69 => ?_) (fun z69 => ?_)
              · refine xr_steps (pc' := 159) (L' := [(3, .int (Int32.ofInt ((400 + (i : Int)) + 1))), (2, .int (Int32.ofInt ((400 + (i : Int)) + 1))), (0, .ref 165), (1, .int (Int32.ofInt (400 + (i : Int))))]) (st' := []) 2 rfl ?_
                rw [show 400 + (i : Int) + 1 = 400 + ((i + 1 : Nat) : Int) by omega]
                obtain ⟨i0, hi0⟩ : ∃ i0, i0 = i + 1 := ⟨_, rfl⟩
                rw [← hi0]
                refine xr_loc (L := [(2, .int (Int32.ofInt (400 + (i0 : Int)))), (3, .int (Int32.ofInt (400 + (i0 : Int)))), (0, .ref 165), (1, .int (Int32.ofInt (400 + (i : Int))))]) (show [2, 3, 0, 1].Nodup by decide) ⟨rfl, rfl, rfl, rfl, trivial⟩ ?_
                refine mo_211d (i0 := i0) hA hx 200 i0 (by omega) (by omega) (fun j hj => ?_)
                have hjl := yn_le (ye n f) 48 57 200 i0
                have hji : j ≤ 400 := by omega
                refine xr_steps (pc' := 178) (L' := [(2, .int (Int32.ofInt (400 + (j : Int)))), (3, .int (Int32.ofInt (400 + (i0 : Int)))), (0, .ref 165), (1, .int (Int32.ofInt (400 + (i : Int))))]) (st' := [.int (Int32.ofInt (400 + (i0 : Int))), .int (Int32.ofInt (400 + (j : Int)))]) 2 rfl ?_
                refine xr_icmp_le rfl (by omega) (by omega) (fun z70 => ?_) (fun z70 => ?_)
                · refine xr_steps (pc' := 203) (L' := [(2, .int (Int32.ofInt (400 + (j : Int)))), (3, .int (Int32.ofInt (400 + (i0 : Int)))), (0, .ref 165), (1, .int (Int32.ofInt (400 + (i : Int))))]) (st' := [.int (Int32.ofInt (-1))]) 1 rfl ?_
                  refine xr_retI2 rfl rfl ⟨_, rfl, _, ⟨rfl, rfl⟩, ?_⟩
                  exact xpl_else (by omega) (by omega) (by omega) (by omega) (by omega) (i0 := i0) (by omega) hj (by omega)
                · refine xr_steps (pc' := 184) (L' := [(2, .int (Int32.ofInt (400 + (j : Int)))), (3, .int (Int32.ofInt (400 + (i0 : Int)))), (0, .ref 165), (1, .int (Int32.ofInt (400 + (i : Int))))]) (st' := [.int (Int32.ofInt 5), .int (Int32.ofInt (400 + (i0 : Int))), .int (Int32.ofInt (400 + (j : Int)))]) 3 rfl ?_
                  refine xr_iadd rfl ?_
                  refine xr_icmp_gt rfl (by omega) (by omega) (fun z71 => ?_) (fun z71 => ?_)
                  · refine xr_steps (pc' := 203) (L' := [(2, .int (Int32.ofInt (400 + (j : Int)))), (3, .int (Int32.ofInt (400 + (i0 : Int)))), (0, .ref 165), (1, .int (Int32.ofInt (400 + (i : Int))))]) (st' := [.int (Int32.ofInt (-1))]) 1 rfl ?_
                    refine xr_retI2 rfl rfl ⟨_, rfl, _, ⟨rfl, rfl⟩, ?_⟩
                    exact xpl_else (by omega) (by omega) (by omega) (by omega) (by omega) (i0 := i0) (by omega) hj (by omega)
                  · refine xr_steps (pc' := 190) (L' := [(2, .int (Int32.ofInt (400 + (j : Int)))), (3, .int (Int32.ofInt (400 + (i0 : Int)))), (0, .ref 165), (1, .int (Int32.ofInt (400 + (i : Int))))]) (st' := [.int (Int32.ofInt (400 + (i0 : Int))), .ref 165]) 2 rfl ?_
                    refine xr_call (q := (.invokevirtual 103, 3, 209, 2)) (av := [.ref 165, .int (Int32.ofInt (400 + (i0 : Int)))]) (rest := []) rfl rfl (by decide) rfl (ym_rcv hA rfl) (Nat.le_of_ble_eq_true rfl) (mo_209t (i := i0) hA hx (by omega) (by omega)) ?_
                    rintro _ _ ⟨rfl, eA⟩
                    rw [eA]
                    clear eA
                    have hx72 := xtx_ye hx i0
                    refine xr_steps (pc' := 195) (L' := [(2, .int (Int32.ofInt (400 + (j : Int)))), (3, .int (Int32.ofInt (400 + (i0 : Int)))), (0, .ref 165), (1, .int (Int32.ofInt (400 + (i : Int))))]) (st' := [.int (Int32.ofInt 48), .int (Int32.ofInt (xat n f i0))]) 1 rfl ?_
                    refine xr_icmp_eq rfl (by omega) (by omega) (fun z73 => ?_) (fun z73 => ?_)
                    · refine xr_steps (pc' := 203) (L' := [(2, .int (Int32.ofInt (400 + (j : Int)))), (3, .int (Int32.ofInt (400 + (i0 : Int)))), (0, .ref 165), (1, .int (Int32.ofInt (400 + (i : Int))))]) (st' := [.int (Int32.ofInt (-1))]) 1 rfl ?_
                      refine xr_retI2 rfl rfl ⟨_, rfl, _, ⟨rfl, rfl⟩, ?_⟩
                      exact xpl_else (by omega) (by omega) (by omega) (by omega) (by omega) (i0 := i0) (by omega) hj (by omega)
                    · refine xr_steps (pc' := 203) (L' := [(2, .int (Int32.ofInt (400 + (j : Int)))), (3, .int (Int32.ofInt (400 + (i0 : Int)))), (0, .ref 165), (1, .int (Int32.ofInt (400 + (i : Int))))]) (st' := [.int (Int32.ofInt (400 + (j : Int)))]) 2 rfl ?_
                      refine xr_retI2 rfl rfl ⟨_, rfl, _, ⟨rfl, rfl⟩, ?_⟩
                      exact xpl_else (by omega) (by omega) (by omega) (by omega) (by omega) (i0 := i0) (by omega) hj (by omega)
              · refine xr_steps (pc' := 155) (L' := [(2, .int (Int32.ofInt ((400 + (i : Int)) + 1))), (0, .ref 165), (1, .int (Int32.ofInt (400 + (i : Int))))]) (st' := [.int (Int32.ofInt 1), .int (Int32.ofInt (400 + (i : Int)))]) 2 rfl ?_
                refine xr_iadd rfl ?_
                refine xr_retI2 rfl rfl ⟨_, rfl, _, ⟨rfl, rfl⟩, ?_⟩
                exact xpl_zero (by omega) rfl
          · refine xr_steps (pc' := 80) (L' := [(0, .ref 165), (1, .int (Int32.ofInt (400 + (i : Int))))]) (st' := [.int (Int32.ofInt 1), .int (Int32.ofInt (400 + (i : Int)))]) 2 rfl ?_
            refine xr_iadd rfl ?_
            refine xr_steps (pc' := 82) (L' := [(2, .int (Int32.ofInt ((400 + (i : Int)) + 1))), (0, .ref 165), (1, .int (Int32.ofInt (400 + (i : Int))))]) (st' := []) 1 rfl ?_
            rw [show 400 + (i : Int) + 1 = 400 + ((i + 1 : Nat) : Int) by omega]
            refine mo_211a hA hx 200 (i + 1) (by omega) (by omega) (fun j hj => ?_)
            have hjl := yn_le (ye n f) 97 122 200 (i + 1)
            have hji : j ≤ 400 := by omega
            refine xr_steps (pc' := 101) (L' := [(2, .int (Int32.ofInt (400 + (j : Int)))), (0, .ref 165), (1, .int (Int32.ofInt (400 + (i : Int))))]) (st' := [.int (Int32.ofInt (400 + (j : Int))), .ref 165]) 2 rfl ?_
            refine xr_call (q := (.invokevirtual 103, 3, 209, 2)) (av := [.ref 165, .int (Int32.ofInt (400 + (j : Int)))]) (rest := []) rfl rfl (by decide) rfl (ym_rcv hA rfl) (Nat.le_of_ble_eq_true rfl) (mo_209t (i := j) hA hx (by omega) (by omega)) ?_
            rintro _ _ ⟨rfl, eA⟩
            rw [eA]
            clear eA
            have hx74 := xtx_ye hx j
            refine xr_steps (pc' := 106) (L' := [(2, .int (Int32.ofInt (400 + (j : Int)))), (0, .ref 165), (1, .int (Int32.ofInt (400 + (i : Int))))]) (st' := [.int (Int32.ofInt 34), .int (Int32.ofInt (xat n f j))]) 1 rfl ?_
            refine xr_icmp_ne rfl (by omega) (by omega) (fun z75 => ?_) (fun z75 => ?_)
            · refine xr_steps (pc' := 124) (L' := [(2, .int (Int32.ofInt (400 + (j : Int)))), (0, .ref 165), (1, .int (Int32.ofInt (400 + (i : Int))))]) (st' := [.int (Int32.ofInt (-1))]) 1 rfl ?_
              refine xr_retI2 rfl rfl ⟨_, rfl, _, ⟨rfl, rfl⟩, ?_⟩
              exact xpl_strn (by omega) hj (by omega) rfl
            · refine xr_steps (pc' := 111) (L' := [(2, .int (Int32.ofInt (400 + (j : Int)))), (0, .ref 165), (1, .int (Int32.ofInt (400 + (i : Int))))]) (st' := [.int (Int32.ofInt (400 + (i : Int))), .int (Int32.ofInt (400 + (j : Int)))]) 2 rfl ?_
              refine xr_isub rfl ?_
              refine xr_steps (pc' := 114) (L' := [(2, .int (Int32.ofInt (400 + (j : Int)))), (0, .ref 165), (1, .int (Int32.ofInt (400 + (i : Int))))]) (st' := [.int (Int32.ofInt 13), .int (Int32.ofInt ((400 + (j : Int)) - (400 + (i : Int))))]) 1 rfl ?_
              refine xr_icmp_gt rfl (by omega) (by omega) (fun z76 => ?_) (fun z76 => ?_)
              · refine xr_steps (pc' := 124) (L' := [(2, .int (Int32.ofInt (400 + (j : Int)))), (0, .ref 165), (1, .int (Int32.ofInt (400 + (i : Int))))]) (st' := [.int (Int32.ofInt (-1))]) 1 rfl ?_
                refine xr_retI2 rfl rfl ⟨_, rfl, _, ⟨rfl, rfl⟩, ?_⟩
                exact xpl_strn (by omega) hj (by omega) rfl
              · refine xr_steps (pc' := 119) (L' := [(2, .int (Int32.ofInt (400 + (j : Int)))), (0, .ref 165), (1, .int (Int32.ofInt (400 + (i : Int))))]) (st' := [.int (Int32.ofInt 1), .int (Int32.ofInt (400 + (j : Int)))]) 2 rfl ?_
                refine xr_iadd rfl ?_
                refine xr_steps (pc' := 124) (L' := [(2, .int (Int32.ofInt (400 + (j : Int)))), (0, .ref 165), (1, .int (Int32.ofInt (400 + (i : Int))))]) (st' := [.int (Int32.ofInt ((400 + (j : Int)) + 1))]) 1 rfl ?_
                refine xr_retI2 rfl rfl ⟨_, rfl, _, ⟨rfl, rfl⟩, ?_⟩
                exact xpl_str (by omega) hj (by omega) (by omega) rfl
        · refine xr_steps (pc' := 66) (L' := [(0, .ref 165), (1, .int (Int32.ofInt (400 + (i : Int))))]) (st' := [.int (Int32.ofInt 5), .int (Int32.ofInt (400 + (i : Int)))]) 2 rfl ?_
          refine xr_iadd rfl ?_
          refine xr_retI2 rfl rfl ⟨_, rfl, _, ⟨rfl, rfl⟩, ?_⟩
          exact xpl_false (by omega) rfl
    · refine xr_steps (pc' := 34) (L' := [(0, .ref 165), (1, .int (Int32.ofInt (400 + (i : Int))))]) (st' := [.int (Int32.ofInt 4), .int (Int32.ofInt (400 + (i : Int)))]) 2 rfl ?_
      refine xr_iadd rfl ?_
      refine xr_retI2 rfl rfl ⟨_, rfl, _, ⟨rfl, rfl⟩, ?_⟩
      first | exact xpl_null (by omega) rfl | exact xpl_true (by omega) rfl
