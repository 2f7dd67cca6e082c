/-! What a matcher says of a string -/
section MH
variable {w : Value} {d : Nat} {A : xb_H} {ma sm vm m wo vw n : Nat} {g f : Nat → Int} {sg bd : Int} {Q : xb_R → xb_H → Prop}
theorem mm_192l {st : Nat} (hw : w = .null ∨ w = .ref 19) (h1 : xb_get A ma = some (.inr (4, [.int (Int32.ofInt sg), .int (Int32.ofInt bd), .ref sm]))) (hs : ys A sm vm m g) (hv : ys A wo vw n f) (hst : st + m ≤ n) (hm : n ≤ 100) : ∀ (k i : Nat), i + k = m → (∀ b : Int, ((b = 1 ∧ ∀ j : Nat, i ≤ j → j < m → f (st + j) = g j) ∨ (b = 0 ∧ ¬ ∀ j : Nat, i ≤ j → j < m → f (st + j) = g j)) → Q (.inl (some (.int (Int32.ofInt b)))) A) → xr_ok (xt_G w) (d + 1 + 1 + 1 + 1) 192 2 [(3, .int (Int32.ofInt (i : Int))), (0, .ref ma), (1, .ref wo), (2, .int (Int32.ofInt (st : Int)))] [] A Q := by
  intro k
  induction k using Nat.strongRecOn with
  | _ k ih =>
    intro i hi hQ
    refine xr_steps (pc' := 4) (L' := [(3, .int (Int32.ofInt (i : Int))), (0, .ref ma), (1, .ref wo), (2, .int (Int32.ofInt (st : Int)))]) (st' := [.ref ma, .int (Int32.ofInt (i : Int))]) 2 rfl ?_
    refine xr_getf (v := .ref sm) rfl h1 rfl ?_
    refine xr_call (q := (.invokevirtual 103, 3, 69, 1)) (av := [.ref sm]) (rest := [.int (Int32.ofInt (i : Int))]) rfl rfl (by decide) rfl (xr_rcv rfl hs.1.choose_spec.1) (Nat.le_of_ble_eq_true rfl) (ms_69 hs) ?_
    rintro _ _ ⟨rfl, eA⟩
    rw [eA]
    clear eA
    refine xr_icmp_ge rfl (by omega) (by omega) (fun z31 => ?_) (fun z31 => ?_)
    · refine xr_steps (pc' := 50) (L' := [(3, .int (Int32.ofInt (i : Int))), (0, .ref ma), (1, .ref wo), (2, .int (Int32.ofInt (st : Int)))]) (st' := [.int (Int32.ofInt 1)]) 1 rfl ?_
      exact xr_retZ rfl rfl (by omega) (hQ _ (Or.inl ⟨rfl, fun j h1 h2 => absurd h2 (by omega)⟩))
    · refine xr_steps (pc' := 15) (L' := [(3, .int (Int32.ofInt (i : Int))), (0, .ref ma), (1, .ref wo), (2, .int (Int32.ofInt (st : Int)))]) (st' := [.int (Int32.ofInt (i : Int)), .int (Int32.ofInt (st : Int))]) 2 rfl ?_
      refine xr_iadd rfl ?_
      refine xr_steps (pc' := 17) (L' := [(3, .int (Int32.ofInt (i : Int))), (0, .ref ma), (1, .ref wo), (2, .int (Int32.ofInt (st : Int)))]) (st' := [.ref wo, .int (Int32.ofInt ((st : Int) + (i : Int)))]) 1 rfl ?_
      refine xr_call (q := (.invokevirtual 103, 3, 69, 1)) (av := [.ref wo]) (rest := [.int (Int32.ofInt ((st : Int) + (i : Int)))]) rfl rfl (by decide) rfl (xr_rcv rfl hv.1.choose_spec.1) (Nat.le_of_ble_eq_true rfl) (ms_69 hv) ?_
      rintro _ _ ⟨rfl, eA⟩
      rw [eA]
      clear eA
      refine xr_icmp_ge rfl (by omega) (by omega) (fun z32 => ?_) (fun z32 => ?_)
      · refine xr_steps (pc' := 50) (L' := [(3, .int (Int32.ofInt (i : Int))), (0, .ref ma), (1, .ref wo), (2, .int (Int32.ofInt (st : Int)))]) (st' := [.int (Int32.ofInt 1)]) 1 rfl ?_
        exact xr_retZ rfl rfl (by omega) (hQ _ (Or.inl ⟨rfl, fun j h1 h2 => absurd h2 (by omega)⟩))
      · refine xr_steps (pc' := 26) (L' := [(3, .int (Int32.ofInt (i : Int))), (0, .ref ma), (1, .ref wo), (2, .int (Int32.ofInt (st : Int)))]) (st' := [.int (Int32.ofInt (i : Int)), .int (Int32.ofInt (st : Int)), .ref wo]) 3 rfl ?_
        refine xr_iadd rfl ?_
        have r33 := hv.2.2.2 (st + i) (by omega)
        refine xr_call (q := (.invokevirtual 112, 3, 71, 2)) (av := [.ref wo, .int (Int32.ofInt ((st : Int) + (i : Int)))]) (rest := []) rfl rfl (by decide) rfl (xr_rcv rfl hv.1.choose_spec.1) (Nat.le_of_ble_eq_true rfl) (ms_71 hw hv (by omega)) ?_
        rintro _ _ ⟨rfl, eA⟩
        rw [eA]
        clear eA
        rw [show ((st : Int) + (i : Int)).toNat = st + i by omega]
        refine xr_steps (pc' := 31) (L' := [(3, .int (Int32.ofInt (i : Int))), (0, .ref ma), (1, .ref wo), (2, .int (Int32.ofInt (st : Int)))]) (st' := [.ref ma, .int (Int32.ofInt (f (st + i)))]) 1 rfl ?_
        refine xr_getf (v := .ref sm) rfl h1 rfl ?_
        refine xr_steps (pc' := 35) (L' := [(3, .int (Int32.ofInt (i : Int))), (0, .ref ma), (1, .ref wo), (2, .int (Int32.ofInt (st : Int)))]) (st' := [.int (Int32.ofInt (i : Int)), .ref sm, .int (Int32.ofInt (f (st + i)))]) 1 rfl ?_
        have r34 := hs.2.2.2 i (by omega)
        refine xr_call (q := (.invokevirtual 112, 3, 71, 2)) (av := [.ref sm, .int (Int32.ofInt (i : Int))]) (rest := [.int (Int32.ofInt (f (st + i)))]) rfl rfl (by decide) rfl (xr_rcv rfl hs.1.choose_spec.1) (Nat.le_of_ble_eq_true rfl) (ms_71 hw hs (by omega)) ?_
        rintro _ _ ⟨rfl, eA⟩
        rw [eA]
        clear eA
        rw [show (i : Int).toNat = i by omega]
        refine xr_icmp_eq rfl (by omega) (by omega) (fun z35 => ?_) (fun z35 => ?_)
        · refine xr_iinc (L' := [(3, .int (Int32.ofInt ((i : Int) + 1))), (0, .ref ma), (1, .ref wo), (2, .int (Int32.ofInt (st : Int)))]) rfl rfl rfl ?_
          refine xr_steps (pc' := 2) (L' := [(3, .int (Int32.ofInt ((i : Int) + 1))), (0, .ref ma), (1, .ref wo), (2, .int (Int32.ofInt (st : Int)))]) (st' := []) 1 rfl ?_
          refine xr_loc (L := [(3, .int (Int32.ofInt ((i : Int) + 1))), (0, .ref ma), (1, .ref wo), (2, .int (Int32.ofInt (st : Int)))]) (show [3, 0, 1, 2].Nodup by decide) ⟨rfl, rfl, rfl, rfl, trivial⟩ ?_
          have ei : (i : Int) + 1 = ((i + 1 : Nat) : Int) := by omega
          rw [ei]
          refine ih (k - 1) (by omega) (i + 1) (by omega) (fun b hb => hQ b ?_)
          rcases hb with ⟨h1, h2⟩ | ⟨h1, h2⟩
          · refine Or.inl ⟨h1, fun j hj hn => ?_⟩
            by_cases e : j = i
            · rw [e]; exact z35
            · exact h2 j (by omega) hn
          · exact Or.inr ⟨h1, fun h => h2 fun j hj hn => h j (by omega) hn⟩
        · refine xr_steps (pc' := 42) (L' := [(3, .int (Int32.ofInt (i : Int))), (0, .ref ma), (1, .ref wo), (2, .int (Int32.ofInt (st : Int)))]) (st' := [.int (Int32.ofInt 0)]) 1 rfl ?_
          exact xr_retZ rfl rfl (by omega) (hQ _ (Or.inr ⟨rfl, fun h => z35 (h i (Nat.le_refl _) (by omega))⟩))
theorem mm_192 {st : Nat} (hw : w = .null ∨ w = .ref 19) (h1 : xb_get A ma = some (.inr (4, [.int (Int32.ofInt sg), .int (Int32.ofInt bd), .ref sm]))) (hs : ys A sm vm m g) (hv : ys A wo vw n f) (hst : st + m ≤ n) (hm : n ≤ 100) : xr_ok (xt_G w) (d + 1 + 1 + 1 + 1) 192 0 [(0, .ref ma), (1, .ref wo), (2, .int (Int32.ofInt (st : Int)))] [] A (fun o A' => ∃ v0, o = .inl v0 ∧ ∃ b : Int, (v0 = some (.int (Int32.ofInt b)) ∧ A' = A) ∧ ((b = 1 ∧ ∀ j : Nat, j < m → f (st + j) = g j) ∨ (b = 0 ∧ ¬ ∀ j : Nat, j < m → f (st + j) = g j))) := by
  refine xr_steps (pc' := 2) (L' := [(3, .int (Int32.ofInt 0)), (0, .ref ma), (1, .ref wo), (2, .int (Int32.ofInt (st : Int)))]) (st' := []) 2 rfl ?_
  refine mm_192l hw h1 hs hv hst hm m 0 (by omega) (fun b hb => ⟨_, rfl, b, ⟨rfl, rfl⟩, ?_⟩)
  rcases hb with ⟨h1, h2⟩ | ⟨h1, h2⟩
  · exact Or.inl ⟨h1, fun j hj => h2 j (Nat.zero_le _) hj⟩
  · exact Or.inr ⟨h1, fun h => h2 fun j _ hj => h j hj⟩
theorem mm_191l (hw : w = .null ∨ w = .ref 19) (h1 : xb_get A ma = some (.inr (4, [.int (Int32.ofInt sg), .int (Int32.ofInt bd), .ref sm]))) (hs : ys A sm vm m g) (hv : ys A wo vw n f) (hm : n ≤ 100) (hmm : m ≤ 1000) : ∀ (k i : Nat), i + k = n + 1 → (∀ b : Int, ((b = 1 ∧ ∃ s : Nat, i ≤ s ∧ s + m ≤ n ∧ ∀ j : Nat, j < m → f (s + j) = g j) ∨ (b = 0 ∧ ¬ ∃ s : Nat, i ≤ s ∧ s + m ≤ n ∧ ∀ j : Nat, j < m → f (s + j) = g j)) → Q (.inl (some (.int (Int32.ofInt b)))) A) → xr_ok (xt_G w) (d + 1 + 1 + 1 + 1 + 1) 191 2 [(2, .int (Int32.ofInt (i : Int))), (0, .ref ma), (1, .ref wo)] [] A Q := by
  intro k
  induction k using Nat.strongRecOn with
  | _ k ih =>
    intro i hi hQ
    refine xr_steps (pc' := 4) (L' := [(2, .int (Int32.ofInt (i : Int))), (0, .ref ma), (1, .ref wo)]) (st' := [.ref ma, .int (Int32.ofInt (i : Int))]) 2 rfl ?_
    refine xr_getf (v := .ref sm) rfl h1 rfl ?_
    refine xr_call (q := (.invokevirtual 103, 3, 69, 1)) (av := [.ref sm]) (rest := [.int (Int32.ofInt (i : Int))]) rfl rfl (by decide) rfl (xr_rcv rfl hs.1.choose_spec.1) (Nat.le_of_ble_eq_true rfl) (ms_69 hs) ?_
    rintro _ _ ⟨rfl, eA⟩
    rw [eA]
    clear eA
    refine xr_iadd rfl ?_
    refine xr_steps (pc' := 12) (L' := [(2, .int (Int32.ofInt (i : Int))), (0, .ref ma), (1, .ref wo)]) (st' := [.ref wo, .int (Int32.ofInt ((i : Int) + (m : Int)))]) 1 rfl ?_
    refine xr_call (q := (.invokevirtual 103, 3, 69, 1)) (av := [.ref wo]) (rest := [.int (Int32.ofInt ((i : Int) + (m : Int)))]) rfl rfl (by decide) rfl (xr_rcv rfl hv.1.choose_spec.1) (Nat.le_of_ble_eq_true rfl) (ms_69 hv) ?_
    rintro _ _ ⟨rfl, eA⟩
    rw [eA]
    clear eA
    refine xr_icmp_gt rfl (by omega) (by omega) (fun z31 => ?_) (fun z31 => ?_)
    · refine xr_steps (pc' := 36) (L' := [(2, .int (Int32.ofInt (i : Int))), (0, .ref ma), (1, .ref wo)]) (st' := [.int (Int32.ofInt 0)]) 1 rfl ?_
      exact xr_retZ rfl rfl (by omega) (hQ _ (Or.inr ⟨rfl, fun ⟨s, h1, h2, h3⟩ => absurd h2 (by omega)⟩))
    · refine xr_steps (pc' := 21) (L' := [(2, .int (Int32.ofInt (i : Int))), (0, .ref ma), (1, .ref wo)]) (st' := [.int (Int32.ofInt (i : Int)), .ref wo, .ref ma]) 3 rfl ?_
      refine xr_call (q := (.invokevirtual 108, 3, 192, 3)) (av := [.ref ma, .ref wo, .int (Int32.ofInt (i : Int))]) (rest := []) rfl rfl (by decide) rfl (xr_rcv rfl h1) (Nat.le_of_ble_eq_true rfl) (mm_192 hw h1 hs hv (by omega) hm) ?_
      rintro _ _ ⟨b, ⟨rfl, eA⟩, hb⟩
      rw [eA]
      clear eA
      have hb01 : b = 0 ∨ b = 1 := by omega
      refine xr_if_eq rfl (by omega) (fun z32 => ?_) (fun z32 => ?_)
      · refine xr_iinc (L' := [(2, .int (Int32.ofInt ((i : Int) + 1))), (0, .ref ma), (1, .ref wo)]) rfl rfl rfl ?_
        refine xr_steps (pc' := 2) (L' := [(2, .int (Int32.ofInt ((i : Int) + 1))), (0, .ref ma), (1, .ref wo)]) (st' := []) 1 rfl ?_
        refine xr_loc (L := [(2, .int (Int32.ofInt ((i : Int) + 1))), (0, .ref ma), (1, .ref wo)]) (show [2, 0, 1].Nodup by decide) ⟨rfl, rfl, rfl, trivial⟩ ?_
        have ei : (i : Int) + 1 = ((i + 1 : Nat) : Int) := by omega
        rw [ei]
        have hb2 : ¬ (∀ j : Nat, j < m → f (i + j) = g j) := by
          rcases hb with ⟨h, -⟩ | ⟨-, h⟩
          · omega
          · exact h
        refine ih (k - 1) (by omega) (i + 1) (by omega) (fun b hb => hQ b ?_)
        rcases hb with ⟨h1, s, h2, h3, h4⟩ | ⟨h1, h2⟩
        · exact Or.inl ⟨h1, s, by omega, h3, h4⟩
        · refine Or.inr ⟨h1, ?_⟩
          rintro ⟨s, h3, h4, h5⟩
          by_cases e : s = i
          · rw [e] at h5; exact hb2 h5
          · exact h2 ⟨s, by omega, h4, h5⟩
      · refine xr_steps (pc' := 28) (L' := [(2, .int (Int32.ofInt (i : Int))), (0, .ref ma), (1, .ref wo)]) (st' := [.int (Int32.ofInt 1)]) 1 rfl ?_
        have hb2 : ∀ j : Nat, j < m → f (i + j) = g j := by
          rcases hb with ⟨-, h⟩ | ⟨h, -⟩
          · exact h
          · omega
        exact xr_retZ rfl rfl (by omega) (hQ _ (Or.inl ⟨rfl, i, Nat.le_refl _, by omega, hb2⟩))
theorem mm_191 (hw : w = .null ∨ w = .ref 19) (h1 : xb_get A ma = some (.inr (4, [.int (Int32.ofInt sg), .int (Int32.ofInt bd), .ref sm]))) (hs : ys A sm vm m g) (hv : ys A wo vw n f) (hm : n ≤ 100) (hmm : m ≤ 1000) : xr_ok (xt_G w) (d + 1 + 1 + 1 + 1 + 1) 191 0 [(0, .ref ma), (1, .ref wo)] [] A (fun o A' => ∃ v0, o = .inl v0 ∧ ∃ b : Int, (v0 = some (.int (Int32.ofInt b)) ∧ A' = A) ∧ ((b = 1 ∧ ∃ s : Nat, s + m ≤ n ∧ ∀ j : Nat, j < m → f (s + j) = g j) ∨ (b = 0 ∧ ¬ ∃ s : Nat, s + m ≤ n ∧ ∀ j : Nat, j < m → f (s + j) = g j))) := by
  refine xr_steps (pc' := 2) (L' := [(2, .int (Int32.ofInt 0)), (0, .ref ma), (1, .ref wo)]) (st' := []) 2 rfl ?_
  refine mm_191l hw h1 hs hv hm hmm (n + 1) 0 (by omega) (fun b hb => ⟨_, rfl, b, ⟨rfl, rfl⟩, ?_⟩)
  rcases hb with ⟨h1, s, h2, h3, h4⟩ | ⟨h1, h2⟩
  · exact Or.inl ⟨h1, s, h3, h4⟩
  · exact Or.inr ⟨h1, fun ⟨s, h3, h4⟩ => h2 ⟨s, Nat.zero_le _, h3, h4⟩⟩
theorem mm_195 {x : Int32} {j : Nat} (hj : j < 31) {b : Int} (hb : (b = 1 ∧ (xbt x j = true)) ∨ (b = 0 ∧ ¬ (xbt x j = true))) : xr_ok (xt_G w) d 195 0 [(0, .int x), (1, .int (Int32.ofInt (j : Int)))] [] A (fun o A' => ∃ v0, o = .inl v0 ∧ v0 = some (.int (Int32.ofInt b)) ∧ A' = A) := by
  refine xr_steps (pc' := 5) (L' := [(0, .int x), (1, .int (Int32.ofInt (j : Int)))]) (st' := [.int ((x >>> (Int32.ofInt (j : Int) &&& 31)) &&& Int32.ofInt 1)]) 5 rfl ?_
  rw [xbt_get x hj]
  have hz : -2147483648 ≤ (if xbt x j = true then 1 else 0 : Int) ∧ (if xbt x j = true then 1 else 0 : Int) ≤ 2147483647 := by split <;> omega
  refine xr_steps (pc' := 6) (L' := [(0, .int x), (1, .int (Int32.ofInt (j : Int)))]) (st' := [.int (Int32.ofInt 1), .int (Int32.ofInt (if xbt x j = true then 1 else 0))]) 1 rfl ?_
  refine xr_icmp_ne rfl (by first | omega | exact hz) (by first | omega | exact hz) (fun z31 => ?_) (fun z31 => ?_)
  · refine xr_steps (pc' := 14) (L' := [(0, .int x), (1, .int (Int32.ofInt (j : Int)))]) (st' := [.int (Int32.ofInt 0)]) 1 rfl ?_
    obtain rfl : b = 0 := by
      rcases hb with ⟨h, hx⟩ | ⟨h, hx⟩
      · rw [if_pos hx] at z31; omega
      · rw [if_neg hx] at z31; omega
    exact xr_retZ rfl rfl (by omega) ⟨_, rfl, rfl, rfl⟩
  · refine xr_steps (pc' := 14) (L' := [(0, .int x), (1, .int (Int32.ofInt (j : Int)))]) (st' := [.int (Int32.ofInt 1)]) 2 rfl ?_
    obtain rfl : b = 1 := by
      rcases hb with ⟨h, hx⟩ | ⟨h, hx⟩
      · rw [if_pos hx] at z31; omega
      · rw [if_neg hx] at z31; omega
    exact xr_retZ rfl rfl (by omega) ⟨_, rfl, rfl, rfl⟩
end MH
/-! Items -/
/-- where the items can have ended behind one more item c, r times: S is where it can begin -/
def xes (n : Nat) (f : Nat → Int) (c r : Int) (S : Nat → Prop) : Nat → Prop
  | 0 => r = 42 ∧ S 0
  | q + 1 => (r = 42 ∧ S (q + 1)) ∨ (q < n ∧ (c = 46 ∨ c = f q) ∧ (S q ∨ ((r = 42 ∨ r = 43) ∧ xes n f c r S q)))
/-- all items of the letters g from i on, k letters -/
def xfi (n : Nat) (f g : Nat → Int) (m : Nat) : Nat → Nat → (Nat → Prop) → Nat → Prop
  | 0, _, S => S
  | k + 1, i, S => xfi n f g m k (i + 1) (if g i = 42 ∨ g i = 43 then S else xes n f (g i) (if i + 1 < m then g (i + 1) else g i) S)
theorem xes_ext (n : Nat) (f : Nat → Int) (c r : Int) {S T : Nat → Prop} {b : Nat} (h : ∀ i : Nat, i < b → (S i ↔ T i)) : ∀ i : Nat, i < b → (xes n f c r S i ↔ xes n f c r T i) := by
  intro i
  induction i with
  | zero => intro hi; show (r = 42 ∧ S 0) ↔ (r = 42 ∧ T 0); rw [h 0 hi]
  | succ i ih =>
    intro hi
    show ((r = 42 ∧ S (i + 1)) ∨ (i < n ∧ (c = 46 ∨ c = f i) ∧ (S i ∨ ((r = 42 ∨ r = 43) ∧ xes n f c r S i)))) ↔ ((r = 42 ∧ T (i + 1)) ∨ (i < n ∧ (c = 46 ∨ c = f i) ∧ (T i ∨ ((r = 42 ∨ r = 43) ∧ xes n f c r T i))))
    rw [h (i + 1) hi, h i (by omega), ih (by omega)]
theorem xfi_ext (n : Nat) (f g : Nat → Int) (m : Nat) {b : Nat} : ∀ (k i : Nat) (S T : Nat → Prop), (∀ i : Nat, i < b → (S i ↔ T i)) → ∀ j : Nat, j < b → (xfi n f g m k i S j ↔ xfi n f g m k i T j) := by
  intro k
  induction k with
  | zero => intro i S T h j hj; exact h j hj
  | succ k ih =>
    intro i S T h j hj
    refine ih (i + 1) _ _ (fun q hq => ?_) j hj
    by_cases hc : g i = 42 ∨ g i = 43
    · rw [if_pos hc, if_pos hc]; exact h q hq
    · rw [if_neg hc, if_neg hc]; exact xes_ext n f _ _ h q hq
section XE
variable {n p : Nat} {f : Nat → Int} {c r : Int} {S : Nat → Prop} {x : Int32}
/-- what the bits say while an item is gone through -/
def xeI (n : Nat) (f : Nat → Int) (c r : Int) (S : Nat → Prop) (p : Nat) (x : Int32) : Prop := ∀ i : Nat, i < 31 → (xbt x i = true ↔ if i ≤ p then xes n f c r S i else (r = 42 ∧ S i))
theorem xeI_yes (h : xeI n f c r S p x) (hp : p + 1 < 31) (hn : p < n) (hy : (c = 46 ∨ c = f p) ∧ (S p ∨ ((r = 42 ∨ r = 43) ∧ xes n f c r S p))) : xeI n f c r S (p + 1) (x ||| (Int32.ofInt 1 <<< (Int32.ofInt ((p + 1 : Nat) : Int) &&& 31))) := by
  intro i hi
  rw [xbt_or x hp i hi, Bool.or_eq_true, h i hi, decide_eq_true_eq]
  by_cases e : i = p + 1
  · rw [if_neg (by omega), if_pos (by omega), e]
    exact ⟨fun _ => Or.inr ⟨hn, hy⟩, fun _ => Or.inr rfl⟩
  · by_cases e2 : i ≤ p
    · rw [if_pos e2, if_pos (by omega)]
      exact ⟨fun h => h.elim id (fun h => absurd h e), Or.inl⟩
    · rw [if_neg e2, if_neg (by omega)]
      exact ⟨fun h => h.elim id (fun h => absurd h e), Or.inl⟩
theorem xeI_no (h : xeI n f c r S p x) (hy : ¬ ((c = 46 ∨ c = f p) ∧ (S p ∨ ((r = 42 ∨ r = 43) ∧ xes n f c r S p)))) : xeI n f c r S (p + 1) x := by
  intro i hi
  rw [h i hi]
  by_cases e : i = p + 1
  · rw [if_neg (by omega), if_pos (by omega), e]
    exact ⟨fun h => Or.inl h, fun h => h.elim id (fun h => absurd h.2 hy)⟩
  · by_cases e2 : i ≤ p
    · rw [if_pos e2, if_pos (by omega)]
    · rw [if_neg e2, if_neg (by omega)]
theorem xes_out {q : Nat} : n < q → (xes n f c r S q ↔ (r = 42 ∧ S q)) := by
  intro hq
  cases q with
  | zero => omega
  | succ q => exact ⟨fun h => h.elim id (fun h => absurd h.1 (by omega)), Or.inl⟩
theorem xeI_end (h : xeI n f c r S n x) : ∀ i : Nat, i < 31 → (xbt x i = true ↔ xes n f c r S i) := by
  intro i hi
  rw [h i hi]
  by_cases e : i ≤ n
  · rw [if_pos e]
  · rw [if_neg e, xes_out (by omega)]
theorem xeI_start (hx : (r = 42 ∧ ∀ i : Nat, i < 31 → (xbt x i = true ↔ S i)) ∨ (¬ r = 42 ∧ x = Int32.ofInt 0)) : xeI n f c r S 0 x := by
  intro i hi
  have e : (if i ≤ 0 then xes n f c r S i else (r = 42 ∧ S i)) ↔ (r = 42 ∧ S i) := by
    by_cases e : i ≤ 0
    · obtain rfl : i = 0 := by omega
      rw [if_pos e]
      exact Iff.rfl
    · rw [if_neg e]
  rw [e]
  rcases hx with ⟨h1, h2⟩ | ⟨h1, h2⟩
  · rw [h2 i hi]; exact ⟨fun h => ⟨h1, h⟩, fun h => h.2⟩
  · rw [h2, xbt_zero]; exact ⟨fun h => absurd h (by decide), fun h => absurd h.1 h1⟩
end XE
section MI
variable {w : Value} {d : Nat} {A : xb_H} {ma sm vm m wo vw n : Nat} {g f : Nat → Int} {sg bd : Int} {Q : xb_R → xb_H → Prop}
theorem mm_194l {c r ag : Int} {st : Int32} (hw : w = .null ∨ w = .ref 19) (hv : ys A wo vw n f) (hc : 0 ≤ c ∧ c ≤ 127) (hr : 0 ≤ r ∧ r ≤ 127) (hn : n ≤ 28) (hag : (ag = 1 ∧ (r = 42 ∨ r = 43)) ∨ (ag = 0 ∧ ¬ (r = 42 ∨ r = 43))) : ∀ (k p : Nat) (en : Int32), p + k = n → xeI n f c r (fun i => xbt st i = true) p en → (∀ e' : Int32, (∀ i : Nat, i < 31 → (xbt e' i = true ↔ xes n f c r (fun i => xbt st i = true) i)) → Q (.inl (some (.int e'))) A) → xr_ok (xt_G w) (d + 1 + 1 + 1 + 1) 194 35 [(6, .int (Int32.ofInt (p : Int))), (5, .int en), (4, .int (Int32.ofInt ag)), (0, .int (Int32.ofInt c)), (1, .int (Int32.ofInt r)), (2, .ref wo), (3, .int st)] [] A Q := by
  intro k
  induction k using Nat.strongRecOn with
  | _ k ih =>
    intro p en hp hI hQ
    have hXp : xbt en p = true ↔ xes n f c r (fun i => xbt st i = true) p := by
      have := hI p (by omega)
      rwa [if_pos (Nat.le_refl _)] at this
    refine xr_steps (pc' := 38) (L' := [(6, .int (Int32.ofInt (p : Int))), (5, .int en), (4, .int (Int32.ofInt ag)), (0, .int (Int32.ofInt c)), (1, .int (Int32.ofInt r)), (2, .ref wo), (3, .int st)]) (st' := [.ref wo, .int (Int32.ofInt (p : Int))]) 2 rfl ?_
    refine xr_call (q := (.invokevirtual 103, 3, 69, 1)) (av := [.ref wo]) (rest := [.int (Int32.ofInt (p : Int))]) rfl rfl (by decide) rfl (xr_rcv rfl hv.1.choose_spec.1) (Nat.le_of_ble_eq_true rfl) (ms_69 hv) ?_
    rintro _ _ ⟨rfl, eA⟩
    rw [eA]
    clear eA
    refine xr_icmp_ge rfl (by omega) (by omega) (fun z31 => ?_) (fun z31 => ?_)
    · refine xr_steps (pc' := 115) (L' := [(6, .int (Int32.ofInt (p : Int))), (5, .int en), (4, .int (Int32.ofInt ag)), (0, .int (Int32.ofInt c)), (1, .int (Int32.ofInt r)), (2, .ref wo), (3, .int st)]) (st' := [.int en]) 1 rfl ?_
      obtain rfl : p = n := by omega
      exact xr_retI2 rfl rfl (hQ _ (xeI_end hI))
    · refine xr_steps (pc' := 47) (L' := [(6, .int (Int32.ofInt (p : Int))), (5, .int en), (4, .int (Int32.ofInt ag)), (0, .int (Int32.ofInt c)), (1, .int (Int32.ofInt r)), (2, .ref wo), (3, .int st)]) (st' := [.int (Int32.ofInt (p : Int)), .int st]) 2 rfl ?_
      obtain ⟨b32, hb32⟩ := mo_bool (xbt st p = true)
      refine xr_call (q := (.invokestatic 120, 3, 195, 2)) (av := [.int st, .int (Int32.ofInt (p : Int))]) (rest := []) rfl rfl (by decide) rfl rfl (Nat.le_of_ble_eq_true rfl) (mm_195 (by omega) hb32) ?_
      rintro _ _ ⟨rfl, eA⟩
      rw [eA]
      clear eA
      rcases hb32 with ⟨rfl, y32⟩ | ⟨rfl, y32⟩
      · refine xr_if_ne rfl (by omega) (fun z33 => ?_) (fun z33 => ?_)
        · refine xr_steps (pc' := 77) (L' := [(7, .int (Int32.ofInt 1)), (6, .int (Int32.ofInt (p : Int))), (5, .int en), (4, .int (Int32.ofInt ag)), (0, .int (Int32.ofInt c)), (1, .int (Int32.ofInt r)), (2, .ref wo), (3, .int st)]) (st' := [.int (Int32.ofInt 1)]) 4 rfl ?_
          refine xr_if_eq rfl (by omega) (fun z34 => ?_) (fun z34 => ?_)
          · exfalso; omega
          · refine xr_steps (pc' := 83) (L' := [(7, .int (Int32.ofInt 1)), (6, .int (Int32.ofInt (p : Int))), (5, .int en), (4, .int (Int32.ofInt ag)), (0, .int (Int32.ofInt c)), (1, .int (Int32.ofInt r)), (2, .ref wo), (3, .int st)]) (st' := [.int (Int32.ofInt 46), .int (Int32.ofInt c)]) 2 rfl ?_
            refine xr_icmp_eq rfl (by omega) (by omega) (fun z35 => ?_) (fun z35 => ?_)
            · refine xr_steps (pc' := 102) (L' := [(7, .int (Int32.ofInt 1)), (6, .int (Int32.ofInt (p : Int))), (5, .int en), (4, .int (Int32.ofInt ag)), (0, .int (Int32.ofInt c)), (1, .int (Int32.ofInt r)), (2, .ref wo), (3, .int st)]) (st' := [.int (Int32.ofInt 1), .int (Int32.ofInt (p : Int)), .int (Int32.ofInt 1), .int en]) 4 rfl ?_
              refine xr_iadd rfl ?_
              rw [show (p : Int) + 1 = ((p + 1 : Nat) : Int) by omega]
              refine xr_steps (pc' := 107) (L' := [(5, .int (en ||| (Int32.ofInt 1 <<< (Int32.ofInt ((p + 1 : Nat) : Int) &&& 31)))), (7, .int (Int32.ofInt 1)), (6, .int (Int32.ofInt (p : Int))), (4, .int (Int32.ofInt ag)), (0, .int (Int32.ofInt c)), (1, .int (Int32.ofInt r)), (2, .ref wo), (3, .int st)]) (st' := []) 3 rfl ?_
              refine xr_iinc (L' := [(6, .int (Int32.ofInt ((p : Int) + 1))), (5, .int (en ||| (Int32.ofInt 1 <<< (Int32.ofInt ((p + 1 : Nat) : Int) &&& 31)))), (7, .int (Int32.ofInt 1)), (4, .int (Int32.ofInt ag)), (0, .int (Int32.ofInt c)), (1, .int (Int32.ofInt r)), (2, .ref wo), (3, .int st)]) rfl rfl rfl ?_
              refine xr_steps (pc' := 35) (L' := [(6, .int (Int32.ofInt ((p : Int) + 1))), (5, .int (en ||| (Int32.ofInt 1 <<< (Int32.ofInt ((p + 1 : Nat) : Int) &&& 31)))), (7, .int (Int32.ofInt 1)), (4, .int (Int32.ofInt ag)), (0, .int (Int32.ofInt c)), (1, .int (Int32.ofInt r)), (2, .ref wo), (3, .int st)]) (st' := []) 1 rfl ?_
              refine xr_loc (L := [(6, .int (Int32.ofInt ((p : Int) + 1))), (5, .int (en ||| (Int32.ofInt 1 <<< (Int32.ofInt ((p + 1 : Nat) : Int) &&& 31)))), (4, .int (Int32.ofInt ag)), (0, .int (Int32.ofInt c)), (1, .int (Int32.ofInt r)), (2, .ref wo), (3, .int st)]) (show [6, 5, 4, 0, 1, 2, 3].Nodup by decide) ⟨rfl, rfl, rfl, rfl, rfl, rfl, rfl, trivial⟩ ?_
              rw [show (p : Int) + 1 = ((p + 1 : Nat) : Int) by omega]
              exact ih (k - 1) (by omega) (p + 1) _ (by omega) (xeI_yes hI (by omega) (by omega) ⟨(by omega), Or.inl y32⟩) hQ
            · refine xr_steps (pc' := 90) (L' := [(7, .int (Int32.ofInt 1)), (6, .int (Int32.ofInt (p : Int))), (5, .int en), (4, .int (Int32.ofInt ag)), (0, .int (Int32.ofInt c)), (1, .int (Int32.ofInt r)), (2, .ref wo), (3, .int st)]) (st' := [.int (Int32.ofInt (p : Int)), .ref wo, .int (Int32.ofInt c)]) 3 rfl ?_
              have r36 := hv.2.2.2 p (by omega)
              refine xr_call (q := (.invokevirtual 112, 3, 71, 2)) (av := [.ref wo, .int (Int32.ofInt (p : Int))]) (rest := [.int (Int32.ofInt c)]) rfl rfl (by decide) rfl (xr_rcv rfl hv.1.choose_spec.1) (Nat.le_of_ble_eq_true rfl) (ms_71 hw hv (by omega)) ?_
              rintro _ _ ⟨rfl, eA⟩
              rw [eA]
              clear eA
              rw [show (p : Int).toNat = p by omega]
              refine xr_icmp_ne rfl (by omega) (by omega) (fun z37 => ?_) (fun z37 => ?_)
              · refine xr_iinc (L' := [(6, .int (Int32.ofInt ((p : Int) + 1))), (7, .int (Int32.ofInt 1)), (5, .int en), (4, .int (Int32.ofInt ag)), (0, .int (Int32.ofInt c)), (1, .int (Int32.ofInt r)), (2, .ref wo), (3, .int st)]) rfl rfl rfl ?_
                refine xr_steps (pc' := 35) (L' := [(6, .int (Int32.ofInt ((p : Int) + 1))), (7, .int (Int32.ofInt 1)), (5, .int en), (4, .int (Int32.ofInt ag)), (0, .int (Int32.ofInt c)), (1, .int (Int32.ofInt r)), (2, .ref wo), (3, .int st)]) (st' := []) 1 rfl ?_
                refine xr_loc (L := [(6, .int (Int32.ofInt ((p : Int) + 1))), (5, .int en), (4, .int (Int32.ofInt ag)), (0, .int (Int32.ofInt c)), (1, .int (Int32.ofInt r)), (2, .ref wo), (3, .int st)]) (show [6, 5, 4, 0, 1, 2, 3].Nodup by decide) ⟨rfl, rfl, rfl, rfl, rfl, rfl, rfl, trivial⟩ ?_
                rw [show (p : Int) + 1 = ((p + 1 : Nat) : Int) by omega]
                exact ih (k - 1) (by omega) (p + 1) _ (by omega) (xeI_no hI (fun h => absurd h.1 (by omega))) hQ
              · refine xr_steps (pc' := 102) (L' := [(7, .int (Int32.ofInt 1)), (6, .int (Int32.ofInt (p : Int))), (5, .int en), (4, .int (Int32.ofInt ag)), (0, .int (Int32.ofInt c)), (1, .int (Int32.ofInt r)), (2, .ref wo), (3, .int st)]) (st' := [.int (Int32.ofInt 1), .int (Int32.ofInt (p : Int)), .int (Int32.ofInt 1), .int en]) 4 rfl ?_
                refine xr_iadd rfl ?_
                rw [show (p : Int) + 1 = ((p + 1 : Nat) : Int) by omega]
                refine xr_steps (pc' := 107) (L' := [(5, .int (en ||| (Int32.ofInt 1 <<< (Int32.ofInt ((p + 1 : Nat) : Int) &&& 31)))), (7, .int (Int32.ofInt 1)), (6, .int (Int32.ofInt (p : Int))), (4, .int (Int32.ofInt ag)), (0, .int (Int32.ofInt c)), (1, .int (Int32.ofInt r)), (2, .ref wo), (3, .int st)]) (st' := []) 3 rfl ?_
                refine xr_iinc (L' := [(6, .int (Int32.ofInt ((p : Int) + 1))), (5, .int (en ||| (Int32.ofInt 1 <<< (Int32.ofInt ((p + 1 : Nat) : Int) &&& 31)))), (7, .int (Int32.ofInt 1)), (4, .int (Int32.ofInt ag)), (0, .int (Int32.ofInt c)), (1, .int (Int32.ofInt r)), (2, .ref wo), (3, .int st)]) rfl rfl rfl ?_
                refine xr_steps (pc' := 35) (L' := [(6, .int (Int32.ofInt ((p : Int) + 1))), (5, .int (en ||| (Int32.ofInt 1 <<< (Int32.ofInt ((p + 1 : Nat) : Int) &&& 31)))), (7, .int (Int32.ofInt 1)), (4, .int (Int32.ofInt ag)), (0, .int (Int32.ofInt c)), (1, .int (Int32.ofInt r)), (2, .ref wo), (3, .int st)]) (st' := []) 1 rfl ?_
                refine xr_loc (L := [(6, .int (Int32.ofInt ((p : Int) + 1))), (5, .int (en ||| (Int32.ofInt 1 <<< (Int32.ofInt ((p + 1 : Nat) : Int) &&& 31)))), (4, .int (Int32.ofInt ag)), (0, .int (Int32.ofInt c)), (1, .int (Int32.ofInt r)), (2, .ref wo), (3, .int st)]) (show [6, 5, 4, 0, 1, 2, 3].Nodup by decide) ⟨rfl, rfl, rfl, rfl, rfl, rfl, rfl, trivial⟩ ?_
                rw [show (p : Int) + 1 = ((p + 1 : Nat) : Int) by omega]
                exact ih (k - 1) (by omega) (p + 1) _ (by omega) (xeI_yes hI (by omega) (by omega) ⟨(by omega), Or.inl y32⟩) hQ
        · exfalso; omega
      · refine xr_if_ne rfl (by omega) (fun z38 => ?_) (fun z38 => ?_)
        · exfalso; omega
        · refine xr_steps (pc' := 55) (L' := [(6, .int (Int32.ofInt (p : Int))), (5, .int en), (4, .int (Int32.ofInt ag)), (0, .int (Int32.ofInt c)), (1, .int (Int32.ofInt r)), (2, .ref wo), (3, .int st)]) (st' := [.int (Int32.ofInt ag)]) 1 rfl ?_
          refine xr_if_eq rfl (by omega) (fun z39 => ?_) (fun z39 => ?_)
          · refine xr_steps (pc' := 77) (L' := [(7, .int (Int32.ofInt 0)), (6, .int (Int32.ofInt (p : Int))), (5, .int en), (4, .int (Int32.ofInt ag)), (0, .int (Int32.ofInt c)), (1, .int (Int32.ofInt r)), (2, .ref wo), (3, .int st)]) (st' := [.int (Int32.ofInt 0)]) 3 rfl ?_
            refine xr_if_eq rfl (by omega) (fun z40 => ?_) (fun z40 => ?_)
            · refine xr_iinc (L' := [(6, .int (Int32.ofInt ((p : Int) + 1))), (7, .int (Int32.ofInt 0)), (5, .int en), (4, .int (Int32.ofInt ag)), (0, .int (Int32.ofInt c)), (1, .int (Int32.ofInt r)), (2, .ref wo), (3, .int st)]) rfl rfl rfl ?_
              refine xr_steps (pc' := 35) (L' := [(6, .int (Int32.ofInt ((p : Int) + 1))), (7, .int (Int32.ofInt 0)), (5, .int en), (4, .int (Int32.ofInt ag)), (0, .int (Int32.ofInt c)), (1, .int (Int32.ofInt r)), (2, .ref wo), (3, .int st)]) (st' := []) 1 rfl ?_
              refine xr_loc (L := [(6, .int (Int32.ofInt ((p : Int) + 1))), (5, .int en), (4, .int (Int32.ofInt ag)), (0, .int (Int32.ofInt c)), (1, .int (Int32.ofInt r)), (2, .ref wo), (3, .int st)]) (show [6, 5, 4, 0, 1, 2, 3].Nodup by decide) ⟨rfl, rfl, rfl, rfl, rfl, rfl, rfl, trivial⟩ ?_
              rw [show (p : Int) + 1 = ((p + 1 : Nat) : Int) by omega]
              exact ih (k - 1) (by omega) (p + 1) _ (by omega) (xeI_no hI (fun h => h.2.elim y32 (fun h => absurd h.1 (by omega)))) hQ
            · exfalso; omega
          · refine xr_steps (pc' := 62) (L' := [(6, .int (Int32.ofInt (p : Int))), (5, .int en), (4, .int (Int32.ofInt ag)), (0, .int (Int32.ofInt c)), (1, .int (Int32.ofInt r)), (2, .ref wo), (3, .int st)]) (st' := [.int (Int32.ofInt (p : Int)), .int en]) 2 rfl ?_
            obtain ⟨b41, hb41⟩ := mo_bool (xbt en p = true)
            refine xr_call (q := (.invokestatic 120, 3, 195, 2)) (av := [.int en, .int (Int32.ofInt (p : Int))]) (rest := []) rfl rfl (by decide) rfl rfl (Nat.le_of_ble_eq_true rfl) (mm_195 (by omega) hb41) ?_
            rintro _ _ ⟨rfl, eA⟩
            rw [eA]
            clear eA
            rcases hb41 with ⟨rfl, y41⟩ | ⟨rfl, y41⟩
            · refine xr_if_eq rfl (by omega) (fun z42 => ?_) (fun z42 => ?_)
              · exfalso; omega
              · refine xr_steps (pc' := 77) (L' := [(7, .int (Int32.ofInt 1)), (6, .int (Int32.ofInt (p : Int))), (5, .int en), (4, .int (Int32.ofInt ag)), (0, .int (Int32.ofInt c)), (1, .int (Int32.ofInt r)), (2, .ref wo), (3, .int st)]) (st' := [.int (Int32.ofInt 1)]) 4 rfl ?_
                refine xr_if_eq rfl (by omega) (fun z43 => ?_) (fun z43 => ?_)
                · exfalso; omega
                · refine xr_steps (pc' := 83) (L' := [(7, .int (Int32.ofInt 1)), (6, .int (Int32.ofInt (p : Int))), (5, .int en), (4, .int (Int32.ofInt ag)), (0, .int (Int32.ofInt c)), (1, .int (Int32.ofInt r)), (2, .ref wo), (3, .int st)]) (st' := [.int (Int32.ofInt 46), .int (Int32.ofInt c)]) 2 rfl ?_
                  refine xr_icmp_eq rfl (by omega) (by omega) (fun z44 => ?_) (fun z44 => ?_)
                  · refine xr_steps (pc' := 102) (L' := [(7, .int (Int32.ofInt 1)), (6, .int (Int32.ofInt (p : Int))), (5, .int en), (4, .int (Int32.ofInt ag)), (0, .int (Int32.ofInt c)), (1, .int (Int32.ofInt r)), (2, .ref wo), (3, .int st)]) (st' := [.int (Int32.ofInt 1), .int (Int32.ofInt (p : Int)), .int (Int32.ofInt 1), .int en]) 4 rfl ?_
                    refine xr_iadd rfl ?_
                    rw [show (p : Int) + 1 = ((p + 1 : Nat) : Int) by omega]
                    refine xr_steps (pc' := 107) (L' := [(5, .int (en ||| (Int32.ofInt 1 <<< (Int32.ofInt ((p + 1 : Nat) : Int) &&& 31)))), (7, .int (Int32.ofInt 1)), (6, .int (Int32.ofInt (p : Int))), (4, .int (Int32.ofInt ag)), (0, .int (Int32.ofInt c)), (1, .int (Int32.ofInt r)), (2, .ref wo), (3, .int st)]) (st' := []) 3 rfl ?_
                    refine xr_iinc (L' := [(6, .int (Int32.ofInt ((p : Int) + 1))), (5, .int (en ||| (Int32.ofInt 1 <<< (Int32.ofInt ((p + 1 : Nat) : Int) &&& 31)))), (7, .int (Int32.ofInt 1)), (4, .int (Int32.ofInt ag)), (0, .int (Int32.ofInt c)), (1, .int (Int32.ofInt r)), (2, .ref wo), (3, .int st)]) rfl rfl rfl ?_
                    refine xr_steps (pc' := 35) (L' := [(6, .int (Int32.ofInt ((p : Int) + 1))), (5, .int (en ||| (Int32.ofInt 1 <<< (Int32.ofInt ((p + 1 : Nat) : Int) &&& 31)))), (7, .int (Int32.ofInt 1)), (4, .int (Int32.ofInt ag)), (0, .int (Int32.ofInt c)), (1, .int (Int32.ofInt r)), (2, .ref wo), (3, .int st)]) (st' := []) 1 rfl ?_
                    refine xr_loc (L := [(6, .int (Int32.ofInt ((p : Int) + 1))), (5, .int (en ||| (Int32.ofInt 1 <<< (Int32.ofInt ((p + 1 : Nat) : Int) &&& 31)))), (4, .int (Int32.ofInt ag)), (0, .int (Int32.ofInt c)), (1, .int (Int32.ofInt r)), (2, .ref wo), (3, .int st)]) (show [6, 5, 4, 0, 1, 2, 3].Nodup by decide) ⟨rfl, rfl, rfl, rfl, rfl, rfl, rfl, trivial⟩ ?_
                    rw [show (p : Int) + 1 = ((p + 1 : Nat) : Int) by omega]
                    exact ih (k - 1) (by omega) (p + 1) _ (by omega) (xeI_yes hI (by omega) (by omega) ⟨(by omega), Or.inr ⟨by omega, hXp.1 y41⟩⟩) hQ
                  · refine xr_steps (pc' := 90) (L' := [(7, .int (Int32.ofInt 1)), (6, .int (Int32.ofInt (p : Int))), (5, .int en), (4, .int (Int32.ofInt ag)), (0, .int (Int32.ofInt c)), (1, .int (Int32.ofInt r)), (2, .ref wo), (3, .int st)]) (st' := [.int (Int32.ofInt (p : Int)), .ref wo, .int (Int32.ofInt c)]) 3 rfl ?_
                    have r45 := hv.2.2.2 p (by omega)
                    refine xr_call (q := (.invokevirtual 112, 3, 71, 2)) (av := [.ref wo, .int (Int32.ofInt (p : Int))]) (rest := [.int (Int32.ofInt c)]) rfl rfl (by decide) rfl (xr_rcv rfl hv.1.choose_spec.1) (Nat.le_of_ble_eq_true rfl) (ms_71 hw hv (by omega)) ?_
                    rintro _ _ ⟨rfl, eA⟩
                    rw [eA]
                    clear eA
                    rw [show (p : Int).toNat = p by omega]
                    refine xr_icmp_ne rfl (by omega) (by omega) (fun z46 => ?_) (fun z46 => ?_)
                    · refine xr_iinc (L' := [(6, .int (Int32.ofInt ((p : Int) + 1))), (7, .int (Int32.ofInt 1)), (5, .int en), (4, .int (Int32.ofInt ag)), (0, .int (Int32.ofInt c)), (1, .int (Int32.ofInt r)), (2, .ref wo), (3, .int st)]) rfl rfl rfl ?_
                      refine xr_steps (pc' := 35) (L' := [(6, .int (Int32.ofInt ((p : Int) + 1))), (7, .int (Int32.ofInt 1)), (5, .int en), (4, .int (Int32.ofInt ag)), (0, .int (Int32.ofInt c)), (1, .int (Int32.ofInt r)), (2, .ref wo), (3, .int st)]) (st' := []) 1 rfl ?_
                      refine xr_loc (L := [(6, .int (Int32.ofInt ((p : Int) + 1))), (5, .int en), (4, .int (Int32.ofInt ag)), (0, .int (Int32.ofInt c)), (1, .int (Int32.ofInt r)), (2, .ref wo), (3, .int st)]) (show [6, 5, 4, 0, 1, 2, 3].Nodup by decide) ⟨rfl, rfl, rfl, rfl, rfl, rfl, rfl, trivial⟩ ?_
                      rw [show (p : Int) + 1 = ((p + 1 : Nat) : Int) by omega]
                      exact ih (k - 1) (by omega) (p + 1) _ (by omega) (xeI_no hI (fun h => absurd h.1 (by omega))) hQ
                    · refine xr_steps (pc' := 102) (L' := [(7, .int (Int32.ofInt 1)), (6, .int (Int32.ofInt (p : Int))), (5, .int en), (4, .int (Int32.ofInt ag)), (0, .int (Int32.ofInt c)), (1, .int (Int32.ofInt r)), (2, .ref wo), (3, .int st)]) (st' := [.int (Int32.ofInt 1), .int (Int32.ofInt (p : Int)), .int (Int32.ofInt 1), .int en]) 4 rfl ?_
                      refine xr_iadd rfl ?_
                      rw [show (p : Int) + 1 = ((p + 1 : Nat) : Int) by omega]
                      refine xr_steps (pc' := 107) (L' := [(5, .int (en ||| (Int32.ofInt 1 <<< (Int32.ofInt ((p + 1 : Nat) : Int) &&& 31)))), (7, .int (Int32.ofInt 1)), (6, .int (Int32.ofInt (p : Int))), (4, .int (Int32.ofInt ag)), (0, .int (Int32.ofInt c)), (1, .int (Int32.ofInt r)), (2, .ref wo), (3, .int st)]) (st' := []) 3 rfl ?_
                      refine xr_iinc (L' := [(6, .int (Int32.ofInt ((p : Int) + 1))), (5, .int (en ||| (Int32.ofInt 1 <<< (Int32.ofInt ((p + 1 : Nat) : Int) &&& 31)))), (7, .int (Int32.ofInt 1)), (4, .int (Int32.ofInt ag)), (0, .int (Int32.ofInt c)), (1, .int (Int32.ofInt r)), (2, .ref wo), (3, .int st)]) rfl rfl rfl ?_
                      refine xr_steps (pc' := 35) (L' := [(6, .int (Int32.ofInt ((p : Int) + 1))), (5, .int (en ||| (Int32.ofInt 1 <<< (Int32.ofInt ((p + 1 : Nat) : Int) &&& 31)))), (7, .int (Int32.ofInt 1)), (4, .int (Int32.ofInt ag)), (0, .int (Int32.ofInt c)), (1, .int (Int32.ofInt r)), (2, .ref wo), (3, .int st)]) (st' := []) 1 rfl ?_
                      refine xr_loc (L := [(6, .int (Int32.ofInt ((p : Int) + 1))), (5, .int (en ||| (Int32.ofInt 1 <<< (Int32.ofInt ((p + 1 : Nat) : Int) &&& 31)))), (4, .int (Int32.ofInt ag)), (0, .int (Int32.ofInt c)), (1, .int (Int32.ofInt r)), (2, .ref wo), (3, .int st)]) (show [6, 5, 4, 0, 1, 2, 3].Nodup by decide) ⟨rfl, rfl, rfl, rfl, rfl, rfl, rfl, trivial⟩ ?_
                      rw [show (p : Int) + 1 = ((p + 1 : Nat) : Int) by omega]
                      exact ih (k - 1) (by omega) (p + 1) _ (by omega) (xeI_yes hI (by omega) (by omega) ⟨(by omega), Or.inr ⟨by omega, hXp.1 y41⟩⟩) hQ
            · refine xr_if_eq rfl (by omega) (fun z47 => ?_) (fun z47 => ?_)
              · refine xr_steps (pc' := 77) (L' := [(7, .int (Int32.ofInt 0)), (6, .int (Int32.ofInt (p : Int))), (5, .int en), (4, .int (Int32.ofInt ag)), (0, .int (Int32.ofInt c)), (1, .int (Int32.ofInt r)), (2, .ref wo), (3, .int st)]) (st' := [.int (Int32.ofInt 0)]) 3 rfl ?_
                refine xr_if_eq rfl (by omega) (fun z48 => ?_) (fun z48 => ?_)
                · refine xr_iinc (L' := [(6, .int (Int32.ofInt ((p : Int) + 1))), (7, .int (Int32.ofInt 0)), (5, .int en), (4, .int (Int32.ofInt ag)), (0, .int (Int32.ofInt c)), (1, .int (Int32.ofInt r)), (2, .ref wo), (3, .int st)]) rfl rfl rfl ?_
                  refine xr_steps (pc' := 35) (L' := [(6, .int (Int32.ofInt ((p : Int) + 1))), (7, .int (Int32.ofInt 0)), (5, .int en), (4, .int (Int32.ofInt ag)), (0, .int (Int32.ofInt c)), (1, .int (Int32.ofInt r)), (2, .ref wo), (3, .int st)]) (st' := []) 1 rfl ?_
                  refine xr_loc (L := [(6, .int (Int32.ofInt ((p : Int) + 1))), (5, .int en), (4, .int (Int32.ofInt ag)), (0, .int (Int32.ofInt c)), (1, .int (Int32.ofInt r)), (2, .ref wo), (3, .int st)]) (show [6, 5, 4, 0, 1, 2, 3].Nodup by decide) ⟨rfl, rfl, rfl, rfl, rfl, rfl, rfl, trivial⟩ ?_
                  rw [show (p : Int) + 1 = ((p + 1 : Nat) : Int) by omega]
                  exact ih (k - 1) (by omega) (p + 1) _ (by omega) (xeI_no hI (fun h => h.2.elim y32 (fun h => y41 (hXp.2 h.2)))) hQ
                · exfalso; omega
              · exfalso; omega
theorem mm_194 {c r : Int} {st : Int32} (hw : w = .null ∨ w = .ref 19) (hv : ys A wo vw n f) (hc : 0 ≤ c ∧ c ≤ 127) (hr : 0 ≤ r ∧ r ≤ 127) (hn : n ≤ 28) : xr_ok (xt_G w) (d + 1 + 1 + 1 + 1) 194 0 [(0, .int (Int32.ofInt c)), (1, .int (Int32.ofInt r)), (2, .ref wo), (3, .int st)] [] A (fun o A' => ∃ v0, o = .inl v0 ∧ ∃ e' : Int32, (v0 = some (.int e') ∧ A' = A) ∧ ∀ i : Nat, i < 31 → (xbt e' i = true ↔ xes n f c r (fun i => xbt st i = true) i)) := by
  refine xr_steps (pc' := 3) (L' := [(0, .int (Int32.ofInt c)), (1, .int (Int32.ofInt r)), (2, .ref wo), (3, .int st)]) (st' := [.int (Int32.ofInt 42), .int (Int32.ofInt r)]) 2 rfl ?_
  refine xr_icmp_eq rfl (by omega) (by omega) (fun z31 => ?_) (fun z31 => ?_)
  · refine xr_steps (pc' := 22) (L' := [(4, .int (Int32.ofInt 1)), (0, .int (Int32.ofInt c)), (1, .int (Int32.ofInt r)), (2, .ref wo), (3, .int st)]) (st' := [.int (Int32.ofInt 42), .int (Int32.ofInt r)]) 5 rfl ?_
    refine xr_icmp_ne rfl (by omega) (by omega) (fun z32 => ?_) (fun z32 => ?_)
    · refine xr_steps (pc' := 35) (L' := [(6, .int (Int32.ofInt 0)), (5, .int (Int32.ofInt 0)), (4, .int (Int32.ofInt 1)), (0, .int (Int32.ofInt c)), (1, .int (Int32.ofInt r)), (2, .ref wo), (3, .int st)]) (st' := []) 4 rfl ?_
      refine xr_loc (L := [(6, .int (Int32.ofInt 0)), (5, .int (Int32.ofInt 0)), (4, .int (Int32.ofInt 1)), (0, .int (Int32.ofInt c)), (1, .int (Int32.ofInt r)), (2, .ref wo), (3, .int st)]) (show [6, 5, 4, 0, 1, 2, 3].Nodup by decide) ⟨rfl, rfl, rfl, rfl, rfl, rfl, rfl, trivial⟩ ?_
      exact mm_194l (c := c) (r := r) (ag := 1) (st := st) hw hv hc hr hn (by omega) n 0 (Int32.ofInt 0) (by omega) (xeI_start (Or.inr ⟨by omega, rfl⟩)) (fun e h => ⟨_, rfl, e, ⟨rfl, rfl⟩, h⟩)
    · refine xr_steps (pc' := 35) (L' := [(6, .int (Int32.ofInt 0)), (5, .int st), (4, .int (Int32.ofInt 1)), (0, .int (Int32.ofInt c)), (1, .int (Int32.ofInt r)), (2, .ref wo), (3, .int st)]) (st' := []) 5 rfl ?_
      refine xr_loc (L := [(6, .int (Int32.ofInt 0)), (5, .int st), (4, .int (Int32.ofInt 1)), (0, .int (Int32.ofInt c)), (1, .int (Int32.ofInt r)), (2, .ref wo), (3, .int st)]) (show [6, 5, 4, 0, 1, 2, 3].Nodup by decide) ⟨rfl, rfl, rfl, rfl, rfl, rfl, rfl, trivial⟩ ?_
      exact mm_194l (c := c) (r := r) (ag := 1) (st := st) hw hv hc hr hn (by omega) n 0 st (by omega) (xeI_start (Or.inl ⟨by omega, fun i _ => Iff.rfl⟩)) (fun e h => ⟨_, rfl, e, ⟨rfl, rfl⟩, h⟩)
  · refine xr_steps (pc' := 9) (L' := [(0, .int (Int32.ofInt c)), (1, .int (Int32.ofInt r)), (2, .ref wo), (3, .int st)]) (st' := [.int (Int32.ofInt 43), .int (Int32.ofInt r)]) 2 rfl ?_
    refine xr_icmp_ne rfl (by omega) (by omega) (fun z33 => ?_) (fun z33 => ?_)
    · refine xr_steps (pc' := 22) (L' := [(4, .int (Int32.ofInt 0)), (0, .int (Int32.ofInt c)), (1, .int (Int32.ofInt r)), (2, .ref wo), (3, .int st)]) (st' := [.int (Int32.ofInt 42), .int (Int32.ofInt r)]) 4 rfl ?_
      refine xr_icmp_ne rfl (by omega) (by omega) (fun z34 => ?_) (fun z34 => ?_)
      · refine xr_steps (pc' := 35) (L' := [(6, .int (Int32.ofInt 0)), (5, .int (Int32.ofInt 0)), (4, .int (Int32.ofInt 0)), (0, .int (Int32.ofInt c)), (1, .int (Int32.ofInt r)), (2, .ref wo), (3, .int st)]) (st' := []) 4 rfl ?_
        refine xr_loc (L := [(6, .int (Int32.ofInt 0)), (5, .int (Int32.ofInt 0)), (4, .int (Int32.ofInt 0)), (0, .int (Int32.ofInt c)), (1, .int (Int32.ofInt r)), (2, .ref wo), (3, .int st)]) (show [6, 5, 4, 0, 1, 2, 3].Nodup by decide) ⟨rfl, rfl, rfl, rfl, rfl, rfl, rfl, trivial⟩ ?_
        exact mm_194l (c := c) (r := r) (ag := 0) (st := st) hw hv hc hr hn (by omega) n 0 (Int32.ofInt 0) (by omega) (xeI_start (Or.inr ⟨by omega, rfl⟩)) (fun e h => ⟨_, rfl, e, ⟨rfl, rfl⟩, h⟩)
      · refine xr_steps (pc' := 35) (L' := [(6, .int (Int32.ofInt 0)), (5, .int st), (4, .int (Int32.ofInt 0)), (0, .int (Int32.ofInt c)), (1, .int (Int32.ofInt r)), (2, .ref wo), (3, .int st)]) (st' := []) 5 rfl ?_
        refine xr_loc (L := [(6, .int (Int32.ofInt 0)), (5, .int st), (4, .int (Int32.ofInt 0)), (0, .int (Int32.ofInt c)), (1, .int (Int32.ofInt r)), (2, .ref wo), (3, .int st)]) (show [6, 5, 4, 0, 1, 2, 3].Nodup by decide) ⟨rfl, rfl, rfl, rfl, rfl, rfl, rfl, trivial⟩ ?_
        exact mm_194l (c := c) (r := r) (ag := 0) (st := st) hw hv hc hr hn (by omega) n 0 st (by omega) (xeI_start (Or.inl ⟨by omega, fun i _ => Iff.rfl⟩)) (fun e h => ⟨_, rfl, e, ⟨rfl, rfl⟩, h⟩)
    · refine xr_steps (pc' := 22) (L' := [(4, .int (Int32.ofInt 1)), (0, .int (Int32.ofInt c)), (1, .int (Int32.ofInt r)), (2, .ref wo), (3, .int st)]) (st' := [.int (Int32.ofInt 42), .int (Int32.ofInt r)]) 5 rfl ?_
      refine xr_icmp_ne rfl (by omega) (by omega) (fun z35 => ?_) (fun z35 => ?_)
      · refine xr_steps (pc' := 35) (L' := [(6, .int (Int32.ofInt 0)), (5, .int (Int32.ofInt 0)), (4, .int (Int32.ofInt 1)), (0, .int (Int32.ofInt c)), (1, .int (Int32.ofInt r)), (2, .ref wo), (3, .int st)]) (st' := []) 4 rfl ?_
        refine xr_loc (L := [(6, .int (Int32.ofInt 0)), (5, .int (Int32.ofInt 0)), (4, .int (Int32.ofInt 1)), (0, .int (Int32.ofInt c)), (1, .int (Int32.ofInt r)), (2, .ref wo), (3, .int st)]) (show [6, 5, 4, 0, 1, 2, 3].Nodup by decide) ⟨rfl, rfl, rfl, rfl, rfl, rfl, rfl, trivial⟩ ?_
        exact mm_194l (c := c) (r := r) (ag := 1) (st := st) hw hv hc hr hn (by omega) n 0 (Int32.ofInt 0) (by omega) (xeI_start (Or.inr ⟨by omega, rfl⟩)) (fun e h => ⟨_, rfl, e, ⟨rfl, rfl⟩, h⟩)
      · refine xr_steps (pc' := 35) (L' := [(6, .int (Int32.ofInt 0)), (5, .int st), (4, .int (Int32.ofInt 1)), (0, .int (Int32.ofInt c)), (1, .int (Int32.ofInt r)), (2, .ref wo), (3, .int st)]) (st' := []) 5 rfl ?_
        refine xr_loc (L := [(6, .int (Int32.ofInt 0)), (5, .int st), (4, .int (Int32.ofInt 1)), (0, .int (Int32.ofInt c)), (1, .int (Int32.ofInt r)), (2, .ref wo), (3, .int st)]) (show [6, 5, 4, 0, 1, 2, 3].Nodup by decide) ⟨rfl, rfl, rfl, rfl, rfl, rfl, rfl, trivial⟩ ?_
        exact mm_194l (c := c) (r := r) (ag := 1) (st := st) hw hv hc hr hn (by omega) n 0 st (by omega) (xeI_start (Or.inl ⟨by omega, fun i _ => Iff.rfl⟩)) (fun e h => ⟨_, rfl, e, ⟨rfl, rfl⟩, h⟩)
theorem mm_193l (hw : w = .null ∨ w = .ref 19) (h1 : xb_get A ma = some (.inr (4, [.int (Int32.ofInt sg), .int (Int32.ofInt bd), .ref sm]))) (hs : ys A sm vm m g) (hv : ys A wo vw n f) (hn : n ≤ 28) (hm : m ≤ 1000) : ∀ (k i : Nat) (en : Int32) (S : Nat → Prop), i + k = m → (∀ i : Nat, i < 31 → (xbt en i = true ↔ S i)) → (∀ b : Int, ((b = 1 ∧ xfi n f g m k i S n) ∨ (b = 0 ∧ ¬ xfi n f g m k i S n)) → Q (.inl (some (.int (Int32.ofInt b)))) A) → xr_ok (xt_G w) (d + 1 + 1 + 1 + 1 + 1) 193 4 [(3, .int (Int32.ofInt (i : Int))), (2, .int en), (0, .ref ma), (1, .ref wo)] [] A Q := by
  intro k
  induction k using Nat.strongRecOn with
  | _ k ih =>
    intro i en S hi hS hQ
    refine xr_steps (pc' := 6) (L' := [(3, .int (Int32.ofInt (i : Int))), (2, .int en), (0, .ref ma), (1, .ref wo)]) (st' := [.ref ma, .int (Int32.ofInt (i : Int))]) 2 rfl ?_
    refine xr_getf (v := .ref sm) rfl h1 rfl ?_
    refine xr_call (q := (.invokevirtual 103, 3, 69, 1)) (av := [.ref sm]) (rest := [.int (Int32.ofInt (i : Int))]) rfl rfl (by decide) rfl (xr_rcv rfl hs.1.choose_spec.1) (Nat.le_of_ble_eq_true rfl) (ms_69 hs) ?_
    rintro _ _ ⟨rfl, eA⟩
    rw [eA]
    clear eA
    refine xr_icmp_ge rfl (by omega) (by omega) (fun z31 => ?_) (fun z31 => ?_)
    · refine xr_steps (pc' := 87) (L' := [(3, .int (Int32.ofInt (i : Int))), (2, .int en), (0, .ref ma), (1, .ref wo)]) (st' := [.ref wo, .int en]) 2 rfl ?_
      refine xr_call (q := (.invokevirtual 103, 3, 69, 1)) (av := [.ref wo]) (rest := [.int en]) rfl rfl (by decide) rfl (xr_rcv rfl hv.1.choose_spec.1) (Nat.le_of_ble_eq_true rfl) (ms_69 hv) ?_
      rintro _ _ ⟨rfl, eA⟩
      rw [eA]
      clear eA
      obtain ⟨b, hb⟩ := mo_bool (xbt en n = true)
      refine xr_call (q := (.invokestatic 120, 3, 195, 2)) (av := [.int en, .int (Int32.ofInt (n : Int))]) (rest := []) rfl rfl (by decide) rfl rfl (Nat.le_of_ble_eq_true rfl) (mm_195 (by omega) hb) ?_
      rintro _ _ ⟨rfl, eA⟩
      rw [eA]
      clear eA
      have hb01 : b = 0 ∨ b = 1 := by omega
      obtain rfl : k = 0 := by omega
      have hS2 := hS n (by omega)
      refine xr_retZ rfl rfl (by omega) (hQ b ?_)
      rcases hb with ⟨h, h2⟩ | ⟨h, h2⟩
      · exact Or.inl ⟨h, hS2.1 h2⟩
      · exact Or.inr ⟨h, fun h3 => h2 (hS2.2 h3)⟩
    · refine xr_steps (pc' := 16) (L' := [(3, .int (Int32.ofInt (i : Int))), (2, .int en), (0, .ref ma), (1, .ref wo)]) (st' := [.ref ma]) 1 rfl ?_
      refine xr_getf (v := .ref sm) rfl h1 rfl ?_
      refine xr_steps (pc' := 20) (L' := [(3, .int (Int32.ofInt (i : Int))), (2, .int en), (0, .ref ma), (1, .ref wo)]) (st' := [.int (Int32.ofInt (i : Int)), .ref sm]) 1 rfl ?_
      have r32 := hs.2.2.2 i (by omega)
      refine xr_call (q := (.invokevirtual 112, 3, 71, 2)) (av := [.ref sm, .int (Int32.ofInt (i : Int))]) (rest := []) rfl rfl (by decide) rfl (xr_rcv rfl hs.1.choose_spec.1) (Nat.le_of_ble_eq_true rfl) (ms_71 hw hs (by omega)) ?_
      rintro _ _ ⟨rfl, eA⟩
      rw [eA]
      clear eA
      rw [show (i : Int).toNat = i by omega]
      refine xr_steps (pc' := 29) (L' := [(4, .int (Int32.ofInt (g i))), (3, .int (Int32.ofInt (i : Int))), (2, .int en), (0, .ref ma), (1, .ref wo)]) (st' := [.int (Int32.ofInt 42), .int (Int32.ofInt (g i))]) 3 rfl ?_
      refine xr_icmp_eq rfl (by omega) (by omega) (fun z33 => ?_) (fun z33 => ?_)
      · refine xr_iinc (L' := [(3, .int (Int32.ofInt ((i : Int) + 1))), (4, .int (Int32.ofInt (g i))), (2, .int en), (0, .ref ma), (1, .ref wo)]) rfl rfl rfl ?_
        refine xr_steps (pc' := 4) (L' := [(3, .int (Int32.ofInt ((i : Int) + 1))), (4, .int (Int32.ofInt (g i))), (2, .int en), (0, .ref ma), (1, .ref wo)]) (st' := []) 1 rfl ?_
        refine xr_loc (L := [(3, .int (Int32.ofInt ((i : Int) + 1))), (2, .int en), (0, .ref ma), (1, .ref wo)]) (show [3, 2, 0, 1].Nodup by decide) ⟨rfl, rfl, rfl, rfl, trivial⟩ ?_
        obtain ⟨k, rfl⟩ : ∃ k0, k = k0 + 1 := ⟨k - 1, by omega⟩
        rw [show (i : Int) + 1 = ((i + 1 : Nat) : Int) by omega]
        refine ih k (by omega) (i + 1) _ (if g i = 42 ∨ g i = 43 then S else xes n f (g i) (if i + 1 < m then g (i + 1) else g i) S) (by omega) ?_ hQ
        rw [if_pos (by omega)]
        exact hS
      · refine xr_steps (pc' := 36) (L' := [(4, .int (Int32.ofInt (g i))), (3, .int (Int32.ofInt (i : Int))), (2, .int en), (0, .ref ma), (1, .ref wo)]) (st' := [.int (Int32.ofInt 43), .int (Int32.ofInt (g i))]) 2 rfl ?_
        refine xr_icmp_eq rfl (by omega) (by omega) (fun z34 => ?_) (fun z34 => ?_)
        · refine xr_iinc (L' := [(3, .int (Int32.ofInt ((i : Int) + 1))), (4, .int (Int32.ofInt (g i))), (2, .int en), (0, .ref ma), (1, .ref wo)]) rfl rfl rfl ?_
          refine xr_steps (pc' := 4) (L' := [(3, .int (Int32.ofInt ((i : Int) + 1))), (4, .int (Int32.ofInt (g i))), (2, .int en), (0, .ref ma), (1, .ref wo)]) (st' := []) 1 rfl ?_
          refine xr_loc (L := [(3, .int (Int32.ofInt ((i : Int) + 1))), (2, .int en), (0, .ref ma), (1, .ref wo)]) (show [3, 2, 0, 1].Nodup by decide) ⟨rfl, rfl, rfl, rfl, trivial⟩ ?_
          obtain ⟨k, rfl⟩ : ∃ k0, k = k0 + 1 := ⟨k - 1, by omega⟩
          rw [show (i : Int) + 1 = ((i + 1 : Nat) : Int) by omega]
          refine ih k (by omega) (i + 1) _ (if g i = 42 ∨ g i = 43 then S else xes n f (g i) (if i + 1 < m then g (i + 1) else g i) S) (by omega) ?_ hQ
          rw [if_pos (by omega)]
          exact hS
        · refine xr_steps (pc' := 41) (L' := [(4, .int (Int32.ofInt (g i))), (3, .int (Int32.ofInt (i : Int))), (2, .int en), (0, .ref ma), (1, .ref wo)]) (st' := [.int (Int32.ofInt 1), .int (Int32.ofInt (i : Int))]) 2 rfl ?_
          refine xr_iadd rfl ?_
          refine xr_steps (pc' := 43) (L' := [(4, .int (Int32.ofInt (g i))), (3, .int (Int32.ofInt (i : Int))), (2, .int en), (0, .ref ma), (1, .ref wo)]) (st' := [.ref ma, .int (Int32.ofInt ((i : Int) + 1))]) 1 rfl ?_
          refine xr_getf (v := .ref sm) rfl h1 rfl ?_
          refine xr_call (q := (.invokevirtual 103, 3, 69, 1)) (av := [.ref sm]) (rest := [.int (Int32.ofInt ((i : Int) + 1))]) rfl rfl (by decide) rfl (xr_rcv rfl hs.1.choose_spec.1) (Nat.le_of_ble_eq_true rfl) (ms_69 hs) ?_
          rintro _ _ ⟨rfl, eA⟩
          rw [eA]
          clear eA
          refine xr_icmp_ge rfl (by omega) (by omega) (fun z35 => ?_) (fun z35 => ?_)
          · refine xr_steps (pc' := 75) (L' := [(5, .int (Int32.ofInt (g i))), (4, .int (Int32.ofInt (g i))), (3, .int (Int32.ofInt (i : Int))), (2, .int en), (0, .ref ma), (1, .ref wo)]) (st' := [.int en, .ref wo, .int (Int32.ofInt (g i)), .int (Int32.ofInt (g i))]) 6 rfl ?_
            refine xr_call (q := (.invokestatic 116, 3, 194, 4)) (av := [.int (Int32.ofInt (g i)), .int (Int32.ofInt (g i)), .ref wo, .int en]) (rest := []) rfl rfl (by decide) rfl rfl (Nat.le_of_ble_eq_true rfl) (mm_194 (c := g i) (r := g i) hw hv (by omega) (by omega) hn) ?_
            rintro _ _ ⟨en2, ⟨rfl, eA⟩, hen⟩
            rw [eA]
            clear eA
            refine xr_steps (pc' := 79) (L' := [(2, .int en2), (5, .int (Int32.ofInt (g i))), (4, .int (Int32.ofInt (g i))), (3, .int (Int32.ofInt (i : Int))), (0, .ref ma), (1, .ref wo)]) (st' := []) 1 rfl ?_
            refine xr_iinc (L' := [(3, .int (Int32.ofInt ((i : Int) + 1))), (2, .int en2), (5, .int (Int32.ofInt (g i))), (4, .int (Int32.ofInt (g i))), (0, .ref ma), (1, .ref wo)]) rfl rfl rfl ?_
            refine xr_steps (pc' := 4) (L' := [(3, .int (Int32.ofInt ((i : Int) + 1))), (2, .int en2), (5, .int (Int32.ofInt (g i))), (4, .int (Int32.ofInt (g i))), (0, .ref ma), (1, .ref wo)]) (st' := []) 1 rfl ?_
            refine xr_loc (L := [(3, .int (Int32.ofInt ((i : Int) + 1))), (2, .int en2), (0, .ref ma), (1, .ref wo)]) (show [3, 2, 0, 1].Nodup by decide) ⟨rfl, rfl, rfl, rfl, trivial⟩ ?_
            obtain ⟨k, rfl⟩ : ∃ k0, k = k0 + 1 := ⟨k - 1, by omega⟩
            rw [show (i : Int) + 1 = ((i + 1 : Nat) : Int) by omega]
            refine ih k (by omega) (i + 1) _ (if g i = 42 ∨ g i = 43 then S else xes n f (g i) (if i + 1 < m then g (i + 1) else g i) S) (by omega) ?_ hQ
            rw [if_neg (by omega), if_neg (show ¬ i + 1 < m by omega)]
            exact fun q hq => (hen q hq).trans (xes_ext n f _ _ hS q hq)
          · refine xr_steps (pc' := 53) (L' := [(4, .int (Int32.ofInt (g i))), (3, .int (Int32.ofInt (i : Int))), (2, .int en), (0, .ref ma), (1, .ref wo)]) (st' := [.ref ma]) 1 rfl ?_
            refine xr_getf (v := .ref sm) rfl h1 rfl ?_
            refine xr_steps (pc' := 58) (L' := [(4, .int (Int32.ofInt (g i))), (3, .int (Int32.ofInt (i : Int))), (2, .int en), (0, .ref ma), (1, .ref wo)]) (st' := [.int (Int32.ofInt 1), .int (Int32.ofInt (i : Int)), .ref sm]) 2 rfl ?_
            refine xr_iadd rfl ?_
            have r36 := hs.2.2.2 (i + 1) (by omega)
            refine xr_call (q := (.invokevirtual 112, 3, 71, 2)) (av := [.ref sm, .int (Int32.ofInt ((i : Int) + 1))]) (rest := []) rfl rfl (by decide) rfl (xr_rcv rfl hs.1.choose_spec.1) (Nat.le_of_ble_eq_true rfl) (ms_71 hw hs (by omega)) ?_
            rintro _ _ ⟨rfl, eA⟩
            rw [eA]
            clear eA
            rw [show ((i : Int) + 1).toNat = i + 1 by omega]
            refine xr_steps (pc' := 75) (L' := [(5, .int (Int32.ofInt (g (i + 1)))), (4, .int (Int32.ofInt (g i))), (3, .int (Int32.ofInt (i : Int))), (2, .int en), (0, .ref ma), (1, .ref wo)]) (st' := [.int en, .ref wo, .int (Int32.ofInt (g (i + 1))), .int (Int32.ofInt (g i))]) 6 rfl ?_
            refine xr_call (q := (.invokestatic 116, 3, 194, 4)) (av := [.int (Int32.ofInt (g i)), .int (Int32.ofInt (g (i + 1))), .ref wo, .int en]) (rest := []) rfl rfl (by decide) rfl rfl (Nat.le_of_ble_eq_true rfl) (mm_194 (c := g i) (r := g (i + 1)) hw hv (by omega) (by omega) hn) ?_
            rintro _ _ ⟨en2, ⟨rfl, eA⟩, hen⟩
            rw [eA]
            clear eA
            refine xr_steps (pc' := 79) (L' := [(2, .int en2), (5, .int (Int32.ofInt (g (i + 1)))), (4, .int (Int32.ofInt (g i))), (3, .int (Int32.ofInt (i : Int))), (0, .ref ma), (1, .ref wo)]) (st' := []) 1 rfl ?_
            refine xr_iinc (L' := [(3, .int (Int32.ofInt ((i : Int) + 1))), (2, .int en2), (5, .int (Int32.ofInt (g (i + 1)))), (4, .int (Int32.ofInt (g i))), (0, .ref ma), (1, .ref wo)]) rfl rfl rfl ?_
            refine xr_steps (pc' := 4) (L' := [(3, .int (Int32.ofInt ((i : Int) + 1))), (2, .int en2), (5, .int (Int32.ofInt (g (i + 1)))), (4, .int (Int32.ofInt (g i))), (0, .ref ma), (1, .ref wo)]) (st' := []) 1 rfl ?_
            refine xr_loc (L := [(3, .int (Int32.ofInt ((i : Int) + 1))), (2, .int en2), (0, .ref ma), (1, .ref wo)]) (show [3, 2, 0, 1].Nodup by decide) ⟨rfl, rfl, rfl, rfl, trivial⟩ ?_
            obtain ⟨k, rfl⟩ : ∃ k0, k = k0 + 1 := ⟨k - 1, by omega⟩
            rw [show (i : Int) + 1 = ((i + 1 : Nat) : Int) by omega]
            refine ih k (by omega) (i + 1) _ (if g i = 42 ∨ g i = 43 then S else xes n f (g i) (if i + 1 < m then g (i + 1) else g i) S) (by omega) ?_ hQ
            rw [if_neg (by omega), if_pos (show i + 1 < m by omega)]
            exact fun q hq => (hen q hq).trans (xes_ext n f _ _ hS q hq)
theorem mm_193 (hw : w = .null ∨ w = .ref 19) (h1 : xb_get A ma = some (.inr (4, [.int (Int32.ofInt sg), .int (Int32.ofInt bd), .ref sm]))) (hs : ys A sm vm m g) (hv : ys A wo vw n f) (hn : n ≤ 28) (hm : m ≤ 1000) : xr_ok (xt_G w) (d + 1 + 1 + 1 + 1 + 1) 193 0 [(0, .ref ma), (1, .ref wo)] [] A (fun o A' => ∃ v0, o = .inl v0 ∧ ∃ b : Int, (v0 = some (.int (Int32.ofInt b)) ∧ A' = A) ∧ ((b = 1 ∧ xfi n f g m m 0 (fun q => q = 0) n) ∨ (b = 0 ∧ ¬ xfi n f g m m 0 (fun q => q = 0) n))) := by
  refine xr_steps (pc' := 4) (L' := [(3, .int (Int32.ofInt 0)), (2, .int (Int32.ofInt 1)), (0, .ref ma), (1, .ref wo)]) (st' := []) 4 rfl ?_
  refine mm_193l hw h1 hs hv hn hm m 0 (Int32.ofInt 1) (fun q => q = 0) (by omega) (by decide +kernel) (fun b hb => ⟨_, rfl, b, ⟨rfl, rfl⟩, hb⟩)
end MI
