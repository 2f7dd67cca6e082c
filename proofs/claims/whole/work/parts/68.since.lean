/-! substring, since, toString, setLength, takeText -/
/-- the five string constants -/
def yk_f (i : Nat) (j : Nat) : Int := ((xt_str i).getD j 0).toInt
def yk0 (A : xb_H) : Prop := ys A 9 14 0 (yk_f 0) ∧ ys A 10 15 4 (yk_f 1) ∧ ys A 11 16 4 (yk_f 2) ∧ ys A 12 17 5 (yk_f 3) ∧ ys A 13 18 1 (yk_f 4)
theorem yk0_fr {A A' : xb_H} {M : List Nat} {p q : Nat} (h : yk0 A) (hf : yfr A A' M p q) (hM : ∀ x ∈ M, 64 ≤ x) : yk0 A' := by
  have hm : ∀ x, x < 64 → ¬ x ∈ M := fun x hx hm => by have := hM x hm; omega
  obtain ⟨h1, h2, h3, h4, h5⟩ := h
  exact ⟨ys_fr h1 hf (hm _ (by omega)) (hm _ (by omega)), ys_fr h2 hf (hm _ (by omega)) (hm _ (by omega)), ys_fr h3 hf (hm _ (by omega)) (hm _ (by omega)), ys_fr h4 hf (hm _ (by omega)) (hm _ (by omega)), ys_fr h5 hf (hm _ (by omega)) (hm _ (by omega))⟩
theorem mk_137z {w : Value} {d : Nat} {A : xb_H} {v : Nat} {i : Int}  : xr_ok (xt_G w) d 137 0 [(0, .ref v), (1, .int (Int32.ofInt i)), (2, .int (Int32.ofInt 0))] [] A (fun o A' => ∃ v0, o = .inl v0 ∧ v0 = some (.ref 9) ∧ A' = A) := by
  refine xr_steps (pc' := 1) (L' := [(0, .ref v), (1, .int (Int32.ofInt i)), (2, .int (Int32.ofInt 0))]) (st' := [.int (Int32.ofInt 0)]) 1 rfl ?_
  refine xr_if_ne rfl (by omega) (fun z31 => ?_) (fun z31 => ?_)
  · exfalso; omega
  · refine xr_steps (pc' := 6) (L' := [(0, .ref v), (1, .int (Int32.ofInt i)), (2, .int (Int32.ofInt 0))]) (st' := [.ref 9]) 1 rfl ?_
    exact xr_retR rfl rfl ⟨_, rfl, rfl, rfl⟩
theorem mk_136 {w : Value} {d : Nat} {A : xb_H} {i k n : Int} (hr : 0 ≤ i ∧ i ≤ k ∧ k ≤ n ∧ n ≤ 100000) : xr_ok (xt_G w) d 136 0 [(0, .int (Int32.ofInt i)), (1, .int (Int32.ofInt k)), (2, .int (Int32.ofInt n)), (3, w)] [] A (fun o A' => ∃ v0, o = .inl v0 ∧ v0 = some (.int (Int32.ofInt i)) ∧ A' = A) := by
  refine xr_steps (pc' := 1) (L' := [(0, .int (Int32.ofInt i)), (1, .int (Int32.ofInt k)), (2, .int (Int32.ofInt n)), (3, w)]) (st' := [.int (Int32.ofInt i)]) 1 rfl ?_
  refine xr_if_lt rfl (by omega) (fun z31 => ?_) (fun z31 => ?_)
  · exfalso; omega
  · refine xr_steps (pc' := 6) (L' := [(0, .int (Int32.ofInt i)), (1, .int (Int32.ofInt k)), (2, .int (Int32.ofInt n)), (3, w)]) (st' := [.int (Int32.ofInt k), .int (Int32.ofInt i)]) 2 rfl ?_
    refine xr_icmp_gt rfl (by omega) (by omega) (fun z32 => ?_) (fun z32 => ?_)
    · exfalso; omega
    · refine xr_steps (pc' := 11) (L' := [(0, .int (Int32.ofInt i)), (1, .int (Int32.ofInt k)), (2, .int (Int32.ofInt n)), (3, w)]) (st' := [.int (Int32.ofInt n), .int (Int32.ofInt k)]) 2 rfl ?_
      refine xr_icmp_le rfl (by omega) (by omega) (fun z33 => ?_) (fun z33 => ?_)
      · refine xr_steps (pc' := 23) (L' := [(0, .int (Int32.ofInt i)), (1, .int (Int32.ofInt k)), (2, .int (Int32.ofInt n)), (3, w)]) (st' := [.int (Int32.ofInt i)]) 1 rfl ?_
        exact xr_retI2 rfl rfl ⟨_, rfl, rfl, rfl⟩
      · exfalso; omega
theorem mk_135 {w : Value} {d : Nat} {A : xb_H} {i k n : Int} (hw : w = .null ∨ w = .ref 19) (hr : 0 ≤ i ∧ i ≤ k ∧ k ≤ n ∧ n ≤ 100000) : xr_ok (xt_G w) (d + 1) 135 0 [(0, .int (Int32.ofInt i)), (1, .int (Int32.ofInt k)), (2, .int (Int32.ofInt n))] [] A (fun o A' => ∃ v0, o = .inl v0 ∧ v0 = none ∧ A' = A) := by
  refine xr_steps (pc' := 6) (L' := [(0, .int (Int32.ofInt i)), (1, .int (Int32.ofInt k)), (2, .int (Int32.ofInt n))]) (st' := [w, .int (Int32.ofInt n), .int (Int32.ofInt k), .int (Int32.ofInt i)]) 4 rfl ?_
  refine xr_call (q := (.invokestatic 1062, 3, 136, 4)) (av := [.int (Int32.ofInt i), .int (Int32.ofInt k), .int (Int32.ofInt n), w]) (rest := []) rfl rfl (by decide) rfl rfl (xr_wlen4 hw _ _ _) (mk_136 hr) ?_
  rintro _ _ ⟨rfl, eA⟩
  rw [eA]
  clear eA
  refine xr_steps (pc' := 10) (L' := [(0, .int (Int32.ofInt i)), (1, .int (Int32.ofInt k)), (2, .int (Int32.ofInt n))]) (st' := []) 1 rfl ?_
  exact xr_retN rfl rfl ⟨_, rfl, rfl, rfl⟩
theorem mk_134 {w : Value} {d : Nat} {A : xb_H} {a v n : Nat} {f : Nat → Int} {i k : Int} (hw : w = .null ∨ w = .ref 19) (hs : ys A a v n f) (h0 : ys A 9 14 0 (yk_f 0)) (hr : 0 ≤ i ∧ i ≤ k ∧ k ≤ n) (hA : 64 ≤ A.1) : xr_ok (xt_G w) (d + 1 + 1 + 1 + 1) 134 0 [(0, .ref a), (1, .int (Int32.ofInt i)), (2, .int (Int32.ofInt k))] [] A (fun o A' => ∃ v0, o = .inl v0 ∧ ∃ (a' v' : Nat) (f' : Nat → Int), v0 = some (.ref a') ∧ ys A' a' v' (k - i).toNat f' ∧ (∀ j : Nat, j < (k - i).toNat → f' j = f (i.toNat + j)) ∧ yfr A A' [] 2 (4 + (k - i).toNat) ∧ ((a' = a ∧ v' = v) ∨ (a' = 9 ∧ v' = 14) ∨ (A.1 ≤ a' ∧ A.1 ≤ v'))) := by
  have hs0 := hs
  obtain ⟨⟨fs, h1, h2, h3⟩, h4, h5, h6⟩ := hs0
  have hM : ¬ (i = 0 ∧ k = n) → xr_ok (xt_G w) (d + 1 + 1 + 1) 137 0 [(0, .ref v), (1, .int (Int32.ofInt i)), (2, .int (Int32.ofInt (k - i)))] [] A (fun o A' => ∃ v0, o = .inl v0 ∧ ∃ a' : Nat, v0 = some (.ref a') ∧ ∃ (v' : Nat) (f' : Nat → Int), ys A' a' v' (k - i).toNat f' ∧ (∀ j : Nat, j < (k - i).toNat → f' j = f (i.toNat + j)) ∧ yfr A A' [] 2 (4 + (k - i).toNat) ∧ ((a' = a ∧ v' = v) ∨ (a' = 9 ∧ v' = 14) ∨ (A.1 ≤ a' ∧ A.1 ≤ v'))) := by
    intro hx
    by_cases hl : k - i = 0
    · rw [hl]
      refine xr_conseq mk_137z ?_
      rintro o A' ⟨v0, e1, e2, e3⟩
      rw [e3]
      exact ⟨v0, e1, 9, e2, 14, yk_f 0, h0, fun j hj => absurd hj (Nat.not_lt_zero _), yfr_refl _ _ _ _, Or.inr (Or.inl ⟨rfl, rfl⟩)⟩
    · refine xr_conseq (mk_137 (by omega) (by omega) h4 h6 h5 hA) ?_
      rintro o A' ⟨v0, e1, g, e2, e3, e4, e5, e6, e7⟩
      refine ⟨v0, e1, A.1, e2, A.1 + 1, g, ⟨⟨_, e3, rfl, rfl⟩, e4, by omega, fun j hj => ?_⟩, e5, e6, Or.inr (Or.inr ⟨Nat.le_refl _, Nat.le_succ _⟩)⟩
      rw [e5 j hj]
      exact h6 _ (by omega)
  refine xr_steps (pc' := 1) (L' := [(0, .ref a), (1, .int (Int32.ofInt i)), (2, .int (Int32.ofInt k))]) (st' := [.ref a]) 1 rfl ?_
  refine xr_call (q := (.invokevirtual 505, 3, 69, 1)) (av := [.ref a]) (rest := []) rfl rfl (by decide) rfl (xr_rcv rfl h1) (Nat.le_of_ble_eq_true rfl) (ms_69 hs) ?_
  rintro _ _ ⟨rfl, eA⟩
  rw [eA]
  clear eA
  refine xr_steps (pc' := 8) (L' := [(3, .int (Int32.ofInt (n : Int))), (0, .ref a), (1, .int (Int32.ofInt i)), (2, .int (Int32.ofInt k))]) (st' := [.int (Int32.ofInt (n : Int)), .int (Int32.ofInt k), .int (Int32.ofInt i)]) 4 rfl ?_
  refine xr_call (q := (.invokestatic 521, 3, 135, 3)) (av := [.int (Int32.ofInt i), .int (Int32.ofInt k), .int (Int32.ofInt (n : Int))]) (rest := []) rfl rfl (by decide) rfl rfl (Nat.le_of_ble_eq_true rfl) (mk_135 hw (by omega)) ?_
  rintro _ _ ⟨rfl, eA⟩
  rw [eA]
  clear eA
  refine xr_steps (pc' := 12) (L' := [(3, .int (Int32.ofInt (n : Int))), (0, .ref a), (1, .int (Int32.ofInt i)), (2, .int (Int32.ofInt k))]) (st' := [.int (Int32.ofInt i)]) 1 rfl ?_
  refine xr_if_ne rfl (by omega) (fun z31 => ?_) (fun z31 => ?_)
  · refine xr_steps (pc' := 24) (L' := [(3, .int (Int32.ofInt (n : Int))), (0, .ref a), (1, .int (Int32.ofInt i)), (2, .int (Int32.ofInt k))]) (st' := [.int (Int32.ofInt i), .int (Int32.ofInt k)]) 2 rfl ?_
    refine xr_isub rfl ?_
    refine xr_steps (pc' := 28) (L' := [(4, .int (Int32.ofInt (k - i))), (3, .int (Int32.ofInt (n : Int))), (0, .ref a), (1, .int (Int32.ofInt i)), (2, .int (Int32.ofInt k))]) (st' := [.ref a]) 2 rfl ?_
    refine xr_call (q := (.invokevirtual 492, 3, 72, 1)) (av := [.ref a]) (rest := []) rfl rfl (by decide) rfl (xr_rcv rfl h1) (Nat.le_of_ble_eq_true rfl) (ms_72 hs) ?_
    rintro _ _ ⟨rfl, eA⟩
    rw [eA]
    clear eA
    refine xr_if_eq rfl (by omega) (fun z32 => ?_) (fun z32 => ?_)
    · exfalso; omega
    · refine xr_steps (pc' := 35) (L' := [(4, .int (Int32.ofInt (k - i))), (3, .int (Int32.ofInt (n : Int))), (0, .ref a), (1, .int (Int32.ofInt i)), (2, .int (Int32.ofInt k))]) (st' := [.ref a]) 1 rfl ?_
      refine xr_getf (v := .ref v) rfl h1 h2 ?_
      refine xr_steps (pc' := 41) (L' := [(4, .int (Int32.ofInt (k - i))), (3, .int (Int32.ofInt (n : Int))), (0, .ref a), (1, .int (Int32.ofInt i)), (2, .int (Int32.ofInt k))]) (st' := [.int (Int32.ofInt (k - i)), .int (Int32.ofInt i), .ref v]) 2 rfl ?_
      refine xr_call (q := (.invokestatic 685, 3, 137, 3)) (av := [.ref v, .int (Int32.ofInt i), .int (Int32.ofInt (k - i))]) (rest := []) rfl rfl (by decide) rfl rfl (Nat.le_of_ble_eq_true rfl) (hM (by omega)) ?_
      rintro _ A9 ⟨a9, rfl, k9⟩
      refine xr_steps (pc' := 57) (L' := [(4, .int (Int32.ofInt (k - i))), (3, .int (Int32.ofInt (n : Int))), (0, .ref a), (1, .int (Int32.ofInt i)), (2, .int (Int32.ofInt k))]) (st' := [.ref a9]) 1 rfl ?_
      obtain ⟨v', f', q1, q2, q3, q4⟩ := k9
      exact xr_retR rfl rfl ⟨_, rfl, a9, v', f', rfl, q1, q2, q3, q4⟩
  · refine xr_steps (pc' := 17) (L' := [(3, .int (Int32.ofInt (n : Int))), (0, .ref a), (1, .int (Int32.ofInt i)), (2, .int (Int32.ofInt k))]) (st' := [.int (Int32.ofInt (n : Int)), .int (Int32.ofInt k)]) 2 rfl ?_
    refine xr_icmp_ne rfl (by omega) (by omega) (fun z33 => ?_) (fun z33 => ?_)
    · refine xr_steps (pc' := 24) (L' := [(3, .int (Int32.ofInt (n : Int))), (0, .ref a), (1, .int (Int32.ofInt i)), (2, .int (Int32.ofInt k))]) (st' := [.int (Int32.ofInt i), .int (Int32.ofInt k)]) 2 rfl ?_
      refine xr_isub rfl ?_
      refine xr_steps (pc' := 28) (L' := [(4, .int (Int32.ofInt (k - i))), (3, .int (Int32.ofInt (n : Int))), (0, .ref a), (1, .int (Int32.ofInt i)), (2, .int (Int32.ofInt k))]) (st' := [.ref a]) 2 rfl ?_
      refine xr_call (q := (.invokevirtual 492, 3, 72, 1)) (av := [.ref a]) (rest := []) rfl rfl (by decide) rfl (xr_rcv rfl h1) (Nat.le_of_ble_eq_true rfl) (ms_72 hs) ?_
      rintro _ _ ⟨rfl, eA⟩
      rw [eA]
      clear eA
      refine xr_if_eq rfl (by omega) (fun z34 => ?_) (fun z34 => ?_)
      · exfalso; omega
      · refine xr_steps (pc' := 35) (L' := [(4, .int (Int32.ofInt (k - i))), (3, .int (Int32.ofInt (n : Int))), (0, .ref a), (1, .int (Int32.ofInt i)), (2, .int (Int32.ofInt k))]) (st' := [.ref a]) 1 rfl ?_
        refine xr_getf (v := .ref v) rfl h1 h2 ?_
        refine xr_steps (pc' := 41) (L' := [(4, .int (Int32.ofInt (k - i))), (3, .int (Int32.ofInt (n : Int))), (0, .ref a), (1, .int (Int32.ofInt i)), (2, .int (Int32.ofInt k))]) (st' := [.int (Int32.ofInt (k - i)), .int (Int32.ofInt i), .ref v]) 2 rfl ?_
        refine xr_call (q := (.invokestatic 685, 3, 137, 3)) (av := [.ref v, .int (Int32.ofInt i), .int (Int32.ofInt (k - i))]) (rest := []) rfl rfl (by decide) rfl rfl (Nat.le_of_ble_eq_true rfl) (hM (by omega)) ?_
        rintro _ A9 ⟨a9, rfl, k9⟩
        refine xr_steps (pc' := 57) (L' := [(4, .int (Int32.ofInt (k - i))), (3, .int (Int32.ofInt (n : Int))), (0, .ref a), (1, .int (Int32.ofInt i)), (2, .int (Int32.ofInt k))]) (st' := [.ref a9]) 1 rfl ?_
        obtain ⟨v', f', q1, q2, q3, q4⟩ := k9
        exact xr_retR rfl rfl ⟨_, rfl, a9, v', f', rfl, q1, q2, q3, q4⟩
    · refine xr_steps (pc' := 21) (L' := [(3, .int (Int32.ofInt (n : Int))), (0, .ref a), (1, .int (Int32.ofInt i)), (2, .int (Int32.ofInt k))]) (st' := [.ref a]) 1 rfl ?_
      obtain rfl : i = 0 := by omega
      have ek : (k - 0).toNat = n := by omega
      refine xr_retR rfl rfl ⟨_, rfl, a, v, f, rfl, ?_, fun j _ => ?_, yfr_refl _ _ _ _, Or.inl ⟨rfl, rfl⟩⟩
      · rw [ek]; exact hs
      · show f j = f (0 + j)
        rw [Nat.zero_add]
theorem mk_133 {w : Value} {d : Nat} {A : xb_H} {cu sa v n p i : Nat} {f : Nat → Int} (hw : w = .null ∨ w = .ref 19) (hc : ycu A cu sa v n f p) (h0 : ys A 9 14 0 (yk_f 0)) (hi : i ≤ p) : xr_ok (xt_G w) (d + 1 + 1 + 1 + 1 + 1) 133 0 [(0, .ref cu), (1, .int (Int32.ofInt (i : Int)))] [] A (fun o A' => ∃ v0, o = .inl v0 ∧ ∃ (a' v' : Nat) (f' : Nat → Int), v0 = some (.ref a') ∧ ys A' a' v' (p - i) f' ∧ (∀ j : Nat, j < p - i → f' j = f (i + j)) ∧ yfr A A' [] 2 (4 + (p - i)) ∧ ((a' = sa ∧ v' = v) ∨ (a' = 9 ∧ v' = 14) ∨ (A.1 ≤ a' ∧ A.1 ≤ v'))) := by
  have hs := hc.2.1
  have h1 := hc.1
  have hp := hc.2.2
  have hA : 64 ≤ A.1 := by have := xb_get_lt h1; omega
  obtain ⟨⟨fs, hsa, -⟩, -⟩ := hc.2.1
  refine xr_steps (pc' := 1) (L' := [(0, .ref cu), (1, .int (Int32.ofInt (i : Int)))]) (st' := [.int (Int32.ofInt (i : Int))]) 1 rfl ?_
  refine xr_if_lt rfl (by omega) (fun z31 => ?_) (fun z31 => ?_)
  · exfalso; omega
  · refine xr_steps (pc' := 6) (L' := [(0, .ref cu), (1, .int (Int32.ofInt (i : Int)))]) (st' := [.ref cu, .int (Int32.ofInt (i : Int))]) 2 rfl ?_
    refine xr_getf (v := .int (Int32.ofInt (p : Int))) rfl h1 rfl ?_
    refine xr_icmp_gt rfl (by omega) (by omega) (fun z32 => ?_) (fun z32 => ?_)
    · exfalso; omega
    · refine xr_steps (pc' := 13) (L' := [(0, .ref cu), (1, .int (Int32.ofInt (i : Int)))]) (st' := [.ref cu]) 1 rfl ?_
      refine xr_getf (v := .ref sa) rfl h1 rfl ?_
      refine xr_steps (pc' := 18) (L' := [(0, .ref cu), (1, .int (Int32.ofInt (i : Int)))]) (st' := [.ref cu, .int (Int32.ofInt (i : Int)), .ref sa]) 2 rfl ?_
      refine xr_getf (v := .int (Int32.ofInt (p : Int))) rfl h1 rfl ?_
      refine xr_call (q := (.invokevirtual 35, 3, 134, 3)) (av := [.ref sa, .int (Int32.ofInt (i : Int)), .int (Int32.ofInt (p : Int))]) (rest := []) rfl rfl (by decide) rfl (xr_rcv rfl hsa) (Nat.le_of_ble_eq_true rfl) (mk_134 hw hs h0 (by omega) hA) ?_
      rintro _ A9 ⟨a9, v9, f9, rfl, q1, q2, q3, q4⟩
      refine xr_steps (pc' := 29) (L' := [(0, .ref cu), (1, .int (Int32.ofInt (i : Int)))]) (st' := [.ref a9]) 1 rfl ?_
      have e1 : ((p : Int) - (i : Int)).toNat = p - i := by omega
      rw [e1] at q1 q2 q3
      exact xr_retR rfl rfl ⟨_, rfl, a9, v9, f9, rfl, q1, fun j hj => by rw [q2 j hj, Int.toNat_natCast], q3, q4⟩
