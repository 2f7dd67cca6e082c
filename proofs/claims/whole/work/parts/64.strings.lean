/-! Strings and the cursor -/
/-- a string: its row v of n bytes -/
def ys (A : xb_H) (a v n : Nat) (f : Nat → Int) : Prop := (∃ fs : List Value, xb_get A a = some (.inr (12, fs)) ∧ fs[0]? = some (.ref v) ∧ fs[1]? = some (.int 0)) ∧ xb_get A v = some (.inl (.byte, n, .inl fun j => Int32.ofInt (f j))) ∧ n ≤ 1000 ∧ ∀ j : Nat, j < n → 0 ≤ f j ∧ f j ≤ 127
theorem ys_fr {A A' : xb_H} {a v n : Nat} {f : Nat → Int} {M : List Nat} {p q : Nat} (h : ys A a v n f) (hf : yfr A A' M p q) (ha : ¬ a ∈ M) (hv : ¬ v ∈ M) : ys A' a v n f := by
  obtain ⟨⟨fs, h1, h2, h3⟩, h4, h5, h6⟩ := h
  exact ⟨⟨fs, yfr_get hf h1 ha, h2, h3⟩, yfr_get hf h4 hv, h5, h6⟩
theorem xr_and255N {v : Int} (h : 0 ≤ v ∧ v ≤ 255) : Int32.ofInt v &&& Int32.ofInt 255 = Int32.ofInt v := by
  have key : ∀ n : Fin 256, Int32.ofInt (n.val : Int) &&& Int32.ofInt 255 = Int32.ofInt (n.val : Int) := by decide +kernel
  have := key ⟨v.toNat, by omega⟩
  have e : ((v.toNat : Nat) : Int) = v := by omega
  simp only [e] at this
  exact this
theorem xr_and255I {G : xb_G} {d y pc : Nat} {L : xb_L} {st : List Value} {A : xb_H} {Q : xb_R → xb_H → Prop} {v : Int} (hq : xb_gP G y pc = some (.iand, 1, 0, 0)) (hv : 0 ≤ v ∧ v ≤ 255) (kk : xr_ok G d y (pc + 1) L (.int (Int32.ofInt v) :: st) A Q) : xr_ok G d y pc L (.int (Int32.ofInt 255) :: .int (Int32.ofInt v) :: st) A Q := by
  refine xr_pure hq rfl ?_ kk
  show some (pc + 1, L, .int (Int32.ofInt v &&& Int32.ofInt 255) :: st, A) = _
  rw [xr_and255N hv]
theorem xr_shr0I {G : xb_G} {d y pc : Nat} {L : xb_L} {st : List Value} {A : xb_H} {Q : xb_R → xb_H → Prop} {x : Int32} (hq : xb_gP G y pc = some (.ishr, 1, 0, 0)) (kk : xr_ok G d y (pc + 1) L (.int x :: st) A Q) : xr_ok G d y pc L (.int 0 :: .int x :: st) A Q := by
  refine xr_pure hq rfl ?_ kk
  show some (pc + 1, L, .int (x >>> ((0 : Int32) &&& 31)) :: st, A) = _
  rw [xr_shr0]
theorem xr_wlen {w : Value} (hw : w = .null ∨ w = .ref 19) (a b : Int32) : (lg_sl [.int a, .int b, w]).length ≤ 3 := by
  rcases hw with rfl | rfl <;> exact Nat.le_of_ble_eq_true rfl
theorem xr_wlen4 {w : Value} (hw : w = .null ∨ w = .ref 19) (a b c : Int32) : (lg_sl [.int a, .int b, .int c, w]).length ≤ 4 := by
  rcases hw with rfl | rfl <;> exact Nat.le_of_ble_eq_true rfl

/-- String.coder -/
theorem ms_70 {w : Value} {d : Nat} {A : xb_H} {a v n : Nat} {f : Nat → Int} (hs : ys A a v n f) : xr_ok (xt_G w) d 70 0 [(0, .ref a)] [] A (fun o A' => ∃ v, o = .inl v ∧ v = some (.int 0) ∧ A' = A) := by
  obtain ⟨⟨fs, h1, h2, h3⟩, h4, h5, h6⟩ := hs
  refine xr_steps (pc' := 3) (L' := [(0, .ref a)]) (st' := [.int (Int32.ofInt 1)]) 1 rfl ?_
  refine xr_if_eq rfl (by omega) (fun z1 => ?_) (fun z1 => ?_)
  · exfalso; omega
  · refine xr_steps (pc' := 7) (L' := [(0, .ref a)]) (st' := [.ref a]) 1 rfl ?_
    refine xr_getf (v := .int (Int32.ofInt 0)) rfl h1 h3 ?_
    refine xr_steps (pc' := 14) (L' := [(0, .ref a)]) (st' := [.int (Int32.ofInt 0)]) 1 rfl ?_
    exact xr_retB rfl rfl rfl rfl ⟨_, rfl, rfl, rfl⟩
theorem ms_69 {w : Value} {d : Nat} {A : xb_H} {a v n : Nat} {f : Nat → Int} (hs : ys A a v n f) : xr_ok (xt_G w) (d + 1) 69 0 [(0, .ref a)] [] A (fun o A' => ∃ v, o = .inl v ∧ v = some (.int (Int32.ofInt (n : Int))) ∧ A' = A) := by
  have hs0 := hs
  obtain ⟨⟨fs, h1, h2, h3⟩, h4, h5, h6⟩ := hs
  refine xr_steps (pc' := 1) (L' := [(0, .ref a)]) (st' := [.ref a]) 1 rfl ?_
  refine xr_getf (v := .ref v) rfl h1 h2 ?_
  refine xr_alen rfl h4 ?_
  refine xr_steps (pc' := 6) (L' := [(0, .ref a)]) (st' := [.ref a, .int (Int32.ofInt (n : Int))]) 1 rfl ?_
  refine xr_call (q := (.invokevirtual 335, 3, 70, 1)) (av := [.ref a]) (rest := [.int (Int32.ofInt (n : Int))]) rfl rfl (by decide) rfl (xr_rcv rfl h1) (Nat.le_of_ble_eq_true rfl) (ms_70 hs0) ?_
  rintro _ _ ⟨rfl, eA⟩
  rw [eA]
  clear eA
  refine xr_shr0I rfl ?_
  exact xr_retI2 rfl rfl ⟨_, rfl, rfl, rfl⟩
theorem ms_72 {w : Value} {d : Nat} {A : xb_H} {a v n : Nat} {f : Nat → Int} (hs : ys A a v n f) : xr_ok (xt_G w) d 72 0 [(0, .ref a)] [] A (fun o A' => ∃ v, o = .inl v ∧ v = some (.int (Int32.ofInt 1)) ∧ A' = A) := by
  obtain ⟨⟨fs, h1, h2, h3⟩, h4, h5, h6⟩ := hs
  refine xr_steps (pc' := 3) (L' := [(0, .ref a)]) (st' := [.int (Int32.ofInt 1)]) 1 rfl ?_
  refine xr_if_eq rfl (by omega) (fun z1 => ?_) (fun z1 => ?_)
  · exfalso; omega
  · refine xr_steps (pc' := 7) (L' := [(0, .ref a)]) (st' := [.ref a]) 1 rfl ?_
    refine xr_getf (v := .int (Int32.ofInt 0)) rfl h1 h3 ?_
    refine xr_if_ne rfl (by omega) (fun z2 => ?_) (fun z2 => ?_)
    · exfalso; omega
    · refine xr_steps (pc' := 18) (L' := [(0, .ref a)]) (st' := [.int (Int32.ofInt 1)]) 2 rfl ?_
      exact xr_retZ rfl rfl (by omega) ⟨_, rfl, rfl, rfl⟩
theorem ms_37 {w : Value} {d : Nat} {A : xb_H} {i k : Int} (hi : 0 ≤ i ∧ i < k ∧ k ≤ 100000) : xr_ok (xt_G w) d 37 0 [(0, .int (Int32.ofInt i)), (1, .int (Int32.ofInt k)), (2, w)] [] A (fun o A' => ∃ v, o = .inl v ∧ v = some (.int (Int32.ofInt i)) ∧ A' = A) := by
  refine xr_steps (pc' := 1) (L' := [(0, .int (Int32.ofInt i)), (1, .int (Int32.ofInt k)), (2, w)]) (st' := [.int (Int32.ofInt i)]) 1 rfl ?_
  refine xr_if_lt rfl (by omega) (fun z1 => ?_) (fun z1 => ?_)
  · exfalso; omega
  · refine xr_steps (pc' := 6) (L' := [(0, .int (Int32.ofInt i)), (1, .int (Int32.ofInt k)), (2, w)]) (st' := [.int (Int32.ofInt k), .int (Int32.ofInt i)]) 2 rfl ?_
    refine xr_icmp_lt rfl (by omega) (by omega) (fun z2 => ?_) (fun z2 => ?_)
    · refine xr_steps (pc' := 17) (L' := [(0, .int (Int32.ofInt i)), (1, .int (Int32.ofInt k)), (2, w)]) (st' := [.int (Int32.ofInt i)]) 1 rfl ?_
      exact xr_retI2 rfl rfl ⟨_, rfl, rfl, rfl⟩
    · exfalso; omega
theorem ms_36 {w : Value} {d : Nat} {A : xb_H} {i k : Int} (hw : w = .null ∨ w = .ref 19) (hi : 0 ≤ i ∧ i < k ∧ k ≤ 100000) : xr_ok (xt_G w) (d + 1) 36 0 [(0, .int (Int32.ofInt i)), (1, .int (Int32.ofInt k))] [] A (fun o A' => ∃ v, o = .inl v ∧ v = none ∧ A' = A) := by
  refine xr_steps (pc' := 5) (L' := [(0, .int (Int32.ofInt i)), (1, .int (Int32.ofInt k))]) (st' := [w, .int (Int32.ofInt k), .int (Int32.ofInt i)]) 3 rfl ?_
  refine xr_call (q := (.invokestatic 1059, 3, 37, 3)) (av := [.int (Int32.ofInt i), .int (Int32.ofInt k), w]) (rest := []) rfl rfl (by decide) rfl rfl (xr_wlen hw _ _) (ms_37 hi) ?_
  rintro _ _ ⟨rfl, eA⟩
  rw [eA]
  clear eA
  refine xr_steps (pc' := 9) (L' := [(0, .int (Int32.ofInt i)), (1, .int (Int32.ofInt k))]) (st' := []) 1 rfl ?_
  exact xr_retN rfl rfl ⟨_, rfl, rfl, rfl⟩
theorem ms_73 {w : Value} {d : Nat} {A : xb_H} {v n : Nat} {f : Nat → Int} {i : Int} (hw : w = .null ∨ w = .ref 19) (h4 : xb_get A v = some (.inl (.byte, n, .inl fun j => Int32.ofInt (f j)))) (h5 : n ≤ 1000) (hi : 0 ≤ i ∧ i < n) (hf : 0 ≤ f i.toNat ∧ f i.toNat ≤ 127) : xr_ok (xt_G w) (d + 1 + 1) 73 0 [(0, .ref v), (1, .int (Int32.ofInt i))] [] A (fun o A' => ∃ v, o = .inl v ∧ v = some (.int (Int32.ofInt (f i.toNat))) ∧ A' = A) := by
  refine xr_steps (pc' := 2) (L' := [(0, .ref v), (1, .int (Int32.ofInt i))]) (st' := [.ref v, .int (Int32.ofInt i)]) 2 rfl ?_
  refine xr_alen rfl h4 ?_
  refine xr_call (q := (.invokestatic 9, 3, 36, 2)) (av := [.int (Int32.ofInt i), .int (Int32.ofInt (n : Int))]) (rest := []) rfl rfl (by decide) rfl rfl (Nat.le_of_ble_eq_true rfl) (ms_36 hw (by omega)) ?_
  rintro _ _ ⟨rfl, eA⟩
  rw [eA]
  clear eA
  refine xr_steps (pc' := 8) (L' := [(0, .ref v), (1, .int (Int32.ofInt i))]) (st' := [.int (Int32.ofInt i), .ref v]) 2 rfl ?_
  refine xr_baload rfl h4 rfl (by omega) (by omega) (by omega) ?_
  refine xr_steps (pc' := 12) (L' := [(0, .ref v), (1, .int (Int32.ofInt i))]) (st' := [.int (Int32.ofInt 255), .int (Int32.ofInt (f i.toNat))]) 1 rfl ?_
  refine xr_and255I rfl (by omega) ?_
  refine xr_i2c rfl (by omega) ?_
  exact xr_retCh rfl rfl (by omega) ⟨_, rfl, rfl, rfl⟩
theorem ms_71 {w : Value} {d : Nat} {A : xb_H} {a v n : Nat} {f : Nat → Int} {i : Int} (hw : w = .null ∨ w = .ref 19) (hs : ys A a v n f) (hi : 0 ≤ i ∧ i < n) : xr_ok (xt_G w) (d + 1 + 1 + 1) 71 0 [(0, .ref a), (1, .int (Int32.ofInt i))] [] A (fun o A' => ∃ v, o = .inl v ∧ v = some (.int (Int32.ofInt (f i.toNat))) ∧ A' = A) := by
  have hs0 := hs
  obtain ⟨⟨fs, h1, h2, h3⟩, h4, h5, h6⟩ := hs
  have hf := h6 i.toNat (by omega)
  refine xr_steps (pc' := 1) (L' := [(0, .ref a), (1, .int (Int32.ofInt i))]) (st' := [.ref a]) 1 rfl ?_
  refine xr_call (q := (.invokevirtual 492, 3, 72, 1)) (av := [.ref a]) (rest := []) rfl rfl (by decide) rfl (xr_rcv rfl h1) (Nat.le_of_ble_eq_true rfl) (ms_72 hs0) ?_
  rintro _ _ ⟨rfl, eA⟩
  rw [eA]
  clear eA
  refine xr_if_eq rfl (by omega) (fun z1 => ?_) (fun z1 => ?_)
  · exfalso; omega
  · refine xr_steps (pc' := 8) (L' := [(0, .ref a), (1, .int (Int32.ofInt i))]) (st' := [.ref a]) 1 rfl ?_
    refine xr_getf (v := .ref v) rfl h1 h2 ?_
    refine xr_steps (pc' := 12) (L' := [(0, .ref a), (1, .int (Int32.ofInt i))]) (st' := [.int (Int32.ofInt i), .ref v]) 1 rfl ?_
    refine xr_call (q := (.invokestatic 495, 3, 73, 2)) (av := [.ref v, .int (Int32.ofInt i)]) (rest := []) rfl rfl (by decide) rfl rfl (Nat.le_of_ble_eq_true rfl) (ms_73 hw h4 h5 hi hf) ?_
    rintro _ _ ⟨rfl, eA⟩
    rw [eA]
    clear eA
    exact xr_retCh rfl rfl (by omega) ⟨_, rfl, rfl, rfl⟩
