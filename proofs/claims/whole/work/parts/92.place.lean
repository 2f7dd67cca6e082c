/-! A place is read -/
/-- the place that a text is -/
def xpc0 (n : Nat) (f : Nat → Int) (l : List Int) : Prop := ye n f 0 = 36 ∧ xsp 0 (ye n f) 50 1 = some (l, n)
theorem mp_65 {w : Value} {d : Nat} {A : xb_H} {cu sa v n p : Nat} {f : Nat → Int}  (hw : w = .null ∨ w = .ref 19) (hc : ycu A cu sa v n f p) (hp0 : p = 0) : xr_ok (xt_G w) (d + 1 + 1 + 1 + 1 + 1 + 1 + 1 + 1 + 1) 65 0 [(0, .ref cu)] [] A (fun o A' => ∃ v0, o = .inl v0 ∧ (∃ p', ymv A A' cu sa v n f p' 2 52) ∧ ((∃ (pa ro : Nat) (l : List Int), v0 = some (.ref pa) ∧ ypa A' pa ro 50 l ∧ ((A.1 ≤ pa ∧ pa < A'.1) ∧ A.1 ≤ ro ∧ ro < A'.1) ∧ xpc0 n f l) ∨ (v0 = some .null ∧ ¬ ∃ l, xpc0 n f l))) := by
  have m0 := ymv_refl hc 0 0
  have hlt0 := hc.2.2
  subst hp0
  refine xr_steps (pc' := 4) (L' := [(0, .ref cu)]) (st' := [.int (Int32.ofInt 0), .int (Int32.ofInt 50), .ref cu]) 3 rfl ?_
  refine xr_call (q := (.invokestatic 15, 3, 66, 3)) (av := [.ref cu, .int (Int32.ofInt 50), .int (Int32.ofInt 0)]) (rest := []) rfl rfl (by decide) rfl rfl (Nat.le_of_ble_eq_true rfl) (mp_66 (rm := 50) hw hc (Or.inl rfl) (by omega)) ?_
  rintro _ B1 ⟨p1, hp1, m1, ⟨pa, ro, l, rfl, hp, hpa, hr⟩ | ⟨rfl, hr⟩⟩
  · refine xr_steps (pc' := 9) (L' := [(1, .ref pa), (0, .ref cu)]) (st' := [.ref cu]) 2 rfl ?_
    obtain ⟨b31, hb31⟩ := mo_bool (p1 = n)
    refine xr_call (q := (.invokevirtual 19, 3, 83, 1)) (av := [.ref cu]) (rest := []) rfl rfl (by decide) rfl (xr_rcv rfl m1.1.1) (Nat.le_of_ble_eq_true rfl) (mk_83 hw m1.1 hb31) ?_
    rintro _ _ ⟨rfl, eA⟩
    rw [eA]
    clear eA
    refine xr_if_eq rfl (by omega) (fun z32 => ?_) (fun z32 => ?_)
    · refine xr_steps (pc' := 20) (L' := [(1, .ref pa), (0, .ref cu)]) (st' := [.null]) 1 rfl ?_
      refine xr_retNull rfl rfl ⟨_, rfl, ⟨p1, m1⟩, Or.inr ⟨rfl, ?_⟩⟩
      rintro ⟨l', h36, h⟩
      rw [if_pos h36, h] at hr
      cases hr
      try omega
    · refine xr_steps (pc' := 20) (L' := [(1, .ref pa), (0, .ref cu)]) (st' := [.ref pa]) 2 rfl ?_
      refine xr_retR rfl rfl ⟨_, rfl, ⟨p1, m1⟩, Or.inl ⟨pa, ro, l, rfl, hp, hpa, ?_⟩⟩
      obtain rfl : p1 = n := by omega
      by_cases h36 : ye p1 f 0 = 36
      · rw [if_pos h36] at hr
        exact ⟨h36, hr⟩
      · rw [if_neg h36] at hr
        cases hr
  · refine xr_steps (pc' := 9) (L' := [(1, .null), (0, .ref cu)]) (st' := [.ref cu]) 2 rfl ?_
    obtain ⟨b33, hb33⟩ := mo_bool (p1 = n)
    refine xr_call (q := (.invokevirtual 19, 3, 83, 1)) (av := [.ref cu]) (rest := []) rfl rfl (by decide) rfl (xr_rcv rfl m1.1.1) (Nat.le_of_ble_eq_true rfl) (mk_83 hw m1.1 hb33) ?_
    rintro _ _ ⟨rfl, eA⟩
    rw [eA]
    clear eA
    refine xr_if_eq rfl (by omega) (fun z34 => ?_) (fun z34 => ?_)
    · refine xr_steps (pc' := 20) (L' := [(1, .null), (0, .ref cu)]) (st' := [.null]) 1 rfl ?_
      refine xr_retNull rfl rfl ⟨_, rfl, ⟨p1, m1⟩, Or.inr ⟨rfl, ?_⟩⟩
      rintro ⟨l', h36, h⟩
      rw [if_pos h36, h] at hr
      cases hr
      try omega
    · refine xr_steps (pc' := 20) (L' := [(1, .null), (0, .ref cu)]) (st' := [.null]) 2 rfl ?_
      refine xr_retNull rfl rfl ⟨_, rfl, ⟨p1, m1⟩, Or.inr ⟨rfl, ?_⟩⟩
      rintro ⟨l', h36, h⟩
      rw [if_pos h36, h] at hr
      cases hr
      try omega
