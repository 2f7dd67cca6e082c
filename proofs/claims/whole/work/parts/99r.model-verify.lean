/-! The reference: states are set up, compared and torn down -/
def xES (s : Nat → Int) (t : Nat → Nat → Int) (ev : List Int) : Prop := s 11 = (ev.length : Int) ∧ ∀ j : Nat, j < ev.length → t 174 j = ev.getD j 0
def xEV (s0 : Nat → Int) (t0 : Nat → Nat → Int) (s : Nat → Int) (t : Nat → Nat → Int) (ev : List Int) : Prop := xES s t ev ∧ (∀ x : Nat, ¬ x = 11 → s x = s0 x) ∧ ∀ x : Nat, ¬ x = 174 → t x = t0 x
theorem xEV_add {s0 s : Nat → Int} {t0 t : Nat → Nat → Int} {ev : List Int} (h : xEV s0 t0 s t ev) (c : Int) : xEV s0 t0 (va_up s 11 ((ev.length : Int) + 1)) (va_up t 174 (va_up (t 174) ev.length c)) (ev ++ [c]) := by
  obtain ⟨⟨h1, h2⟩, h3, h4⟩ := h
  refine ⟨⟨?_, fun j hj => ?_⟩, fun x hx => by rw [ya_up_ne _ _ hx]; exact h3 x hx, fun x hx => by rw [ya_up_ne _ _ hx]; exact h4 x hx⟩
  · rw [ya_up_same, List.length_append, List.length_singleton]; omega
  · rw [ya_up_same, xl_snoc ev c j hj]
    by_cases e : j = ev.length
    · rw [if_pos e, e, ya_up_same]
    · rw [List.length_append, List.length_singleton] at hj
      rw [if_neg e, ya_up_ne _ _ e]
      exact h2 j (by omega)
section TE
variable {w : Value} {d : Nat} {A : xb_H} {t0 t : Nat → Nat → Int} {s0 s : Nat → Int} {hd : Nat → Int} {ns ev : List Int} {i : Nat} {n2 : Int} {Q : xb_R → xb_H → Prop}
theorem mo_255l (hA : 194 ≤ A.1) (hi : i < 4) (hns : ns.length ≤ 3 ∧ (∀ j : Nat, j < ns.length → t0 172 (3 * i + j) = ns.getD j 0) ∧ ∀ c ∈ ns, 0 ≤ c ∧ c ≤ 5) (hhd : ∀ j : Nat, j < 6 → t0 173 j = hd j ∧ 0 ≤ hd j ∧ hd j ≤ 3) : ∀ (k : Nat) (s : Nat → Int) (t : Nat → Nat → Int) (ev : List Int), k ≤ ns.length → ev.length + k ≤ 3080 → xEV s0 t0 s t ev → (∀ (s : Nat → Int) (t : Nat → Nat → Int), xEV s0 t0 s t (ev ++ xtd hd (ns.take k)) → Q (.inl none) (ym A s t)) → xr_ok (xt_G w) (d + 1) 255 4 [(3, .int (Int32.ofInt ((k : Int) - 1))), (0, .ref 165), (1, .int (Int32.ofInt (i : Int))), (2, .int (Int32.ofInt n2))] [] (ym A s t) Q := by
  intro k
  induction k using Nat.strongRecOn with
  | _ k ih =>
    intro s t ev hk hl hev hQ
    refine xr_steps (pc' := 5) (L' := [(3, .int (Int32.ofInt ((k : Int) - 1))), (0, .ref 165), (1, .int (Int32.ofInt (i : Int))), (2, .int (Int32.ofInt n2))]) (st' := [.int (Int32.ofInt ((k : Int) - 1))]) 1 rfl ?_
    refine xr_if_lt rfl (by omega) (fun z31 => ?_) (fun z31 => ?_)
    · obtain rfl : k = 0 := by omega
      have hq := hQ s t
      rw [List.take_zero, show xtd hd [] = [] from rfl, List.append_nil] at hq
      exact xr_retN rfl rfl (hq hev)
    · obtain ⟨j, rfl⟩ : ∃ j, k = j + 1 := ⟨k - 1, by omega⟩
      rw [show ((j + 1 : Nat) : Int) - 1 = (j : Int) by omega]
      have hcr := xns_rng hns.2.2 (show j < ns.length by omega)
      have hrd := hns.2.1 j (by omega)
      obtain ⟨c, hc⟩ : ∃ c, ns.getD j 0 = c := ⟨_, rfl⟩
      rw [hc] at hrd hcr
      have hcd := hhd c.toNat (by omega)
      refine xr_steps (pc' := 9) (L' := [(3, .int (Int32.ofInt (j : Int))), (0, .ref 165), (1, .int (Int32.ofInt (i : Int))), (2, .int (Int32.ofInt n2))]) (st' := [.ref 165]) 1 rfl ?_
      refine xr_getf (v := .ref 172) rfl (ym_165 hA) rfl ?_
      refine xr_steps (pc' := 14) (L' := [(3, .int (Int32.ofInt (j : Int))), (0, .ref 165), (1, .int (Int32.ofInt (i : Int))), (2, .int (Int32.ofInt n2))]) (st' := [.int (Int32.ofInt (i : Int)), .int (Int32.ofInt 3), .ref 172]) 2 rfl ?_
      refine xr_imul rfl ?_
      refine xr_steps (pc' := 16) (L' := [(3, .int (Int32.ofInt (j : Int))), (0, .ref 165), (1, .int (Int32.ofInt (i : Int))), (2, .int (Int32.ofInt n2))]) (st' := [.int (Int32.ofInt (j : Int)), .int (Int32.ofInt (3 * (i : Int))), .ref 172]) 1 rfl ?_
      refine xr_iadd rfl ?_
      refine ym_iaload (e := t 172 ((3 * (i : Int)) + (j : Int)).toNat) hA rfl rfl (by decide) (by omega) (by omega) rfl ?_
      rw [show ((3 * (i : Int)) + (j : Int)).toNat = (3 * i) + j by omega]
      rw [hev.2.2 172 (by omega), hrd]
      refine xr_steps (pc' := 24) (L' := [(4, .int (Int32.ofInt c)), (3, .int (Int32.ofInt (j : Int))), (0, .ref 165), (1, .int (Int32.ofInt (i : Int))), (2, .int (Int32.ofInt n2))]) (st' := [.ref 165, .int (Int32.ofInt c), .ref 165]) 4 rfl ?_
      refine xr_getf (v := .ref 173) rfl (ym_165 hA) rfl ?_
      refine xr_steps (pc' := 29) (L' := [(4, .int (Int32.ofInt c)), (3, .int (Int32.ofInt (j : Int))), (0, .ref 165), (1, .int (Int32.ofInt (i : Int))), (2, .int (Int32.ofInt n2))]) (st' := [.int (Int32.ofInt c), .ref 173, .int (Int32.ofInt c), .ref 165]) 1 rfl ?_
      refine ym_iaload (e := t 173 c.toNat) hA rfl rfl (by decide) (by omega) (by omega) rfl ?_
      rw [hev.2.2 173 (by omega), hcd.1]
      refine xr_steps (pc' := 31) (L' := [(4, .int (Int32.ofInt c)), (3, .int (Int32.ofInt (j : Int))), (0, .ref 165), (1, .int (Int32.ofInt (i : Int))), (2, .int (Int32.ofInt n2))]) (st' := [.int (Int32.ofInt 3), .int (Int32.ofInt (hd c.toNat)), .int (Int32.ofInt c), .ref 165]) 1 rfl ?_
      refine xr_icmp_ne rfl (by omega) (by omega) (fun z32 => ?_) (fun z32 => ?_)
      · refine xr_steps (pc' := 39) (L' := [(4, .int (Int32.ofInt c)), (3, .int (Int32.ofInt (j : Int))), (0, .ref 165), (1, .int (Int32.ofInt (i : Int))), (2, .int (Int32.ofInt n2))]) (st' := [.int (Int32.ofInt 1), .int (Int32.ofInt c), .ref 165]) 1 rfl ?_
        refine xr_call (q := (.invokevirtual 250, 3, 239, 3)) (av := [.ref 165, .int (Int32.ofInt c), .int (Int32.ofInt 1)]) (rest := []) rfl rfl (by decide) rfl (ym_rcv hA rfl) (Nat.le_of_ble_eq_true rfl) (mo_239 (E := ev.length) hA hev.1.1 (by omega)) ?_
        rintro _ _ ⟨rfl, eA⟩
        rw [eA]
        clear eA
        refine xr_iincn (L' := [(3, .int (Int32.ofInt ((j : Int) - 1))), (4, .int (Int32.ofInt c)), (0, .ref 165), (1, .int (Int32.ofInt (i : Int))), (2, .int (Int32.ofInt n2))]) rfl rfl rfl ?_
        refine xr_steps (pc' := 4) (L' := [(3, .int (Int32.ofInt ((j : Int) - 1))), (4, .int (Int32.ofInt c)), (0, .ref 165), (1, .int (Int32.ofInt (i : Int))), (2, .int (Int32.ofInt n2))]) (st' := []) 1 rfl ?_
        refine xr_loc (L := [(3, .int (Int32.ofInt ((j : Int) - 1))), (0, .ref 165), (1, .int (Int32.ofInt (i : Int))), (2, .int (Int32.ofInt n2))]) (show [3, 0, 1, 2].Nodup by decide) ⟨rfl, rfl, rfl, rfl, trivial⟩ ?_
        have hta := xEV_add hev (10 * c + 1)
        refine ih j (by omega) _ _ (ev ++ [10 * c + 1]) (by omega) (by rw [List.length_append, List.length_singleton]; omega) hta (fun s' t' h' => hQ s' t' ?_)
        rw [xns_take (by omega), hc, xtd_snoc, show (if hd c.toNat = 3 then (3 : Int) else 1) = 1 from if_neg (by omega)]
        rw [List.append_assoc] at h'
        exact h'
      · refine xr_steps (pc' := 39) (L' := [(4, .int (Int32.ofInt c)), (3, .int (Int32.ofInt (j : Int))), (0, .ref 165), (1, .int (Int32.ofInt (i : Int))), (2, .int (Int32.ofInt n2))]) (st' := [.int (Int32.ofInt 3), .int (Int32.ofInt c), .ref 165]) 2 rfl ?_
        refine xr_call (q := (.invokevirtual 250, 3, 239, 3)) (av := [.ref 165, .int (Int32.ofInt c), .int (Int32.ofInt 3)]) (rest := []) rfl rfl (by decide) rfl (ym_rcv hA rfl) (Nat.le_of_ble_eq_true rfl) (mo_239 (E := ev.length) hA hev.1.1 (by omega)) ?_
        rintro _ _ ⟨rfl, eA⟩
        rw [eA]
        clear eA
        refine xr_iincn (L' := [(3, .int (Int32.ofInt ((j : Int) - 1))), (4, .int (Int32.ofInt c)), (0, .ref 165), (1, .int (Int32.ofInt (i : Int))), (2, .int (Int32.ofInt n2))]) rfl rfl rfl ?_
        refine xr_steps (pc' := 4) (L' := [(3, .int (Int32.ofInt ((j : Int) - 1))), (4, .int (Int32.ofInt c)), (0, .ref 165), (1, .int (Int32.ofInt (i : Int))), (2, .int (Int32.ofInt n2))]) (st' := []) 1 rfl ?_
        refine xr_loc (L := [(3, .int (Int32.ofInt ((j : Int) - 1))), (0, .ref 165), (1, .int (Int32.ofInt (i : Int))), (2, .int (Int32.ofInt n2))]) (show [3, 0, 1, 2].Nodup by decide) ⟨rfl, rfl, rfl, rfl, trivial⟩ ?_
        have hta := xEV_add hev (10 * c + 3)
        refine ih j (by omega) _ _ (ev ++ [10 * c + 3]) (by omega) (by rw [List.length_append, List.length_singleton]; omega) hta (fun s' t' h' => hQ s' t' ?_)
        rw [xns_take (by omega), hc, xtd_snoc, show (if hd c.toNat = 3 then (3 : Int) else 1) = 3 from if_pos (by omega)]
        rw [List.append_assoc] at h'
        exact h'
theorem mo_255 {k : Nat} (hA : 194 ≤ A.1) (hi : i < 4) (hns : ns.length ≤ 3 ∧ (∀ j : Nat, j < ns.length → t0 172 (3 * i + j) = ns.getD j 0) ∧ ∀ c ∈ ns, 0 ≤ c ∧ c ≤ 5) (hhd : ∀ j : Nat, j < 6 → t0 173 j = hd j ∧ 0 ≤ hd j ∧ hd j ≤ 3) (hk : k ≤ ns.length) (hl : ev.length + k ≤ 3080) (hev : xEV s0 t0 s t ev) : xr_ok (xt_G w) (d + 1) 255 0 [(0, .ref 165), (1, .int (Int32.ofInt (i : Int))), (2, .int (Int32.ofInt (k : Int)))] [] (ym A s t) (fun o A' => ∃ v0, o = .inl v0 ∧ v0 = none ∧ ∃ (s' : Nat → Int) (t' : Nat → Nat → Int), A' = ym A s' t' ∧ xEV s0 t0 s' t' (ev ++ xtd hd (ns.take k))) := by
  refine xr_steps (pc' := 2) (L' := [(0, .ref 165), (1, .int (Int32.ofInt (i : Int))), (2, .int (Int32.ofInt (k : Int)))]) (st' := [.int (Int32.ofInt 1), .int (Int32.ofInt (k : Int))]) 2 rfl ?_
  refine xr_isub rfl ?_
  refine xr_steps (pc' := 4) (L' := [(3, .int (Int32.ofInt ((k : Int) - 1))), (0, .ref 165), (1, .int (Int32.ofInt (i : Int))), (2, .int (Int32.ofInt (k : Int)))]) (st' := []) 1 rfl ?_
  refine xr_loc (L := [(3, .int (Int32.ofInt ((k : Int) - 1))), (0, .ref 165), (1, .int (Int32.ofInt (i : Int))), (2, .int (Int32.ofInt (k : Int)))]) (show [3, 0, 1, 2].Nodup by decide) ⟨rfl, rfl, rfl, rfl, trivial⟩ ?_
  exact mo_255l (s0 := s0) (t0 := t0) hA hi hns hhd k s t ev hk hl hev (fun s t h => ⟨_, rfl, rfl, s, t, rfl, h⟩)
theorem mo_238l (hA : 194 ≤ A.1) (hi : i < 4) (hns : ns.length ≤ 3 ∧ (∀ j : Nat, j < ns.length → t0 172 (3 * i + j) = ns.getD j 0) ∧ ∀ c ∈ ns, 0 ≤ c ∧ c ≤ 5) (hhd : ∀ j : Nat, j < 6 → t0 173 j = hd j ∧ 0 ≤ hd j ∧ hd j ≤ 3) (hcnt : t0 171 i = (ns.length : Int)) : ∀ (k n : Nat) (s : Nat → Int) (t : Nat → Nat → Int) (ev : List Int), n + k = ns.length → ev.length + k ≤ 3080 → xEV s0 t0 s t ev → (∀ (s : Nat → Int) (t : Nat → Nat → Int) (fl : Int) (n' : Nat), n' = n + xsc hd (ns.drop n) → ((fl = 1 ∧ ¬ n' = ns.length) ∨ (fl = 0 ∧ n' = ns.length)) → xEV s0 t0 s t (ev ++ xsu hd (ns.drop n)) → xr_ok (xt_G w) (d + 1) 238 87 [(2, .int (Int32.ofInt (n' : Int))), (3, .int (Int32.ofInt fl)), (0, .ref 165), (1, .int (Int32.ofInt (i : Int)))] [] (ym A s t) Q) → xr_ok (xt_G w) (d + 1) 238 4 [(2, .int (Int32.ofInt (n : Int))), (3, .int (Int32.ofInt 0)), (0, .ref 165), (1, .int (Int32.ofInt (i : Int)))] [] (ym A s t) Q := by
  intro k
  induction k using Nat.strongRecOn with
  | _ k ih =>
    intro n s t ev hk hl hev hQ
    refine xr_steps (pc' := 6) (L' := [(2, .int (Int32.ofInt (n : Int))), (3, .int (Int32.ofInt 0)), (0, .ref 165), (1, .int (Int32.ofInt (i : Int)))]) (st' := [.ref 165, .int (Int32.ofInt (n : Int))]) 2 rfl ?_
    refine xr_getf (v := .ref 171) rfl (ym_165 hA) rfl ?_
    refine xr_steps (pc' := 10) (L' := [(2, .int (Int32.ofInt (n : Int))), (3, .int (Int32.ofInt 0)), (0, .ref 165), (1, .int (Int32.ofInt (i : Int)))]) (st' := [.int (Int32.ofInt (i : Int)), .ref 171, .int (Int32.ofInt (n : Int))]) 1 rfl ?_
    refine ym_iaload (e := t 171 (i : Int).toNat) hA rfl rfl (by decide) (by omega) (by omega) rfl ?_
    rw [show (i : Int).toNat = i by omega]
    rw [hev.2.2 171 (by omega), hcnt]
    refine xr_icmp_ge rfl (by omega) (by omega) (fun z31 => ?_) (fun z31 => ?_)
    · refine xr_loc (L := [(2, .int (Int32.ofInt (n : Int))), (3, .int (Int32.ofInt 0)), (0, .ref 165), (1, .int (Int32.ofInt (i : Int)))]) (show [2, 3, 0, 1].Nodup by decide) ⟨rfl, rfl, rfl, rfl, trivial⟩ ?_
      obtain rfl : n = ns.length := by omega
      have e0 : ns.drop ns.length = [] := List.drop_eq_nil_of_le (Nat.le_refl _)
      have hq := hQ s t 0 ns.length
      rw [e0, show xsc hd [] = 0 from rfl, show xsu hd [] = [] from rfl, List.append_nil] at hq
      exact hq rfl (Or.inr ⟨rfl, rfl⟩) hev
    · refine xr_steps (pc' := 15) (L' := [(2, .int (Int32.ofInt (n : Int))), (3, .int (Int32.ofInt 0)), (0, .ref 165), (1, .int (Int32.ofInt (i : Int)))]) (st' := [.int (Int32.ofInt 0)]) 1 rfl ?_
      refine xr_if_ne rfl (by omega) (fun z32 => ?_) (fun z32 => ?_)
      · exfalso; omega
      · have hcr := xns_rng hns.2.2 (show n < ns.length by omega)
        have hrd := hns.2.1 n (by omega)
        obtain ⟨c, hc⟩ : ∃ c, ns.getD n 0 = c := ⟨_, rfl⟩
        rw [hc] at hrd hcr
        have hcd := hhd c.toNat (by omega)
        have hsd := xsu_drop hd (show n < ns.length by omega)
        rw [hc] at hsd
        refine xr_steps (pc' := 19) (L' := [(2, .int (Int32.ofInt (n : Int))), (3, .int (Int32.ofInt 0)), (0, .ref 165), (1, .int (Int32.ofInt (i : Int)))]) (st' := [.ref 165]) 1 rfl ?_
        refine xr_getf (v := .ref 172) rfl (ym_165 hA) rfl ?_
        refine xr_steps (pc' := 24) (L' := [(2, .int (Int32.ofInt (n : Int))), (3, .int (Int32.ofInt 0)), (0, .ref 165), (1, .int (Int32.ofInt (i : Int)))]) (st' := [.int (Int32.ofInt (i : Int)), .int (Int32.ofInt 3), .ref 172]) 2 rfl ?_
        refine xr_imul rfl ?_
        refine xr_steps (pc' := 26) (L' := [(2, .int (Int32.ofInt (n : Int))), (3, .int (Int32.ofInt 0)), (0, .ref 165), (1, .int (Int32.ofInt (i : Int)))]) (st' := [.int (Int32.ofInt (n : Int)), .int (Int32.ofInt (3 * (i : Int))), .ref 172]) 1 rfl ?_
        refine xr_iadd rfl ?_
        refine ym_iaload (e := t 172 ((3 * (i : Int)) + (n : Int)).toNat) hA rfl rfl (by decide) (by omega) (by omega) rfl ?_
        rw [show ((3 * (i : Int)) + (n : Int)).toNat = (3 * i) + n by omega]
        rw [hev.2.2 172 (by omega), hrd]
        refine xr_steps (pc' := 31) (L' := [(4, .int (Int32.ofInt c)), (2, .int (Int32.ofInt (n : Int))), (3, .int (Int32.ofInt 0)), (0, .ref 165), (1, .int (Int32.ofInt (i : Int)))]) (st' := [.ref 165]) 2 rfl ?_
        refine xr_getf (v := .ref 173) rfl (ym_165 hA) rfl ?_
        refine xr_steps (pc' := 36) (L' := [(4, .int (Int32.ofInt c)), (2, .int (Int32.ofInt (n : Int))), (3, .int (Int32.ofInt 0)), (0, .ref 165), (1, .int (Int32.ofInt (i : Int)))]) (st' := [.int (Int32.ofInt c), .ref 173]) 1 rfl ?_
        refine ym_iaload (e := t 173 c.toNat) hA rfl rfl (by decide) (by omega) (by omega) rfl ?_
        rw [hev.2.2 173 (by omega), hcd.1]
        refine xr_if_eq rfl (by omega) (fun z33 => ?_) (fun z33 => ?_)
        · refine xr_steps (pc' := 61) (L' := [(3, .int (Int32.ofInt 1)), (4, .int (Int32.ofInt c)), (2, .int (Int32.ofInt (n : Int))), (0, .ref 165), (1, .int (Int32.ofInt (i : Int)))]) (st' := [.int (Int32.ofInt 1), .int (Int32.ofInt c), .ref 165]) 6 rfl ?_
          refine xr_if_eq rfl (by omega) (fun z34 => ?_) (fun z34 => ?_)
          · exfalso; omega
          · refine xr_steps (pc' := 69) (L' := [(3, .int (Int32.ofInt 1)), (4, .int (Int32.ofInt c)), (2, .int (Int32.ofInt (n : Int))), (0, .ref 165), (1, .int (Int32.ofInt (i : Int)))]) (st' := [.int (Int32.ofInt 2), .int (Int32.ofInt c), .ref 165]) 2 rfl ?_
            refine xr_call (q := (.invokevirtual 250, 3, 239, 3)) (av := [.ref 165, .int (Int32.ofInt c), .int (Int32.ofInt 2)]) (rest := []) rfl rfl (by decide) rfl (ym_rcv hA rfl) (Nat.le_of_ble_eq_true rfl) (mo_239 (E := ev.length) hA hev.1.1 (by omega)) ?_
            rintro _ _ ⟨rfl, eA⟩
            rw [eA]
            clear eA
            refine xr_steps (pc' := 73) (L' := [(3, .int (Int32.ofInt 1)), (4, .int (Int32.ofInt c)), (2, .int (Int32.ofInt (n : Int))), (0, .ref 165), (1, .int (Int32.ofInt (i : Int)))]) (st' := [.int (Int32.ofInt 1)]) 1 rfl ?_
            refine xr_if_eq rfl (by omega) (fun z35 => ?_) (fun z35 => ?_)
            · exfalso; omega
            · refine xr_steps (pc' := 4) (L' := [(2, .int (Int32.ofInt (n : Int))), (3, .int (Int32.ofInt 1)), (4, .int (Int32.ofInt c)), (0, .ref 165), (1, .int (Int32.ofInt (i : Int)))]) (st' := []) 4 rfl ?_
              refine xr_steps (pc' := 6) (L' := [(2, .int (Int32.ofInt (n : Int))), (3, .int (Int32.ofInt 1)), (4, .int (Int32.ofInt c)), (0, .ref 165), (1, .int (Int32.ofInt (i : Int)))]) (st' := [.ref 165, .int (Int32.ofInt (n : Int))]) 2 rfl ?_
              refine xr_getf (v := .ref 171) rfl (ym_165 hA) rfl ?_
              refine xr_steps (pc' := 10) (L' := [(2, .int (Int32.ofInt (n : Int))), (3, .int (Int32.ofInt 1)), (4, .int (Int32.ofInt c)), (0, .ref 165), (1, .int (Int32.ofInt (i : Int)))]) (st' := [.int (Int32.ofInt (i : Int)), .ref 171, .int (Int32.ofInt (n : Int))]) 1 rfl ?_
              refine ym_iaload (e := t 171 (i : Int).toNat) hA rfl rfl (by decide) (by omega) (by omega) rfl ?_
              rw [show (i : Int).toNat = i by omega]
              rw [hev.2.2 171 (by omega), hcnt]
              refine xr_icmp_ge rfl (by omega) (by omega) (fun z36 => ?_) (fun z36 => ?_)
              · refine xr_loc (L := [(2, .int (Int32.ofInt (n : Int))), (3, .int (Int32.ofInt 1)), (0, .ref 165), (1, .int (Int32.ofInt (i : Int)))]) (show [2, 3, 0, 1].Nodup by decide) ⟨rfl, rfl, rfl, rfl, trivial⟩ ?_
                have hta := xEV_add hev (10 * c + 2)
                obtain ⟨f1, f2⟩ := hsd.2 (by omega)
                refine hQ _ _ 1 n (by omega) (Or.inl ⟨rfl, by omega⟩) ?_
                rw [f1]
                exact hta
              · refine xr_steps (pc' := 15) (L' := [(2, .int (Int32.ofInt (n : Int))), (3, .int (Int32.ofInt 1)), (4, .int (Int32.ofInt c)), (0, .ref 165), (1, .int (Int32.ofInt (i : Int)))]) (st' := [.int (Int32.ofInt 1)]) 1 rfl ?_
                refine xr_if_ne rfl (by omega) (fun z37 => ?_) (fun z37 => ?_)
                · refine xr_loc (L := [(2, .int (Int32.ofInt (n : Int))), (3, .int (Int32.ofInt 1)), (0, .ref 165), (1, .int (Int32.ofInt (i : Int)))]) (show [2, 3, 0, 1].Nodup by decide) ⟨rfl, rfl, rfl, rfl, trivial⟩ ?_
                  have hta := xEV_add hev (10 * c + 2)
                  obtain ⟨f1, f2⟩ := hsd.2 (by omega)
                  refine hQ _ _ 1 n (by omega) (Or.inl ⟨rfl, by omega⟩) ?_
                  rw [f1]
                  exact hta
                · exfalso; omega
        · refine xr_steps (pc' := 41) (L' := [(4, .int (Int32.ofInt c)), (2, .int (Int32.ofInt (n : Int))), (3, .int (Int32.ofInt 0)), (0, .ref 165), (1, .int (Int32.ofInt (i : Int)))]) (st' := [.ref 165]) 1 rfl ?_
          refine xr_getf (v := .ref 173) rfl (ym_165 hA) rfl ?_
          refine xr_steps (pc' := 46) (L' := [(4, .int (Int32.ofInt c)), (2, .int (Int32.ofInt (n : Int))), (3, .int (Int32.ofInt 0)), (0, .ref 165), (1, .int (Int32.ofInt (i : Int)))]) (st' := [.int (Int32.ofInt c), .ref 173]) 1 rfl ?_
          refine ym_iaload (e := t 173 c.toNat) hA rfl rfl (by decide) (by omega) (by omega) rfl ?_
          rw [hev.2.2 173 (by omega), hcd.1]
          refine xr_steps (pc' := 48) (L' := [(4, .int (Int32.ofInt c)), (2, .int (Int32.ofInt (n : Int))), (3, .int (Int32.ofInt 0)), (0, .ref 165), (1, .int (Int32.ofInt (i : Int)))]) (st' := [.int (Int32.ofInt 2), .int (Int32.ofInt (hd c.toNat))]) 1 rfl ?_
          refine xr_icmp_ne rfl (by omega) (by omega) (fun z38 => ?_) (fun z38 => ?_)
          · refine xr_steps (pc' := 61) (L' := [(3, .int (Int32.ofInt 0)), (4, .int (Int32.ofInt c)), (2, .int (Int32.ofInt (n : Int))), (0, .ref 165), (1, .int (Int32.ofInt (i : Int)))]) (st' := [.int (Int32.ofInt 0), .int (Int32.ofInt c), .ref 165]) 5 rfl ?_
            refine xr_if_eq rfl (by omega) (fun z39 => ?_) (fun z39 => ?_)
            · refine xr_steps (pc' := 69) (L' := [(3, .int (Int32.ofInt 0)), (4, .int (Int32.ofInt c)), (2, .int (Int32.ofInt (n : Int))), (0, .ref 165), (1, .int (Int32.ofInt (i : Int)))]) (st' := [.int (Int32.ofInt 0), .int (Int32.ofInt c), .ref 165]) 1 rfl ?_
              refine xr_call (q := (.invokevirtual 250, 3, 239, 3)) (av := [.ref 165, .int (Int32.ofInt c), .int (Int32.ofInt 0)]) (rest := []) rfl rfl (by decide) rfl (ym_rcv hA rfl) (Nat.le_of_ble_eq_true rfl) (mo_239 (E := ev.length) hA hev.1.1 (by omega)) ?_
              rintro _ _ ⟨rfl, eA⟩
              rw [eA]
              clear eA
              refine xr_steps (pc' := 73) (L' := [(3, .int (Int32.ofInt 0)), (4, .int (Int32.ofInt c)), (2, .int (Int32.ofInt (n : Int))), (0, .ref 165), (1, .int (Int32.ofInt (i : Int)))]) (st' := [.int (Int32.ofInt 0)]) 1 rfl ?_
              refine xr_if_eq rfl (by omega) (fun z40 => ?_) (fun z40 => ?_)
              · refine xr_steps (pc' := 82) (L' := [(3, .int (Int32.ofInt 0)), (4, .int (Int32.ofInt c)), (2, .int (Int32.ofInt (n : Int))), (0, .ref 165), (1, .int (Int32.ofInt (i : Int)))]) (st' := [.int (Int32.ofInt 1), .int (Int32.ofInt (n : Int))]) 2 rfl ?_
                refine xr_iadd rfl ?_
                refine xr_steps (pc' := 4) (L' := [(2, .int (Int32.ofInt ((n : Int) + 1))), (3, .int (Int32.ofInt 0)), (4, .int (Int32.ofInt c)), (0, .ref 165), (1, .int (Int32.ofInt (i : Int)))]) (st' := []) 2 rfl ?_
                refine xr_loc (L := [(2, .int (Int32.ofInt ((n : Int) + 1))), (3, .int (Int32.ofInt 0)), (0, .ref 165), (1, .int (Int32.ofInt (i : Int)))]) (show [2, 3, 0, 1].Nodup by decide) ⟨rfl, rfl, rfl, rfl, trivial⟩ ?_
                have hta := xEV_add hev (10 * c)
                obtain ⟨f1, f2⟩ := hsd.1 (by omega)
                rw [Int.add_zero, show (n : Int) + 1 = ((n + 1 : Nat) : Int) by omega]
                refine ih (k - 1) (by omega) (n + 1) _ _ (ev ++ [10 * c]) (by omega) (by rw [List.length_append, List.length_singleton]; omega) hta (fun s' t' fl n' g1 g2 g3 => hQ s' t' fl n' (by omega) g2 ?_)
                rw [f1]
                rw [List.append_assoc] at g3
                exact g3
              · exfalso; omega
            · exfalso; omega
          · refine xr_steps (pc' := 61) (L' := [(3, .int (Int32.ofInt 1)), (4, .int (Int32.ofInt c)), (2, .int (Int32.ofInt (n : Int))), (0, .ref 165), (1, .int (Int32.ofInt (i : Int)))]) (st' := [.int (Int32.ofInt 1), .int (Int32.ofInt c), .ref 165]) 6 rfl ?_
            refine xr_if_eq rfl (by omega) (fun z41 => ?_) (fun z41 => ?_)
            · exfalso; omega
            · refine xr_steps (pc' := 69) (L' := [(3, .int (Int32.ofInt 1)), (4, .int (Int32.ofInt c)), (2, .int (Int32.ofInt (n : Int))), (0, .ref 165), (1, .int (Int32.ofInt (i : Int)))]) (st' := [.int (Int32.ofInt 2), .int (Int32.ofInt c), .ref 165]) 2 rfl ?_
              refine xr_call (q := (.invokevirtual 250, 3, 239, 3)) (av := [.ref 165, .int (Int32.ofInt c), .int (Int32.ofInt 2)]) (rest := []) rfl rfl (by decide) rfl (ym_rcv hA rfl) (Nat.le_of_ble_eq_true rfl) (mo_239 (E := ev.length) hA hev.1.1 (by omega)) ?_
              rintro _ _ ⟨rfl, eA⟩
              rw [eA]
              clear eA
              refine xr_steps (pc' := 73) (L' := [(3, .int (Int32.ofInt 1)), (4, .int (Int32.ofInt c)), (2, .int (Int32.ofInt (n : Int))), (0, .ref 165), (1, .int (Int32.ofInt (i : Int)))]) (st' := [.int (Int32.ofInt 1)]) 1 rfl ?_
              refine xr_if_eq rfl (by omega) (fun z42 => ?_) (fun z42 => ?_)
              · exfalso; omega
              · refine xr_steps (pc' := 4) (L' := [(2, .int (Int32.ofInt (n : Int))), (3, .int (Int32.ofInt 1)), (4, .int (Int32.ofInt c)), (0, .ref 165), (1, .int (Int32.ofInt (i : Int)))]) (st' := []) 4 rfl ?_
                refine xr_steps (pc' := 6) (L' := [(2, .int (Int32.ofInt (n : Int))), (3, .int (Int32.ofInt 1)), (4, .int (Int32.ofInt c)), (0, .ref 165), (1, .int (Int32.ofInt (i : Int)))]) (st' := [.ref 165, .int (Int32.ofInt (n : Int))]) 2 rfl ?_
                refine xr_getf (v := .ref 171) rfl (ym_165 hA) rfl ?_
                refine xr_steps (pc' := 10) (L' := [(2, .int (Int32.ofInt (n : Int))), (3, .int (Int32.ofInt 1)), (4, .int (Int32.ofInt c)), (0, .ref 165), (1, .int (Int32.ofInt (i : Int)))]) (st' := [.int (Int32.ofInt (i : Int)), .ref 171, .int (Int32.ofInt (n : Int))]) 1 rfl ?_
                refine ym_iaload (e := t 171 (i : Int).toNat) hA rfl rfl (by decide) (by omega) (by omega) rfl ?_
                rw [show (i : Int).toNat = i by omega]
                rw [hev.2.2 171 (by omega), hcnt]
                refine xr_icmp_ge rfl (by omega) (by omega) (fun z43 => ?_) (fun z43 => ?_)
                · refine xr_loc (L := [(2, .int (Int32.ofInt (n : Int))), (3, .int (Int32.ofInt 1)), (0, .ref 165), (1, .int (Int32.ofInt (i : Int)))]) (show [2, 3, 0, 1].Nodup by decide) ⟨rfl, rfl, rfl, rfl, trivial⟩ ?_
                  have hta := xEV_add hev (10 * c + 2)
                  obtain ⟨f1, f2⟩ := hsd.2 (by omega)
                  refine hQ _ _ 1 n (by omega) (Or.inl ⟨rfl, by omega⟩) ?_
                  rw [f1]
                  exact hta
                · refine xr_steps (pc' := 15) (L' := [(2, .int (Int32.ofInt (n : Int))), (3, .int (Int32.ofInt 1)), (4, .int (Int32.ofInt c)), (0, .ref 165), (1, .int (Int32.ofInt (i : Int)))]) (st' := [.int (Int32.ofInt 1)]) 1 rfl ?_
                  refine xr_if_ne rfl (by omega) (fun z44 => ?_) (fun z44 => ?_)
                  · refine xr_loc (L := [(2, .int (Int32.ofInt (n : Int))), (3, .int (Int32.ofInt 1)), (0, .ref 165), (1, .int (Int32.ofInt (i : Int)))]) (show [2, 3, 0, 1].Nodup by decide) ⟨rfl, rfl, rfl, rfl, trivial⟩ ?_
                    have hta := xEV_add hev (10 * c + 2)
                    obtain ⟨f1, f2⟩ := hsd.2 (by omega)
                    refine hQ _ _ 1 n (by omega) (Or.inl ⟨rfl, by omega⟩) ?_
                    rw [f1]
                    exact hta
                  · exfalso; omega
end TE
/-! The reference: verified, verify -/
section VR
variable {w : Value} {d : Nat} {A : xb_H} {t : Nat → Nat → Int} {s : Nat → Int} {hd : Nat → Int} {ev : List Int} {i za : Nat} {I : xI} {tt uu : xv 6} {sl : List Int → Bool} {H : (n : Nat) → xv (n + 1) → xv (n + 1) → List Int → Nat} {Q : xb_R → xb_H → Prop}
theorem xsu_len (hd : Nat → Int) : ∀ l : List Int, (xsu hd l).length ≤ l.length := by
  intro l
  induction l with
  | nil => exact Nat.le_refl _
  | cons c l ih =>
    show (if hd c.toNat = 1 ∨ hd c.toNat = 3 then 10 * c :: xsu hd l else [10 * c + 2]).length ≤ l.length + 1
    split
    · rw [List.length_cons]; omega
    · rw [List.length_singleton]; omega
theorem xtd_len (hd : Nat → Int) : ∀ l : List Int, (xtd hd l).length = l.length := by
  intro l
  induction l with
  | nil => rfl
  | cons c l ih => show (xtd hd l ++ [_]).length = _; rw [List.length_append, List.length_singleton, ih, List.length_cons]
theorem mo_238 (hA : 194 ≤ A.1) (hE : ∀ j : Nat, 0 ≤ t 166 j ∧ t 166 j ≤ 127) (hi : i < 4) (hIR : xIR t i I) (hbr : xBR t i tt) (hu : xV (t 166) 6 400 uu za) (hza : za ≤ 500) (hhd : ∀ j : Nat, j < 6 → t 173 j = hd j ∧ 0 ≤ hd j ∧ hd j ≤ 3) (hev : xES s t ev) (hl : ev.length + 6 ≤ 3072) (h176 : ∀ j : Nat, j < 30 → 0 ≤ t 176 j ∧ t 176 j ≤ 24) (hSL : xSL I.2.1 sl) (hHO : xHO I.2.1 H) : xr_ok (xt_G w) (d + 1 + 1 + 1 + 1 + 1 + 1 + 1 + 1 + 1 + 1) 238 0 [(0, .ref 165), (1, .int (Int32.ofInt (i : Int)))] [] (ym A s t) (fun o A' => ∃ v0, o = .inl v0 ∧ ∃ (v : Int) (s' : Nat → Int) (t' : Nat → Nat → Int), (v0 = some (.int (Int32.ofInt v)) ∧ A' = ym A s' t') ∧ ((xsc hd I.2.2.1 = I.2.2.1.length ∧ v = ((xcm sl H I.1 6 tt uu []).length : Int) ∧ xLS s' t' (xcm sl H I.1 6 tt uu [])) ∨ (¬ xsc hd I.2.2.1 = I.2.2.1.length ∧ v = -3 ∧ s' 13 = s 13 ∧ ∀ x : Nat, 175 ≤ x → x ≤ 177 → t' x = t x)) ∧ xES s' t' (ev ++ xsu hd I.2.2.1 ++ xtd hd (I.2.2.1.take (xsc hd I.2.2.1))) ∧ (∀ x : Nat, 166 ≤ x → x ≤ 173 → t' x = t x) ∧ ∀ x : Nat, ¬ x = 11 → ¬ x = 13 → ¬ x = 19 → ¬ x = 22 → ¬ x = 27 → s' x = s x) := by
  have hn3 := hIR.2.2.1.2.1
  refine xr_steps (pc' := 4) (L' := [(3, .int (Int32.ofInt 0)), (2, .int (Int32.ofInt 0)), (0, .ref 165), (1, .int (Int32.ofInt (i : Int)))]) (st' := []) 4 rfl ?_
  refine xr_loc (L := [(2, .int (Int32.ofInt 0)), (3, .int (Int32.ofInt 0)), (0, .ref 165), (1, .int (Int32.ofInt (i : Int)))]) (show [2, 3, 0, 1].Nodup by decide) ⟨rfl, rfl, rfl, rfl, trivial⟩ ?_
  refine mo_238l (s0 := s) (t0 := t) (ns := I.2.2.1) (hd := hd) hA hi ⟨hIR.2.2.1.2.1, hIR.2.2.1.2.2, hIR.2.2.2.2.2.2⟩ hhd hIR.2.2.1.1 I.2.2.1.length 0 s t ev (by omega) (by omega) ⟨hev, fun _ _ => rfl, fun _ _ => rfl⟩ (fun s1 t1 fl n' g1 g2 g3 => ?_)
  rw [List.drop_zero, Nat.zero_add] at g1
  rw [List.drop_zero] at g3
  have hsu := xsu_len hd I.2.2.1
  have hsc := xsc_le hd I.2.2.1
  refine xr_steps (pc' := 88) (L' := [(2, .int (Int32.ofInt (n' : Int))), (3, .int (Int32.ofInt fl)), (0, .ref 165), (1, .int (Int32.ofInt (i : Int)))]) (st' := [.int (Int32.ofInt fl)]) 1 rfl ?_
  refine xr_if_eq rfl (by omega) (fun z31 => ?_) (fun z31 => ?_)
  · refine xr_steps (pc' := 98) (L' := [(2, .int (Int32.ofInt (n' : Int))), (3, .int (Int32.ofInt fl)), (0, .ref 165), (1, .int (Int32.ofInt (i : Int)))]) (st' := [.int (Int32.ofInt (i : Int)), .ref 165]) 2 rfl ?_
    have e166 := g3.2.2 166 (by omega)
    obtain ⟨zt, hz1, hz2⟩ := xBR_V hbr
    have hdk : xdk 6 tt := by obtain ⟨n0, -, -, -, h4⟩ := hbr; exact xpv_dk _ _ _ _ h4
    refine xr_call (q := (.invokevirtual 259, 3, 240, 2)) (av := [.ref 165, .int (Int32.ofInt (i : Int))]) (rest := []) rfl rfl (by decide) rfl (ym_rcv hA rfl) (Nat.le_of_ble_eq_true rfl) (mo_240 (rs := I.2.1) (tt := tt) (uu := uu) (sl := sl) (H := H) (st := I.1) (ze := zt) (za := za) hA (by rw [e166]; exact hE) hi ⟨by rw [g3.2.2 167 (by omega)]; exact hIR.1, hIR.2.2.2.2.2.1⟩ ⟨by rw [g3.2.2 169 (by omega)]; exact hIR.2.1.1, hIR.2.1.2.1, fun j r hr => xRL_eq (hIR.2.1.2.2 j r hr) e166 (g3.2.2 170 (by omega))⟩ hSL hHO (by rw [e166]; exact hz1) (by rw [e166]; exact hu) hz2 hza hdk (by rw [g3.2.2 176 (by omega)]; exact h176)) ?_
    rintro _ _ ⟨s2, t2, ⟨rfl, eA⟩, k1, k2, k3⟩
    rw [eA]
    clear eA
    refine xr_steps (pc' := 106) (L' := [(4, .int (Int32.ofInt ((xcm sl H I.1 6 tt uu []).length : Int))), (2, .int (Int32.ofInt (n' : Int))), (3, .int (Int32.ofInt fl)), (0, .ref 165), (1, .int (Int32.ofInt (i : Int)))]) (st' := [.int (Int32.ofInt (n' : Int)), .int (Int32.ofInt (i : Int)), .ref 165]) 4 rfl ?_
    refine xr_call (q := (.invokevirtual 262, 3, 255, 3)) (av := [.ref 165, .int (Int32.ofInt (i : Int)), .int (Int32.ofInt (n' : Int))]) (rest := []) rfl rfl (by decide) rfl (ym_rcv hA rfl) (Nat.le_of_ble_eq_true rfl) (mo_255 (s0 := s2) (t0 := t2) (k := n') (ns := I.2.2.1) (hd := hd) (ev := ev ++ xsu hd I.2.2.1) hA hi ⟨hIR.2.2.1.2.1, by rw [k2 172 (by omega) (by omega), g3.2.2 172 (by omega)]; exact hIR.2.2.1.2.2, hIR.2.2.2.2.2.2⟩ (by rw [k2 173 (by omega) (by omega), g3.2.2 173 (by omega)]; exact hhd) (by omega) (by rw [List.length_append]; omega) ⟨⟨by rw [k3 11 (by omega) (by omega) (by omega) (by omega)]; exact g3.1.1, by rw [k2 174 (by omega) (by omega)]; exact g3.1.2⟩, fun _ _ => rfl, fun _ _ => rfl⟩) ?_
    rintro _ _ ⟨rfl, s3, t3, eA, m1, m2, m3⟩
    rw [eA]
    clear eA
    refine xr_steps (pc' := 111) (L' := [(4, .int (Int32.ofInt ((xcm sl H I.1 6 tt uu []).length : Int))), (2, .int (Int32.ofInt (n' : Int))), (3, .int (Int32.ofInt fl)), (0, .ref 165), (1, .int (Int32.ofInt (i : Int)))]) (st' := [.int (Int32.ofInt ((xcm sl H I.1 6 tt uu []).length : Int))]) 1 rfl ?_
    rw [g1] at m1
    refine xr_retI2 rfl rfl ⟨_, rfl, _, s3, t3, ⟨rfl, rfl⟩, Or.inl ⟨by omega, rfl, ?_⟩, m1, fun x h1 h2 => ?_, fun x e1 e2 e3 e4 e5 => ?_⟩
    · refine ⟨⟨by rw [m2 13 (by omega)]; exact k1.1.1, fun k e hk he => ?_⟩, by rw [m3 176 (by omega)]; exact k1.2⟩
      unfold xRW
      rw [m3 175 (by omega), m3 176 (by omega), m3 177 (by omega)]
      exact k1.1.2 k e hk he
    · rw [m3 x (by omega), k2 x (by omega) (by omega), g3.2.2 x (by omega)]
    · rw [m2 x e1, k3 x e2 e3 e4 e5, g3.2.1 x e1]
  · refine xr_steps (pc' := 106) (L' := [(4, .int (Int32.ofInt (-3))), (2, .int (Int32.ofInt (n' : Int))), (3, .int (Int32.ofInt fl)), (0, .ref 165), (1, .int (Int32.ofInt (i : Int)))]) (st' := [.int (Int32.ofInt (n' : Int)), .int (Int32.ofInt (i : Int)), .ref 165]) 6 rfl ?_
    refine xr_call (q := (.invokevirtual 262, 3, 255, 3)) (av := [.ref 165, .int (Int32.ofInt (i : Int)), .int (Int32.ofInt (n' : Int))]) (rest := []) rfl rfl (by decide) rfl (ym_rcv hA rfl) (Nat.le_of_ble_eq_true rfl) (mo_255 (s0 := s1) (t0 := t1) (k := n') (ns := I.2.2.1) (hd := hd) (ev := ev ++ xsu hd I.2.2.1) hA hi ⟨hIR.2.2.1.2.1, by rw [g3.2.2 172 (by omega)]; exact hIR.2.2.1.2.2, hIR.2.2.2.2.2.2⟩ (by rw [g3.2.2 173 (by omega)]; exact hhd) (by omega) (by rw [List.length_append]; omega) ⟨g3.1, fun _ _ => rfl, fun _ _ => rfl⟩) ?_
    rintro _ _ ⟨rfl, s3, t3, eA, m1, m2, m3⟩
    rw [eA]
    clear eA
    refine xr_steps (pc' := 111) (L' := [(4, .int (Int32.ofInt (-3))), (2, .int (Int32.ofInt (n' : Int))), (3, .int (Int32.ofInt fl)), (0, .ref 165), (1, .int (Int32.ofInt (i : Int)))]) (st' := [.int (Int32.ofInt (-3))]) 1 rfl ?_
    rw [g1] at m1
    refine xr_retI2 rfl rfl ⟨_, rfl, _, s3, t3, ⟨rfl, rfl⟩, Or.inr ⟨by omega, rfl, by rw [m2 13 (by omega), g3.2.1 13 (by omega)], fun x h1 h2 => by rw [m3 x (by omega), g3.2.2 x (by omega)]⟩, m1, fun x h1 h2 => ?_, fun x e1 e2 e3 e4 e5 => ?_⟩
    · rw [m3 x (by omega), g3.2.2 x (by omega)]
    · rw [m2 x e1, g3.2.1 x e1]
end VR
/-- what verify answers: c what is thrown, r the answer -/
def xVO (sl : List Int → Bool) (H : (n : Nat) → xv (n + 1) → xv (n + 1) → List Int → Nat) (T : List Int) (ins : List xI) (hd : Nat → Int) (ev : List Int) (ms : List (Int × List Int)) (k : Int) (c r : Int) (ev' : List Int) (ms' : List (Int × List Int)) : Prop := (¬ (0 ≤ k ∧ k < (ins.length : Int) ∧ ∃ t : xv 6, xpv (xe T) 6 0 = some (t, T.length)) ∧ c = 1 ∧ ev' = ev ∧ ms' = ms) ∨ ∃ (i : Nat) (I : xI) (u : xv 6), k = (i : Int) ∧ ins[i]? = some I ∧ xpv (xe T) 6 0 = some (u, T.length) ∧ ((I.2.2.2 = none ∧ c = 2 ∧ ev' = ev ∧ ms' = ms) ∨ ∃ t : xv 6, I.2.2.2 = some t ∧ ev' = ev ++ xsu hd I.2.2.1 ++ xtd hd (I.2.2.1.take (xsc hd I.2.2.1)) ∧ ((xsc hd I.2.2.1 = I.2.2.1.length ∧ ms' = xcm sl H I.1 6 t u [] ∧ c = 0 ∧ r = ((xcm sl H I.1 6 t u []).length : Int)) ∨ (¬ xsc hd I.2.2.1 = I.2.2.1.length ∧ ms' = ms ∧ c = 0 ∧ r = -3)))
section VE
variable {s s' : Nat → Int} {t t' T2 : Nat → Nat → Int} {T : List Int} {ins : List xI} {hd : Nat → Int} {ev ev' : List Int} {ms ms' : List (Int × List Int)}
theorem xIR_eq {i : Nat} {I : xI} (h : xIR t i I) (ht : ∀ x : Nat, 166 ≤ x → x ≤ 173 → t' x = t x) : xIR t' i I := by
  unfold xIR xRL xBR at h ⊢
  rw [ht 166 (by omega) (by omega), ht 167 (by omega) (by omega), ht 168 (by omega) (by omega), ht 169 (by omega) (by omega), ht 170 (by omega) (by omega), ht 171 (by omega) (by omega), ht 172 (by omega) (by omega)]
  exact h
theorem xJR_LS (h : xJR s t T ins hd ev ms) : xLS s t ms := ⟨h.2.2.2.2.2.2.1, h.2.2.2.2.2.2.2.2⟩
theorem xLS_eq (h : xLS s t ms) (hs : s' 13 = s 13) (ht : ∀ x : Nat, 175 ≤ x → x ≤ 177 → t' x = t x) : xLS s' t' ms := by
  unfold xLS xRW at h ⊢
  rw [hs, ht 175 (by omega) (by omega), ht 176 (by omega) (by omega), ht 177 (by omega) (by omega)]
  exact h
theorem xJR_ev (h : xJR s t [] ins hd ev ms) (hs : s' 2 = 0 ∧ s' 3 = s 3) (ht : ∀ x : Nat, 166 ≤ x → x ≤ 173 → t' x = t x) (he : xES s' t' ev') (hl : ev'.length ≤ 3072) (hL : xLS s' t' ms') : xJR s' t' [] ins hd ev' ms' := by
  obtain ⟨⟨a1, a2, a3, a4⟩, ⟨b1, b2⟩, c1, c2, c3, c4, c5, c6, c7⟩ := h
  refine ⟨⟨hs.1, a2, by rw [ht 166 (by omega) (by omega)]; exact a3, fun j hj => absurd hj (Nat.not_lt_zero _)⟩, ⟨by rw [hs.2]; exact b1, b2⟩, fun i I hI => xIR_eq (c1 i I hI) ht, ?_, ?_, ⟨he.1, hl, he.2⟩, hL.1, ?_, hL.2⟩
  · rw [ht 168 (by omega) (by omega), ht 169 (by omega) (by omega), ht 171 (by omega) (by omega)]; exact c2
  · rw [ht 173 (by omega) (by omega)]; exact c3
  · rw [ht 172 (by omega) (by omega)]; exact c6
end VE
theorem mo_237 {w : Value} {d : Nat} {A : xb_H} {s : Nat → Int} {t : Nat → Nat → Int} {T : List Int} {ins : List xI} {hd : Nat → Int} {ev : List Int} {ms : List (Int × List Int)} {k : Int} {sl : List Int → Bool} {H : (n : Nat) → xv (n + 1) → xv (n + 1) → List Int → Nat} (hA : 194 ≤ A.1) (h : xJR s t T ins hd ev ms) (hk : -2147483648 ≤ k ∧ k ≤ 2147483647) (hev : ev.length + 6 ≤ 3072) (hO : ∀ (i : Nat) (I : xI), k = (i : Int) → ins[i]? = some I → xSL I.2.1 sl ∧ xHO I.2.1 H) : xr_ok (xt_G w) (d + 1 + 1 + 1 + 1 + 1 + 1 + 1 + 1 + 1 + 1 + 1) 237 0 [(0, .ref 165), (1, .int (Int32.ofInt k))] [] (ym A s t) (fun o A' => ∃ v0, o = .inl v0 ∧ ∃ (r : Int) (s' : Nat → Int) (t' : Nat → Nat → Int) (ev' : List Int) (ms' : List (Int × List Int)), v0 = some (.int (Int32.ofInt r)) ∧ A' = ym A s' t' ∧ xJR s' t' [] ins hd ev' ms' ∧ xVO sl H T ins hd ev ms k (s' 0) r ev' ms') := by
  have hs2 := h.1.1
  have hsT := h.1.2.1
  have hs3 := h.2.1.1
  have hs3l := h.2.1.2
  refine xr_steps (pc' := 1) (L' := [(0, .ref 165), (1, .int (Int32.ofInt k))]) (st' := [.ref 165]) 1 rfl ?_
  refine xr_call (q := (.invokevirtual 146, 3, 208, 1)) (av := [.ref 165]) (rest := []) rfl rfl (by decide) rfl (ym_rcv hA rfl) (Nat.le_of_ble_eq_true rfl) (mo_208 hA (xJR_tx h)) ?_
  rintro _ _ ⟨r, T1, ⟨rfl, eA, hk0⟩, hvs⟩
  rw [eA]
  clear eA
  rcases hvs with ⟨u, hu, rfl⟩ | ⟨hu, rfl⟩
  · have hz1 := xsz_1 u
    have hz2 := xpv_sz (n := T.length) (f := fun j => T.getD j 0) 6 0 _ u hu
    refine xr_steps (pc' := 6) (L' := [(2, .int (Int32.ofInt ((xsz 6 u : Nat) : Int))), (0, .ref 165), (1, .int (Int32.ofInt k))]) (st' := [.ref 165]) 2 rfl ?_
    refine xr_call (q := (.invokevirtual 150, 3, 214, 1)) (av := [.ref 165]) (rest := []) rfl rfl (by decide) rfl (ym_rcv hA rfl) (Nat.le_of_ble_eq_true rfl) (mo_214 hA (by omega)) ?_
    rintro _ _ ⟨rfl, eA⟩
    rw [eA]
    clear eA
    have hCL := xCL_mk h hk0
    obtain ⟨T2, hT2⟩ : ∃ T2, va_up T1 166 (va_up (T1 166) (400 + s 2).toNat 0) = T2 := ⟨_, rfl⟩
    rw [hT2] at hCL ⊢
    refine xr_steps (pc' := 11) (L' := [(2, .int (Int32.ofInt ((xsz 6 u : Nat) : Int))), (0, .ref 165), (1, .int (Int32.ofInt k))]) (st' := [.int (Int32.ofInt k), .ref 165]) 2 rfl ?_
    obtain ⟨b31, hb31⟩ := mo_bool (0 ≤ k ∧ k < s 3)
    refine xr_call (q := (.invokevirtual 153, 3, 215, 2)) (av := [.ref 165, .int (Int32.ofInt k)]) (rest := []) rfl rfl (by decide) rfl (ym_rcv hA rfl) (Nat.le_of_ble_eq_true rfl) (mo_215 hA hk (by omega) hb31) ?_
    rintro _ _ ⟨rfl, eA⟩
    rw [eA]
    clear eA
    rcases hb31 with ⟨rfl, hin⟩ | ⟨rfl, hin⟩
    · obtain ⟨i, rfl⟩ : ∃ i : Nat, k = (i : Int) := ⟨k.toNat, by omega⟩
      obtain ⟨I, hI⟩ : ∃ I, ins[i]? = some I := ⟨_, List.getElem?_eq_getElem (show i < ins.length by omega)⟩
      have hIR := h.2.2.1 i I hI
      have hIR8 := xIR_168 hIR
      have hb168 : T2 168 i = t 168 i := by rw [hCL.1 168 (by omega) (by omega)]
      refine xr_if_eq rfl (by omega) (fun z32 => ?_) (fun z32 => ?_)
      · exfalso; omega
      · refine xr_steps (pc' := 18) (L' := [(2, .int (Int32.ofInt ((xsz 6 u : Nat) : Int))), (0, .ref 165), (1, .int (Int32.ofInt (i : Int)))]) (st' := [.int (Int32.ofInt ((xsz 6 u : Nat) : Int))]) 1 rfl ?_
        refine xr_if_le rfl (by omega) (fun z33 => ?_) (fun z33 => ?_)
        · refine xr_steps (pc' := 29) (L' := [(3, .int (Int32.ofInt 0)), (2, .int (Int32.ofInt ((xsz 6 u : Nat) : Int))), (0, .ref 165), (1, .int (Int32.ofInt (i : Int)))]) (st' := [.int (Int32.ofInt 0), .ref 165]) 4 rfl ?_
          refine xr_if_ne rfl (by omega) (fun z34 => ?_) (fun z34 => ?_)
          · exfalso; omega
          · refine xr_steps (pc' := 50) (L' := [(3, .int (Int32.ofInt 0)), (2, .int (Int32.ofInt ((xsz 6 u : Nat) : Int))), (0, .ref 165), (1, .int (Int32.ofInt (i : Int)))]) (st' := [.int (Int32.ofInt 1), .ref 165]) 2 rfl ?_
            refine ym_putI hA rfl rfl rfl ?_
            refine xr_steps (pc' := 54) (L' := [(3, .int (Int32.ofInt 0)), (2, .int (Int32.ofInt ((xsz 6 u : Nat) : Int))), (0, .ref 165), (1, .int (Int32.ofInt (i : Int)))]) (st' := [.ref 165]) 1 rfl ?_
            refine xr_getf (v := .int (Int32.ofInt 1)) rfl (ym_165 hA) rfl ?_
            refine xr_if_ne rfl (by omega) (fun z35 => ?_) (fun z35 => ?_)
            · refine xr_steps (pc' := 73) (L' := [(4, .int (Int32.ofInt 0)), (3, .int (Int32.ofInt 0)), (2, .int (Int32.ofInt ((xsz 6 u : Nat) : Int))), (0, .ref 165), (1, .int (Int32.ofInt (i : Int)))]) (st' := [.int (Int32.ofInt 0), .ref 165]) 4 rfl ?_
              refine ym_putI hA rfl rfl rfl ?_
              refine xr_steps (pc' := 78) (L' := [(4, .int (Int32.ofInt 0)), (3, .int (Int32.ofInt 0)), (2, .int (Int32.ofInt ((xsz 6 u : Nat) : Int))), (0, .ref 165), (1, .int (Int32.ofInt (i : Int)))]) (st' := [.int (Int32.ofInt 0)]) 1 rfl ?_
              exfalso; omega
            · exfalso; omega
        · refine xr_steps (pc' := 29) (L' := [(3, .int (Int32.ofInt 1)), (2, .int (Int32.ofInt ((xsz 6 u : Nat) : Int))), (0, .ref 165), (1, .int (Int32.ofInt (i : Int)))]) (st' := [.int (Int32.ofInt 1), .ref 165]) 5 rfl ?_
          refine xr_if_ne rfl (by omega) (fun z36 => ?_) (fun z36 => ?_)
          · refine xr_steps (pc' := 37) (L' := [(3, .int (Int32.ofInt 1)), (2, .int (Int32.ofInt ((xsz 6 u : Nat) : Int))), (0, .ref 165), (1, .int (Int32.ofInt (i : Int)))]) (st' := [.ref 165, .ref 165]) 1 rfl ?_
            refine xr_getf (v := .ref 168) rfl (ym_165 hA) rfl ?_
            refine xr_steps (pc' := 41) (L' := [(3, .int (Int32.ofInt 1)), (2, .int (Int32.ofInt ((xsz 6 u : Nat) : Int))), (0, .ref 165), (1, .int (Int32.ofInt (i : Int)))]) (st' := [.int (Int32.ofInt (i : Int)), .ref 168, .ref 165]) 1 rfl ?_
            refine ym_iaload (e := T2 168 (i : Int).toNat) hA rfl rfl (by decide) (by omega) (by omega) rfl ?_
            rw [show (i : Int).toNat = i by omega]
            refine xr_if_ne rfl (by omega) (fun z37 => ?_) (fun z37 => ?_)
            · refine xr_steps (pc' := 50) (L' := [(3, .int (Int32.ofInt 1)), (2, .int (Int32.ofInt ((xsz 6 u : Nat) : Int))), (0, .ref 165), (1, .int (Int32.ofInt (i : Int)))]) (st' := [.int (Int32.ofInt 0), .ref 165]) 1 rfl ?_
              refine ym_putI hA rfl rfl rfl ?_
              refine xr_steps (pc' := 54) (L' := [(3, .int (Int32.ofInt 1)), (2, .int (Int32.ofInt ((xsz 6 u : Nat) : Int))), (0, .ref 165), (1, .int (Int32.ofInt (i : Int)))]) (st' := [.ref 165]) 1 rfl ?_
              refine xr_getf (v := .int (Int32.ofInt 0)) rfl (ym_165 hA) rfl ?_
              refine xr_if_ne rfl (by omega) (fun z38 => ?_) (fun z38 => ?_)
              · exfalso; omega
              · refine xr_steps (pc' := 62) (L' := [(3, .int (Int32.ofInt 1)), (2, .int (Int32.ofInt ((xsz 6 u : Nat) : Int))), (0, .ref 165), (1, .int (Int32.ofInt (i : Int)))]) (st' := [.int (Int32.ofInt (i : Int)), .ref 165]) 2 rfl ?_
                obtain ⟨u', hex, hbr'⟩ := xIR_some hIR (by omega)
                have hJ2 := xCL_take (s' := va_up s 2 0) h hCL ⟨ya_up_same _ _ _, ya_up_ne _ _ (by omega), ya_up_ne _ _ (by omega), ya_up_ne _ _ (by omega)⟩
                have hIR2 := hJ2.2.2.1 i I hI
                have hbr2 := hIR2.2.2.2.2.1 u' hex
                have hV2 := xCL_V hCL h.1.2.1 hu
                obtain ⟨hSL, hHO⟩ := hO i I rfl hI
                refine xr_call (q := (.invokevirtual 256, 3, 238, 2)) (av := [.ref 165, .int (Int32.ofInt (i : Int))]) (rest := []) rfl rfl (by decide) rfl (ym_rcv hA rfl) (Nat.le_of_ble_eq_true rfl) (mo_238 (sl := sl) (H := H) (hd := hd) (ev := ev) (tt := u') (uu := u) (za := 400 + T.length) hA hCL.2.2.1 (by omega) hIR2 hbr2 hV2 (by omega) hJ2.2.2.2.2.1 ⟨by rw [ya_up_ne _ _ (by omega)]; exact h.2.2.2.2.2.1.1, hJ2.2.2.2.2.2.1.2.2⟩ hev hJ2.2.2.2.2.2.2.2.2 hSL hHO) ?_
                rintro _ _ ⟨v, s3, t3, ⟨rfl, eA⟩, d1, d2, d3, d4⟩
                rw [eA]
                clear eA
                refine xr_steps (pc' := 73) (L' := [(4, .int (Int32.ofInt v)), (3, .int (Int32.ofInt 1)), (2, .int (Int32.ofInt ((xsz 6 u : Nat) : Int))), (0, .ref 165), (1, .int (Int32.ofInt (i : Int)))]) (st' := [.int (Int32.ofInt 0), .ref 165]) 4 rfl ?_
                refine ym_putI hA rfl rfl rfl ?_
                refine xr_steps (pc' := 78) (L' := [(4, .int (Int32.ofInt v)), (3, .int (Int32.ofInt 1)), (2, .int (Int32.ofInt ((xsz 6 u : Nat) : Int))), (0, .ref 165), (1, .int (Int32.ofInt (i : Int)))]) (st' := [.int (Int32.ofInt v)]) 1 rfl ?_
                have hel : (ev ++ xsu hd I.2.2.1 ++ xtd hd (I.2.2.1.take (xsc hd I.2.2.1))).length ≤ 3072 := by
                  have h1 := xsu_len hd I.2.2.1
                  have h2 := xsc_le hd I.2.2.1
                  have h3 := hIR.2.2.1.2.1
                  rw [List.length_append, List.length_append, xtd_len, List.length_take]
                  omega
                have hse : xES (va_up s3 2 0) t3 (ev ++ xsu hd I.2.2.1 ++ xtd hd (I.2.2.1.take (xsc hd I.2.2.1))) := ⟨by rw [ya_up_ne _ _ (by omega)]; exact d2.1, d2.2⟩
                have hs23 : (va_up s3 2 0) 2 = 0 ∧ (va_up s3 2 0) 3 = (va_up s 2 0) 3 := ⟨ya_up_same _ _ _, by rw [ya_up_ne _ _ (by omega), d4 3 (by omega) (by omega) (by omega) (by omega) (by omega), ya_up_ne _ _ (by omega), ya_up_ne _ _ (by omega)]⟩
                have hs0 : (va_up s3 2 0) 0 = 0 := by rw [ya_up_ne _ _ (by omega), d4 0 (by omega) (by omega) (by omega) (by omega) (by omega), ya_up_same]
                rcases d1 with ⟨f1, f2, f3⟩ | ⟨f1, f2, f3, f4⟩
                · refine xr_retI2 rfl rfl ⟨_, rfl, v, _, t3, _, xcm sl H I.1 6 u' u [], rfl, rfl, xJR_ev hJ2 hs23 d3 hse hel (xLS_eq f3 (ya_up_ne _ _ (by omega)) (fun _ _ _ => rfl)), Or.inr ⟨i, I, u, rfl, hI, hu, Or.inr ⟨u', hex, rfl, Or.inl ⟨f1, rfl, hs0, f2⟩⟩⟩⟩
                · refine xr_retI2 rfl rfl ⟨_, rfl, v, _, t3, _, ms, rfl, rfl, xJR_ev hJ2 hs23 d3 hse hel (xLS_eq (xJR_LS hJ2) ?_ f4), Or.inr ⟨i, I, u, rfl, hI, hu, Or.inr ⟨u', hex, rfl, Or.inr ⟨f1, rfl, hs0, f2⟩⟩⟩⟩
                  rw [ya_up_ne _ _ (by omega), f3, ya_up_ne _ _ (by omega), ya_up_ne _ _ (by omega)]
            · refine xr_steps (pc' := 50) (L' := [(3, .int (Int32.ofInt 1)), (2, .int (Int32.ofInt ((xsz 6 u : Nat) : Int))), (0, .ref 165), (1, .int (Int32.ofInt (i : Int)))]) (st' := [.int (Int32.ofInt 2), .ref 165]) 2 rfl ?_
              refine ym_putI hA rfl rfl rfl ?_
              refine xr_steps (pc' := 54) (L' := [(3, .int (Int32.ofInt 1)), (2, .int (Int32.ofInt ((xsz 6 u : Nat) : Int))), (0, .ref 165), (1, .int (Int32.ofInt (i : Int)))]) (st' := [.ref 165]) 1 rfl ?_
              refine xr_getf (v := .int (Int32.ofInt 2)) rfl (ym_165 hA) rfl ?_
              refine xr_if_ne rfl (by omega) (fun z39 => ?_) (fun z39 => ?_)
              · refine xr_steps (pc' := 73) (L' := [(4, .int (Int32.ofInt 0)), (3, .int (Int32.ofInt 1)), (2, .int (Int32.ofInt ((xsz 6 u : Nat) : Int))), (0, .ref 165), (1, .int (Int32.ofInt (i : Int)))]) (st' := [.int (Int32.ofInt 0), .ref 165]) 4 rfl ?_
                refine ym_putI hA rfl rfl rfl ?_
                refine xr_steps (pc' := 78) (L' := [(4, .int (Int32.ofInt 0)), (3, .int (Int32.ofInt 1)), (2, .int (Int32.ofInt ((xsz 6 u : Nat) : Int))), (0, .ref 165), (1, .int (Int32.ofInt (i : Int)))]) (st' := [.int (Int32.ofInt 0)]) 1 rfl ?_
                refine xr_retI2 rfl rfl ⟨_, rfl, 0, _, _, ev, ms, rfl, rfl, xCL_take h hCL ⟨by simp [va_up], by simp [va_up], by simp [va_up], by simp [va_up]⟩, ?_⟩
                exact Or.inr ⟨i, I, u, rfl, hI, hu, Or.inl ⟨xIR_none hIR (by omega), by simp [va_up], rfl, rfl⟩⟩
              · exfalso; omega
          · exfalso; omega
    · refine xr_if_eq rfl (by omega) (fun z40 => ?_) (fun z40 => ?_)
      · refine xr_steps (pc' := 29) (L' := [(3, .int (Int32.ofInt 0)), (2, .int (Int32.ofInt ((xsz 6 u : Nat) : Int))), (0, .ref 165), (1, .int (Int32.ofInt k))]) (st' := [.int (Int32.ofInt 0), .ref 165]) 4 rfl ?_
        refine xr_if_ne rfl (by omega) (fun z41 => ?_) (fun z41 => ?_)
        · exfalso; omega
        · refine xr_steps (pc' := 50) (L' := [(3, .int (Int32.ofInt 0)), (2, .int (Int32.ofInt ((xsz 6 u : Nat) : Int))), (0, .ref 165), (1, .int (Int32.ofInt k))]) (st' := [.int (Int32.ofInt 1), .ref 165]) 2 rfl ?_
          refine ym_putI hA rfl rfl rfl ?_
          refine xr_steps (pc' := 54) (L' := [(3, .int (Int32.ofInt 0)), (2, .int (Int32.ofInt ((xsz 6 u : Nat) : Int))), (0, .ref 165), (1, .int (Int32.ofInt k))]) (st' := [.ref 165]) 1 rfl ?_
          refine xr_getf (v := .int (Int32.ofInt 1)) rfl (ym_165 hA) rfl ?_
          refine xr_if_ne rfl (by omega) (fun z42 => ?_) (fun z42 => ?_)
          · refine xr_steps (pc' := 73) (L' := [(4, .int (Int32.ofInt 0)), (3, .int (Int32.ofInt 0)), (2, .int (Int32.ofInt ((xsz 6 u : Nat) : Int))), (0, .ref 165), (1, .int (Int32.ofInt k))]) (st' := [.int (Int32.ofInt 0), .ref 165]) 4 rfl ?_
            refine ym_putI hA rfl rfl rfl ?_
            refine xr_steps (pc' := 78) (L' := [(4, .int (Int32.ofInt 0)), (3, .int (Int32.ofInt 0)), (2, .int (Int32.ofInt ((xsz 6 u : Nat) : Int))), (0, .ref 165), (1, .int (Int32.ofInt k))]) (st' := [.int (Int32.ofInt 0)]) 1 rfl ?_
            refine xr_retI2 rfl rfl ⟨_, rfl, 0, _, _, ev, ms, rfl, rfl, xCL_take h hCL ⟨by simp [va_up], by simp [va_up], by simp [va_up], by simp [va_up]⟩, ?_⟩
            exact Or.inl ⟨fun e => hin ⟨e.1, by omega⟩, by simp [va_up], rfl, rfl⟩
          · exfalso; omega
      · exfalso; omega
  · refine xr_steps (pc' := 6) (L' := [(2, .int (Int32.ofInt (-1))), (0, .ref 165), (1, .int (Int32.ofInt k))]) (st' := [.ref 165]) 2 rfl ?_
    refine xr_call (q := (.invokevirtual 150, 3, 214, 1)) (av := [.ref 165]) (rest := []) rfl rfl (by decide) rfl (ym_rcv hA rfl) (Nat.le_of_ble_eq_true rfl) (mo_214 hA (by omega)) ?_
    rintro _ _ ⟨rfl, eA⟩
    rw [eA]
    clear eA
    have hCL := xCL_mk h hk0
    obtain ⟨T2, hT2⟩ : ∃ T2, va_up T1 166 (va_up (T1 166) (400 + s 2).toNat 0) = T2 := ⟨_, rfl⟩
    rw [hT2] at hCL ⊢
    refine xr_steps (pc' := 11) (L' := [(2, .int (Int32.ofInt (-1))), (0, .ref 165), (1, .int (Int32.ofInt k))]) (st' := [.int (Int32.ofInt k), .ref 165]) 2 rfl ?_
    obtain ⟨b43, hb43⟩ := mo_bool (0 ≤ k ∧ k < s 3)
    refine xr_call (q := (.invokevirtual 153, 3, 215, 2)) (av := [.ref 165, .int (Int32.ofInt k)]) (rest := []) rfl rfl (by decide) rfl (ym_rcv hA rfl) (Nat.le_of_ble_eq_true rfl) (mo_215 hA hk (by omega) hb43) ?_
    rintro _ _ ⟨rfl, eA⟩
    rw [eA]
    clear eA
    rcases hb43 with ⟨rfl, hin⟩ | ⟨rfl, hin⟩
    · obtain ⟨i, rfl⟩ : ∃ i : Nat, k = (i : Int) := ⟨k.toNat, by omega⟩
      obtain ⟨I, hI⟩ : ∃ I, ins[i]? = some I := ⟨_, List.getElem?_eq_getElem (show i < ins.length by omega)⟩
      have hIR := h.2.2.1 i I hI
      have hIR8 := xIR_168 hIR
      have hb168 : T2 168 i = t 168 i := by rw [hCL.1 168 (by omega) (by omega)]
      refine xr_if_eq rfl (by omega) (fun z44 => ?_) (fun z44 => ?_)
      · exfalso; omega
      · refine xr_steps (pc' := 18) (L' := [(2, .int (Int32.ofInt (-1))), (0, .ref 165), (1, .int (Int32.ofInt (i : Int)))]) (st' := [.int (Int32.ofInt (-1))]) 1 rfl ?_
        refine xr_if_le rfl (by omega) (fun z45 => ?_) (fun z45 => ?_)
        · refine xr_steps (pc' := 29) (L' := [(3, .int (Int32.ofInt 0)), (2, .int (Int32.ofInt (-1))), (0, .ref 165), (1, .int (Int32.ofInt (i : Int)))]) (st' := [.int (Int32.ofInt 0), .ref 165]) 4 rfl ?_
          refine xr_if_ne rfl (by omega) (fun z46 => ?_) (fun z46 => ?_)
          · exfalso; omega
          · refine xr_steps (pc' := 50) (L' := [(3, .int (Int32.ofInt 0)), (2, .int (Int32.ofInt (-1))), (0, .ref 165), (1, .int (Int32.ofInt (i : Int)))]) (st' := [.int (Int32.ofInt 1), .ref 165]) 2 rfl ?_
            refine ym_putI hA rfl rfl rfl ?_
            refine xr_steps (pc' := 54) (L' := [(3, .int (Int32.ofInt 0)), (2, .int (Int32.ofInt (-1))), (0, .ref 165), (1, .int (Int32.ofInt (i : Int)))]) (st' := [.ref 165]) 1 rfl ?_
            refine xr_getf (v := .int (Int32.ofInt 1)) rfl (ym_165 hA) rfl ?_
            refine xr_if_ne rfl (by omega) (fun z47 => ?_) (fun z47 => ?_)
            · refine xr_steps (pc' := 73) (L' := [(4, .int (Int32.ofInt 0)), (3, .int (Int32.ofInt 0)), (2, .int (Int32.ofInt (-1))), (0, .ref 165), (1, .int (Int32.ofInt (i : Int)))]) (st' := [.int (Int32.ofInt 0), .ref 165]) 4 rfl ?_
              refine ym_putI hA rfl rfl rfl ?_
              refine xr_steps (pc' := 78) (L' := [(4, .int (Int32.ofInt 0)), (3, .int (Int32.ofInt 0)), (2, .int (Int32.ofInt (-1))), (0, .ref 165), (1, .int (Int32.ofInt (i : Int)))]) (st' := [.int (Int32.ofInt 0)]) 1 rfl ?_
              refine xr_retI2 rfl rfl ⟨_, rfl, 0, _, _, ev, ms, rfl, rfl, xCL_take h hCL ⟨by simp [va_up], by simp [va_up], by simp [va_up], by simp [va_up]⟩, ?_⟩
              exact Or.inl ⟨fun e => hu e.2.2, by simp [va_up], rfl, rfl⟩
            · exfalso; omega
        · exfalso; omega
    · refine xr_if_eq rfl (by omega) (fun z48 => ?_) (fun z48 => ?_)
      · refine xr_steps (pc' := 29) (L' := [(3, .int (Int32.ofInt 0)), (2, .int (Int32.ofInt (-1))), (0, .ref 165), (1, .int (Int32.ofInt k))]) (st' := [.int (Int32.ofInt 0), .ref 165]) 4 rfl ?_
        refine xr_if_ne rfl (by omega) (fun z49 => ?_) (fun z49 => ?_)
        · exfalso; omega
        · refine xr_steps (pc' := 50) (L' := [(3, .int (Int32.ofInt 0)), (2, .int (Int32.ofInt (-1))), (0, .ref 165), (1, .int (Int32.ofInt k))]) (st' := [.int (Int32.ofInt 1), .ref 165]) 2 rfl ?_
          refine ym_putI hA rfl rfl rfl ?_
          refine xr_steps (pc' := 54) (L' := [(3, .int (Int32.ofInt 0)), (2, .int (Int32.ofInt (-1))), (0, .ref 165), (1, .int (Int32.ofInt k))]) (st' := [.ref 165]) 1 rfl ?_
          refine xr_getf (v := .int (Int32.ofInt 1)) rfl (ym_165 hA) rfl ?_
          refine xr_if_ne rfl (by omega) (fun z50 => ?_) (fun z50 => ?_)
          · refine xr_steps (pc' := 73) (L' := [(4, .int (Int32.ofInt 0)), (3, .int (Int32.ofInt 0)), (2, .int (Int32.ofInt (-1))), (0, .ref 165), (1, .int (Int32.ofInt k))]) (st' := [.int (Int32.ofInt 0), .ref 165]) 4 rfl ?_
            refine ym_putI hA rfl rfl rfl ?_
            refine xr_steps (pc' := 78) (L' := [(4, .int (Int32.ofInt 0)), (3, .int (Int32.ofInt 0)), (2, .int (Int32.ofInt (-1))), (0, .ref 165), (1, .int (Int32.ofInt k))]) (st' := [.int (Int32.ofInt 0)]) 1 rfl ?_
            refine xr_retI2 rfl rfl ⟨_, rfl, 0, _, _, ev, ms, rfl, rfl, xCL_take h hCL ⟨by simp [va_up], by simp [va_up], by simp [va_up], by simp [va_up]⟩, ?_⟩
            exact Or.inl ⟨fun e => hin ⟨e.1, by omega⟩, by simp [va_up], rfl, rfl⟩
          · exfalso; omega
      · exfalso; omega
