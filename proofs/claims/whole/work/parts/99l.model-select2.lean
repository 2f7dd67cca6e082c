/-! The reference: select -/
theorem xsp0_pl {e : Nat → Int} : ∀ (k p : Nat) (l : List Int) (q : Nat), xsp 0 e k p = some (l, q) → xpl0 l ∧ l.length ≤ k := by
  intro k
  induction k with
  | zero => intro p l q h; cases h; exact ⟨fun c hc => absurd hc List.not_mem_nil, Nat.le_refl _⟩
  | succ k ih =>
    intro p l q h
    have go : ∀ (s : Int) (q1 : Nat), ((0 ≤ s ∧ s ≤ 99) ∨ (1001 ≤ s ∧ s ≤ 1127)) → (match xsp 0 e k q1 with
        | none => none
        | some (l, r) => some (s :: l, r)) = some (l, q) → xpl0 l ∧ l.length ≤ k + 1 := by
      intro s q1 hs h1
      cases h3 : xsp 0 e k q1 with
      | none => rw [h3] at h1; cases h1
      | some z =>
        obtain ⟨l2, r2⟩ := z
        rw [h3] at h1
        cases h1
        obtain ⟨i1, i2⟩ := ih q1 l2 _ h3
        refine ⟨fun c hc => ?_, by rw [List.length_cons]; omega⟩
        rcases List.mem_cons.mp hc with rfl | hc
        · exact hs
        · exact i1 c hc
    rw [xsp] at h
    by_cases c1 : e p = 46
    · rw [if_pos c1] at h
      cases hs : xsk 0 e (p + 1) with
      | none => rw [hs] at h; cases h
      | some z =>
        obtain ⟨s, q1⟩ := z
        rw [hs] at h
        refine go s q1 ?_ h
        unfold xsk at hs
        split at hs
        · rename_i h9; exact absurd h9.1 (by omega)
        · split at hs
          · cases hs; omega
          · cases hs
    · rw [if_neg c1] at h
      by_cases c2 : e p = 91
      · rw [if_pos c2] at h
        cases hs : xsn 0 e (p + 1) with
        | none => rw [hs] at h; cases h
        | some z =>
          obtain ⟨s, q1⟩ := z
          rw [hs] at h
          refine go s q1 ?_ h
          unfold xsn at hs
          split at hs
          · rename_i h9; exact absurd h9.1 (by omega)
          · split at hs
            · split at hs
              · split at hs
                · cases hs; omega
                · cases hs
              · split at hs
                · cases hs; omega
                · cases hs
            · cases hs
      · rw [if_neg c2] at h
        cases h
        exact ⟨fun c hc => absurd hc List.not_mem_nil, Nat.zero_le _⟩
theorem mo_232 {w : Value} {d : Nat} {A : xb_H} {s : Nat → Int} {t : Nat → Nat → Int} {T : List Int} {ins : List xI} {hd : Nat → Int} {ev : List Int} {ms : List (Int × List Int)} {k : Int} (hA : 194 ≤ A.1) (h : xJR s t T ins hd ev ms) (hk : -2147483648 ≤ k ∧ k ≤ 2147483647) : xr_ok (xt_G w) (d + 1 + 1 + 1 + 1) 232 0 [(0, .ref 165), (1, .int (Int32.ofInt k))] [] (ym A s t) (fun o A' => ∃ v0, o = .inl v0 ∧ ∃ (r : Int) (s' : Nat → Int) (t' : Nat → Nat → Int), v0 = some (.int (Int32.ofInt r)) ∧ A' = ym A s' t' ∧ xJR s' t' [] ins hd ev ms ∧ xSD T ins k r) := by
  have hs3 := h.2.1.1
  have hs3l := h.2.1.2
  refine xr_steps (pc' := 2) (L' := [(0, .ref 165), (1, .int (Int32.ofInt k))]) (st' := [.int (Int32.ofInt 0), .ref 165]) 2 rfl ?_
  refine ym_putI hA rfl rfl rfl ?_
  refine xr_steps (pc' := 6) (L' := [(0, .ref 165), (1, .int (Int32.ofInt k))]) (st' := [.ref 165]) 1 rfl ?_
  refine xr_call (q := (.invokevirtual 186, 3, 233, 1)) (av := [.ref 165]) (rest := []) rfl rfl (by decide) rfl (ym_rcv hA rfl) (Nat.le_of_ble_eq_true rfl) (mo_233 (s := va_up s 0 0) (n := T.length) (f := fun j => T.getD j 0) hA (show xtx (va_up s 0 0) t T.length (fun j => T.getD j 0) from xJR_tx h)) ?_
  rintro _ _ ⟨b, c, g, rfl, eA, hb⟩
  rw [eA]
  clear eA
  rcases hb with ⟨rfl, l, hl, hcl, hrow⟩ | ⟨rfl, hu⟩
  · refine xr_steps (pc' := 12) (L' := [(2, .int (Int32.ofInt 1)), (0, .ref 165), (1, .int (Int32.ofInt k))]) (st' := [.int (Int32.ofInt 0), .ref 165]) 3 rfl ?_
    refine ym_putI hA rfl rfl rfl ?_
    refine xr_steps (pc' := 16) (L' := [(2, .int (Int32.ofInt 1)), (0, .ref 165), (1, .int (Int32.ofInt k))]) (st' := [.int (Int32.ofInt 1)]) 1 rfl ?_
    refine xr_if_eq rfl (by omega) (fun z31 => ?_) (fun z31 => ?_)
    · exfalso; omega
    · refine xr_steps (pc' := 21) (L' := [(2, .int (Int32.ofInt 1)), (0, .ref 165), (1, .int (Int32.ofInt k))]) (st' := [.int (Int32.ofInt k), .ref 165]) 2 rfl ?_
      obtain ⟨b32, hb32⟩ := mo_bool (0 ≤ k ∧ k < s 3)
      refine xr_call (q := (.invokevirtual 153, 3, 215, 2)) (av := [.ref 165, .int (Int32.ofInt k)]) (rest := []) rfl rfl (by decide) rfl (ym_rcv hA rfl) (Nat.le_of_ble_eq_true rfl) (mo_215 (s := va_up (va_up (va_up s 0 0) 27 (c : Int)) 2 0) hA hk (show 0 ≤ s 3 ∧ s 3 ≤ 4 by omega) hb32) ?_
      rintro _ _ ⟨rfl, eA⟩
      rw [eA]
      clear eA
      rcases hb32 with ⟨rfl, hin⟩ | ⟨rfl, hin⟩
      · obtain ⟨i, rfl⟩ : ∃ i : Nat, k = (i : Int) := ⟨k.toNat, by omega⟩
        obtain ⟨I, hI⟩ : ∃ I, ins[i]? = some I := ⟨_, List.getElem?_eq_getElem (show i < ins.length by omega)⟩
        have hIR := h.2.2.1 i I hI
        have hIR8 := xIR_168 hIR
        refine xr_if_eq rfl (by omega) (fun z33 => ?_) (fun z33 => ?_)
        · exfalso; omega
        · refine xr_steps (pc' := 29) (L' := [(2, .int (Int32.ofInt 1)), (0, .ref 165), (1, .int (Int32.ofInt (i : Int)))]) (st' := [.int (Int32.ofInt (i : Int)), .ref 165]) 2 rfl ?_
          have hlp := xsp0_pl 50 1 l _ hl.2
          refine xr_call (q := (.invokevirtual 189, 3, 234, 2)) (av := [.ref 165, .int (Int32.ofInt (i : Int))]) (rest := []) rfl rfl (by decide) rfl (ym_rcv hA rfl) (Nat.le_of_ble_eq_true rfl) (mo_234 (s := va_up (va_up (va_up s 0 0) 27 (c : Int)) 2 0) (t := va_up t 186 g) (l := l) (rs := I.2.1) hA h.1.2.2.1 (by omega) ⟨by show (c : Int) = _; omega, hlp.2, hrow, hlp.1⟩ hIR.2.1.1 hIR.2.1.2.1 (fun j r hr => xRL_keep (hIR.2.1.2.2 j r hr) rfl (fun _ _ => rfl))) ?_
          rintro _ _ ⟨b, ⟨rfl, eA⟩, hBS⟩
          rw [eA]
          clear eA
          refine xr_steps (pc' := 36) (L' := [(2, .int (Int32.ofInt 1)), (0, .ref 165), (1, .int (Int32.ofInt (i : Int)))]) (st' := [.int (Int32.ofInt b)]) 1 rfl ?_
          refine xr_retI2 rfl rfl ⟨_, rfl, _, _, _, rfl, rfl, xJR_take h ⟨by simp [va_up], by simp [va_up], by simp [va_up], by simp [va_up]⟩ (fun x a b => ya_up_ne _ _ (by omega)) (fun _ _ => rfl) h.1.2.2.1, ?_⟩
          exact Or.inr ⟨i, I, l, rfl, hI, hl, hBS⟩
      · refine xr_if_eq rfl (by omega) (fun z34 => ?_) (fun z34 => ?_)
        · refine xr_steps (pc' := 36) (L' := [(2, .int (Int32.ofInt 1)), (0, .ref 165), (1, .int (Int32.ofInt k))]) (st' := [.int (Int32.ofInt (-1))]) 1 rfl ?_
          refine xr_retI2 rfl rfl ⟨_, rfl, _, _, _, rfl, rfl, xJR_take h ⟨by simp [va_up], by simp [va_up], by simp [va_up], by simp [va_up]⟩ (fun x a b => ya_up_ne _ _ (by omega)) (fun _ _ => rfl) h.1.2.2.1, ?_⟩
          exact Or.inl ⟨fun e => hin ⟨e.1, show _ < s 3 by omega⟩, rfl⟩
        · exfalso; omega
  · refine xr_steps (pc' := 12) (L' := [(2, .int (Int32.ofInt 0)), (0, .ref 165), (1, .int (Int32.ofInt k))]) (st' := [.int (Int32.ofInt 0), .ref 165]) 3 rfl ?_
    refine ym_putI hA rfl rfl rfl ?_
    refine xr_steps (pc' := 16) (L' := [(2, .int (Int32.ofInt 0)), (0, .ref 165), (1, .int (Int32.ofInt k))]) (st' := [.int (Int32.ofInt 0)]) 1 rfl ?_
    refine xr_if_eq rfl (by omega) (fun z35 => ?_) (fun z35 => ?_)
    · refine xr_steps (pc' := 36) (L' := [(2, .int (Int32.ofInt 0)), (0, .ref 165), (1, .int (Int32.ofInt k))]) (st' := [.int (Int32.ofInt (-1))]) 1 rfl ?_
      refine xr_retI2 rfl rfl ⟨_, rfl, _, _, _, rfl, rfl, xJR_take h ⟨by simp [va_up], by simp [va_up], by simp [va_up], by simp [va_up]⟩ (fun x a b => ya_up_ne _ _ (by omega)) (fun _ _ => rfl) h.1.2.2.1, ?_⟩
      exact Or.inl ⟨fun e => hu e.2.2, rfl⟩
    · exfalso; omega
/-! The reference: behind, contains -/
/-- the matcher at mp ends before q, of a rule that ends at en -/
def xBH (E : Nat → Int) (mp en q : Nat) : Prop := (E mp = 47 ∧ mp + 2 ≤ q ∧ q ≤ en ∧ E (q - 1) = 47 ∧ ∀ j : Nat, mp + 1 ≤ j → j < q - 1 → ¬ E j = 47) ∨ (¬ E mp = 47 ∧ mp < q ∧ q ≤ en ∧ (∀ j : Nat, mp < j → j < q → ¬ E j = 38 ∧ ¬ E j = 124) ∧ (q = en ∨ E q = 38 ∨ E q = 124))
section BH
variable {w : Value} {d : Nat} {A : xb_H} {s : Nat → Int} {t : Nat → Nat → Int} {mp en q : Nat} {Q : xb_R → xb_H → Prop}
theorem mo_247a (hA : 194 ≤ A.1) (hE : ∀ j : Nat, 0 ≤ t 166 j ∧ t 166 j ≤ 127) (hq : mp + 2 ≤ q ∧ q ≤ en ∧ en ≤ 3710) (h47 : t 166 (q - 1) = 47) (hne : ∀ j : Nat, mp + 1 ≤ j → j < q - 1 → ¬ t 166 j = 47) : ∀ (k j : Nat), j + k = q - 1 → mp + 1 ≤ j → Q (.inl (some (.int (Int32.ofInt (q : Int))))) (ym A s t) → xr_ok (xt_G w) d 247 15 [(3, .int (Int32.ofInt (j : Int))), (0, .ref 165), (1, .int (Int32.ofInt (mp : Int))), (2, .int (Int32.ofInt (en : Int)))] [] (ym A s t) Q := by
  intro k
  induction k using Nat.strongRecOn with
  | _ k ih =>
    intro j hj hm hQ
    have hEj := hE j
    refine xr_steps (pc' := 16) (L' := [(3, .int (Int32.ofInt (j : Int))), (0, .ref 165), (1, .int (Int32.ofInt (mp : Int))), (2, .int (Int32.ofInt (en : Int)))]) (st' := [.ref 165]) 1 rfl ?_
    refine xr_getf (v := .ref 166) rfl (ym_165 hA) rfl ?_
    refine xr_steps (pc' := 20) (L' := [(3, .int (Int32.ofInt (j : Int))), (0, .ref 165), (1, .int (Int32.ofInt (mp : Int))), (2, .int (Int32.ofInt (en : Int)))]) (st' := [.int (Int32.ofInt (j : Int)), .ref 166]) 1 rfl ?_
    refine ym_caload (e := t 166 (j : Int).toNat) hA rfl rfl (by decide) (by omega) (by omega) rfl ?_
    rw [show (j : Int).toNat = j by omega]
    refine xr_steps (pc' := 23) (L' := [(3, .int (Int32.ofInt (j : Int))), (0, .ref 165), (1, .int (Int32.ofInt (mp : Int))), (2, .int (Int32.ofInt (en : Int)))]) (st' := [.int (Int32.ofInt 47), .int (Int32.ofInt (t 166 j))]) 1 rfl ?_
    refine xr_icmp_eq rfl (by omega) (by omega) (fun z31 => ?_) (fun z31 => ?_)
    · refine xr_steps (pc' := 34) (L' := [(3, .int (Int32.ofInt (j : Int))), (0, .ref 165), (1, .int (Int32.ofInt (mp : Int))), (2, .int (Int32.ofInt (en : Int)))]) (st' := [.int (Int32.ofInt 1), .int (Int32.ofInt (j : Int))]) 2 rfl ?_
      refine xr_iadd rfl ?_
      obtain rfl : j = q - 1 := Classical.byContradiction fun hh => hne j (by omega) (by omega) (by omega)
      rw [show ((q - 1 : Nat) : Int) + 1 = (q : Int) by omega]
      exact xr_retI2 rfl rfl hQ
    · refine xr_iinc (L' := [(3, .int (Int32.ofInt ((j : Int) + 1))), (0, .ref 165), (1, .int (Int32.ofInt (mp : Int))), (2, .int (Int32.ofInt (en : Int)))]) rfl rfl rfl ?_
      refine xr_steps (pc' := 15) (L' := [(3, .int (Int32.ofInt ((j : Int) + 1))), (0, .ref 165), (1, .int (Int32.ofInt (mp : Int))), (2, .int (Int32.ofInt (en : Int)))]) (st' := []) 1 rfl ?_
      refine xr_loc (L := [(3, .int (Int32.ofInt ((j : Int) + 1))), (0, .ref 165), (1, .int (Int32.ofInt (mp : Int))), (2, .int (Int32.ofInt (en : Int)))]) (show [3, 0, 1, 2].Nodup by decide) ⟨rfl, rfl, rfl, rfl, trivial⟩ ?_
      rw [show (j : Int) + 1 = ((j + 1 : Nat) : Int) by omega]
      have hjq : ¬ j = q - 1 := by rintro rfl; omega
      exact ih (k - 1) (by omega) (j + 1) (by omega) (by omega) hQ
theorem mo_247b (hA : 194 ≤ A.1) (hE : ∀ j : Nat, 0 ≤ t 166 j ∧ t 166 j ≤ 127) (hq : mp < q ∧ q ≤ en ∧ en ≤ 3710) (hne : ∀ j : Nat, mp < j → j < q → ¬ t 166 j = 38 ∧ ¬ t 166 j = 124) (hend : q = en ∨ t 166 q = 38 ∨ t 166 q = 124) : ∀ (k j : Nat), j + k = q → mp + 1 ≤ j → Q (.inl (some (.int (Int32.ofInt (q : Int))))) (ym A s t) → xr_ok (xt_G w) d 247 36 [(3, .int (Int32.ofInt (j : Int))), (0, .ref 165), (1, .int (Int32.ofInt (mp : Int))), (2, .int (Int32.ofInt (en : Int)))] [] (ym A s t) Q := by
  intro k
  induction k using Nat.strongRecOn with
  | _ k ih =>
    intro j hj hm hQ
    have hEj := hE j
    refine xr_steps (pc' := 38) (L' := [(3, .int (Int32.ofInt (j : Int))), (0, .ref 165), (1, .int (Int32.ofInt (mp : Int))), (2, .int (Int32.ofInt (en : Int)))]) (st' := [.int (Int32.ofInt (en : Int)), .int (Int32.ofInt (j : Int))]) 2 rfl ?_
    refine xr_icmp_ge rfl (by omega) (by omega) (fun z31 => ?_) (fun z31 => ?_)
    · refine xr_steps (pc' := 70) (L' := [(3, .int (Int32.ofInt (j : Int))), (0, .ref 165), (1, .int (Int32.ofInt (mp : Int))), (2, .int (Int32.ofInt (en : Int)))]) (st' := [.int (Int32.ofInt (j : Int))]) 1 rfl ?_
      obtain rfl : j = q := Classical.byContradiction fun hh => by have := hne j (by omega) (by omega); omega
      exact xr_retI2 rfl rfl hQ
    · refine xr_steps (pc' := 42) (L' := [(3, .int (Int32.ofInt (j : Int))), (0, .ref 165), (1, .int (Int32.ofInt (mp : Int))), (2, .int (Int32.ofInt (en : Int)))]) (st' := [.ref 165]) 1 rfl ?_
      refine xr_getf (v := .ref 166) rfl (ym_165 hA) rfl ?_
      refine xr_steps (pc' := 46) (L' := [(3, .int (Int32.ofInt (j : Int))), (0, .ref 165), (1, .int (Int32.ofInt (mp : Int))), (2, .int (Int32.ofInt (en : Int)))]) (st' := [.int (Int32.ofInt (j : Int)), .ref 166]) 1 rfl ?_
      refine ym_caload (e := t 166 (j : Int).toNat) hA rfl rfl (by decide) (by omega) (by omega) rfl ?_
      rw [show (j : Int).toNat = j by omega]
      refine xr_steps (pc' := 49) (L' := [(3, .int (Int32.ofInt (j : Int))), (0, .ref 165), (1, .int (Int32.ofInt (mp : Int))), (2, .int (Int32.ofInt (en : Int)))]) (st' := [.int (Int32.ofInt 38), .int (Int32.ofInt (t 166 j))]) 1 rfl ?_
      refine xr_icmp_eq rfl (by omega) (by omega) (fun z32 => ?_) (fun z32 => ?_)
      · refine xr_steps (pc' := 70) (L' := [(3, .int (Int32.ofInt (j : Int))), (0, .ref 165), (1, .int (Int32.ofInt (mp : Int))), (2, .int (Int32.ofInt (en : Int)))]) (st' := [.int (Int32.ofInt (j : Int))]) 1 rfl ?_
        obtain rfl : j = q := Classical.byContradiction fun hh => by have := hne j (by omega) (by omega); omega
        exact xr_retI2 rfl rfl hQ
      · refine xr_steps (pc' := 53) (L' := [(3, .int (Int32.ofInt (j : Int))), (0, .ref 165), (1, .int (Int32.ofInt (mp : Int))), (2, .int (Int32.ofInt (en : Int)))]) (st' := [.ref 165]) 1 rfl ?_
        refine xr_getf (v := .ref 166) rfl (ym_165 hA) rfl ?_
        refine xr_steps (pc' := 57) (L' := [(3, .int (Int32.ofInt (j : Int))), (0, .ref 165), (1, .int (Int32.ofInt (mp : Int))), (2, .int (Int32.ofInt (en : Int)))]) (st' := [.int (Int32.ofInt (j : Int)), .ref 166]) 1 rfl ?_
        refine ym_caload (e := t 166 (j : Int).toNat) hA rfl rfl (by decide) (by omega) (by omega) rfl ?_
        rw [show (j : Int).toNat = j by omega]
        refine xr_steps (pc' := 60) (L' := [(3, .int (Int32.ofInt (j : Int))), (0, .ref 165), (1, .int (Int32.ofInt (mp : Int))), (2, .int (Int32.ofInt (en : Int)))]) (st' := [.int (Int32.ofInt 124), .int (Int32.ofInt (t 166 j))]) 1 rfl ?_
        refine xr_icmp_eq rfl (by omega) (by omega) (fun z33 => ?_) (fun z33 => ?_)
        · refine xr_steps (pc' := 70) (L' := [(3, .int (Int32.ofInt (j : Int))), (0, .ref 165), (1, .int (Int32.ofInt (mp : Int))), (2, .int (Int32.ofInt (en : Int)))]) (st' := [.int (Int32.ofInt (j : Int))]) 1 rfl ?_
          obtain rfl : j = q := Classical.byContradiction fun hh => by have := hne j (by omega) (by omega); omega
          exact xr_retI2 rfl rfl hQ
        · refine xr_iinc (L' := [(3, .int (Int32.ofInt ((j : Int) + 1))), (0, .ref 165), (1, .int (Int32.ofInt (mp : Int))), (2, .int (Int32.ofInt (en : Int)))]) rfl rfl rfl ?_
          refine xr_steps (pc' := 36) (L' := [(3, .int (Int32.ofInt ((j : Int) + 1))), (0, .ref 165), (1, .int (Int32.ofInt (mp : Int))), (2, .int (Int32.ofInt (en : Int)))]) (st' := []) 1 rfl ?_
          refine xr_loc (L := [(3, .int (Int32.ofInt ((j : Int) + 1))), (0, .ref 165), (1, .int (Int32.ofInt (mp : Int))), (2, .int (Int32.ofInt (en : Int)))]) (show [3, 0, 1, 2].Nodup by decide) ⟨rfl, rfl, rfl, rfl, trivial⟩ ?_
          rw [show (j : Int) + 1 = ((j + 1 : Nat) : Int) by omega]
          have hjq : ¬ j = q := by rintro rfl; omega
          exact ih (k - 1) (by omega) (j + 1) (by omega) (by omega) hQ
theorem mo_247 (hA : 194 ≤ A.1) (hE : ∀ j : Nat, 0 ≤ t 166 j ∧ t 166 j ≤ 127) (hen : en ≤ 3710) (h : xBH (t 166) mp en q) : xr_ok (xt_G w) d 247 0 [(0, .ref 165), (1, .int (Int32.ofInt (mp : Int))), (2, .int (Int32.ofInt (en : Int)))] [] (ym A s t) (fun o A' => ∃ v0, o = .inl v0 ∧ v0 = some (.int (Int32.ofInt (q : Int))) ∧ A' = ym A s t) := by
  have hEm := hE mp
  have hmp : mp < en := by rcases h with h | h <;> omega
  refine xr_steps (pc' := 2) (L' := [(0, .ref 165), (1, .int (Int32.ofInt (mp : Int))), (2, .int (Int32.ofInt (en : Int)))]) (st' := [.int (Int32.ofInt 1), .int (Int32.ofInt (mp : Int))]) 2 rfl ?_
  refine xr_iadd rfl ?_
  refine xr_steps (pc' := 5) (L' := [(3, .int (Int32.ofInt ((mp : Int) + 1))), (0, .ref 165), (1, .int (Int32.ofInt (mp : Int))), (2, .int (Int32.ofInt (en : Int)))]) (st' := [.ref 165]) 2 rfl ?_
  refine xr_getf (v := .ref 166) rfl (ym_165 hA) rfl ?_
  refine xr_steps (pc' := 9) (L' := [(3, .int (Int32.ofInt ((mp : Int) + 1))), (0, .ref 165), (1, .int (Int32.ofInt (mp : Int))), (2, .int (Int32.ofInt (en : Int)))]) (st' := [.int (Int32.ofInt (mp : Int)), .ref 166]) 1 rfl ?_
  refine ym_caload (e := t 166 (mp : Int).toNat) hA rfl rfl (by decide) (by omega) (by omega) rfl ?_
  rw [show (mp : Int).toNat = mp by omega]
  refine xr_steps (pc' := 12) (L' := [(3, .int (Int32.ofInt ((mp : Int) + 1))), (0, .ref 165), (1, .int (Int32.ofInt (mp : Int))), (2, .int (Int32.ofInt (en : Int)))]) (st' := [.int (Int32.ofInt 47), .int (Int32.ofInt (t 166 mp))]) 1 rfl ?_
  refine xr_icmp_ne rfl (by omega) (by omega) (fun z31 => ?_) (fun z31 => ?_)
  · refine xr_loc (L := [(3, .int (Int32.ofInt ((mp : Int) + 1))), (0, .ref 165), (1, .int (Int32.ofInt (mp : Int))), (2, .int (Int32.ofInt (en : Int)))]) (show [3, 0, 1, 2].Nodup by decide) ⟨rfl, rfl, rfl, rfl, trivial⟩ ?_
    rcases h with ⟨h1, -⟩ | ⟨h1, h2, h3, h4, h5⟩
    · omega
    · rw [show (mp : Int) + 1 = ((mp + 1 : Nat) : Int) by omega]
      exact mo_247b hA hE ⟨h2, h3, hen⟩ h4 h5 (q - (mp + 1)) (mp + 1) (by omega) (Nat.le_refl _) ⟨_, rfl, rfl, rfl⟩
  · refine xr_loc (L := [(3, .int (Int32.ofInt ((mp : Int) + 1))), (0, .ref 165), (1, .int (Int32.ofInt (mp : Int))), (2, .int (Int32.ofInt (en : Int)))]) (show [3, 0, 1, 2].Nodup by decide) ⟨rfl, rfl, rfl, rfl, trivial⟩ ?_
    rcases h with ⟨h1, h2, h3, h4, h5⟩ | ⟨h1, -⟩
    · rw [show (mp : Int) + 1 = ((mp + 1 : Nat) : Int) by omega]
      exact mo_247a hA hE ⟨h2, h3, hen⟩ h4 h5 (q - 1 - (mp + 1)) (mp + 1) (by omega) (Nat.le_refl _) ⟨_, rfl, rfl, rfl⟩
    · omega
end BH
section CT
variable {w : Value} {d : Nat} {A : xb_H} {s : Nat → Int} {t : Nat → Nat → Int} {a fr tt n : Nat} {last : Int} {Q : xb_R → xb_H → Prop}
theorem mo_249a {q : Nat} (hA : 194 ≤ A.1) (hE : ∀ j : Nat, 0 ≤ t 166 j ∧ t 166 j ≤ 127) (hb : q + n ≤ 3711 ∧ fr + n ≤ 3711) : ∀ (j k : Nat) (sm : Int), k + j = n → (sm = 0 ∨ sm = 1) → (∀ b : Int, ((b = 1 ∧ sm = 1 ∧ ∀ i : Nat, k ≤ i → i < n → t 166 (q + i) = t 166 (fr + i)) ∨ (b = 0 ∧ ¬ (sm = 1 ∧ ∀ i : Nat, k ≤ i → i < n → t 166 (q + i) = t 166 (fr + i)))) → xr_ok (xt_G w) d 249 82 [(7, .int (Int32.ofInt b)), (6, .int (Int32.ofInt (q : Int))), (5, .int (Int32.ofInt last)), (4, .int (Int32.ofInt (n : Int))), (0, .ref 165), (1, .int (Int32.ofInt (a : Int))), (2, .int (Int32.ofInt (fr : Int))), (3, .int (Int32.ofInt (tt : Int)))] [] (ym A s t) Q) → xr_ok (xt_G w) d 249 35 [(8, .int (Int32.ofInt (k : Int))), (7, .int (Int32.ofInt sm)), (6, .int (Int32.ofInt (q : Int))), (5, .int (Int32.ofInt last)), (4, .int (Int32.ofInt (n : Int))), (0, .ref 165), (1, .int (Int32.ofInt (a : Int))), (2, .int (Int32.ofInt (fr : Int))), (3, .int (Int32.ofInt (tt : Int)))] [] (ym A s t) Q := by
  intro j
  induction j using Nat.strongRecOn with
  | _ j ih =>
    intro k sm hk hsm hQ
    have hE1 := hE (q + k)
    have hE2 := hE (fr + k)
    refine xr_steps (pc' := 39) (L' := [(8, .int (Int32.ofInt (k : Int))), (7, .int (Int32.ofInt sm)), (6, .int (Int32.ofInt (q : Int))), (5, .int (Int32.ofInt last)), (4, .int (Int32.ofInt (n : Int))), (0, .ref 165), (1, .int (Int32.ofInt (a : Int))), (2, .int (Int32.ofInt (fr : Int))), (3, .int (Int32.ofInt (tt : Int)))]) (st' := [.int (Int32.ofInt (n : Int)), .int (Int32.ofInt (k : Int))]) 2 rfl ?_
    refine xr_icmp_ge rfl (by omega) (by omega) (fun z31 => ?_) (fun z31 => ?_)
    · refine xr_loc (L := [(7, .int (Int32.ofInt sm)), (6, .int (Int32.ofInt (q : Int))), (5, .int (Int32.ofInt last)), (4, .int (Int32.ofInt (n : Int))), (0, .ref 165), (1, .int (Int32.ofInt (a : Int))), (2, .int (Int32.ofInt (fr : Int))), (3, .int (Int32.ofInt (tt : Int)))]) (show [7, 6, 5, 4, 0, 1, 2, 3].Nodup by decide) ⟨rfl, rfl, rfl, rfl, rfl, rfl, rfl, rfl, trivial⟩ ?_
      refine hQ sm ?_
      rcases hsm with h | h
      · exact Or.inr ⟨h, fun e => absurd e.1 (by omega)⟩
      · exact Or.inl ⟨h, h, fun i h1 h2 => absurd h2 (by omega)⟩
    · refine xr_steps (pc' := 44) (L' := [(8, .int (Int32.ofInt (k : Int))), (7, .int (Int32.ofInt sm)), (6, .int (Int32.ofInt (q : Int))), (5, .int (Int32.ofInt last)), (4, .int (Int32.ofInt (n : Int))), (0, .ref 165), (1, .int (Int32.ofInt (a : Int))), (2, .int (Int32.ofInt (fr : Int))), (3, .int (Int32.ofInt (tt : Int)))]) (st' := [.int (Int32.ofInt sm)]) 1 rfl ?_
      refine xr_if_eq rfl (by omega) (fun z32 => ?_) (fun z32 => ?_)
      · refine xr_steps (pc' := 76) (L' := [(7, .int (Int32.ofInt 0)), (8, .int (Int32.ofInt (k : Int))), (6, .int (Int32.ofInt (q : Int))), (5, .int (Int32.ofInt last)), (4, .int (Int32.ofInt (n : Int))), (0, .ref 165), (1, .int (Int32.ofInt (a : Int))), (2, .int (Int32.ofInt (fr : Int))), (3, .int (Int32.ofInt (tt : Int)))]) (st' := []) 2 rfl ?_
        refine xr_iinc (L' := [(8, .int (Int32.ofInt ((k : Int) + 1))), (7, .int (Int32.ofInt 0)), (6, .int (Int32.ofInt (q : Int))), (5, .int (Int32.ofInt last)), (4, .int (Int32.ofInt (n : Int))), (0, .ref 165), (1, .int (Int32.ofInt (a : Int))), (2, .int (Int32.ofInt (fr : Int))), (3, .int (Int32.ofInt (tt : Int)))]) rfl rfl rfl ?_
        refine xr_steps (pc' := 35) (L' := [(8, .int (Int32.ofInt ((k : Int) + 1))), (7, .int (Int32.ofInt 0)), (6, .int (Int32.ofInt (q : Int))), (5, .int (Int32.ofInt last)), (4, .int (Int32.ofInt (n : Int))), (0, .ref 165), (1, .int (Int32.ofInt (a : Int))), (2, .int (Int32.ofInt (fr : Int))), (3, .int (Int32.ofInt (tt : Int)))]) (st' := []) 1 rfl ?_
        refine xr_loc (L := [(8, .int (Int32.ofInt ((k : Int) + 1))), (7, .int (Int32.ofInt 0)), (6, .int (Int32.ofInt (q : Int))), (5, .int (Int32.ofInt last)), (4, .int (Int32.ofInt (n : Int))), (0, .ref 165), (1, .int (Int32.ofInt (a : Int))), (2, .int (Int32.ofInt (fr : Int))), (3, .int (Int32.ofInt (tt : Int)))]) (show [8, 7, 6, 5, 4, 0, 1, 2, 3].Nodup by decide) ⟨rfl, rfl, rfl, rfl, rfl, rfl, rfl, rfl, rfl, trivial⟩ ?_
        rw [show (k : Int) + 1 = ((k + 1 : Nat) : Int) by omega]
        refine ih (j - 1) (by omega) (k + 1) 0 (by omega) (by omega) (fun b hb => hQ b ?_)
        rcases hb with ⟨e1, e2, e3⟩ | ⟨e1, e2⟩
        · exfalso; omega
        · refine Or.inr ⟨e1, fun h => ?_⟩; have := h.2 k (Nat.le_refl _) (by omega); omega
      · refine xr_steps (pc' := 48) (L' := [(8, .int (Int32.ofInt (k : Int))), (7, .int (Int32.ofInt sm)), (6, .int (Int32.ofInt (q : Int))), (5, .int (Int32.ofInt last)), (4, .int (Int32.ofInt (n : Int))), (0, .ref 165), (1, .int (Int32.ofInt (a : Int))), (2, .int (Int32.ofInt (fr : Int))), (3, .int (Int32.ofInt (tt : Int)))]) (st' := [.ref 165]) 1 rfl ?_
        refine xr_getf (v := .ref 166) rfl (ym_165 hA) rfl ?_
        refine xr_steps (pc' := 55) (L' := [(8, .int (Int32.ofInt (k : Int))), (7, .int (Int32.ofInt sm)), (6, .int (Int32.ofInt (q : Int))), (5, .int (Int32.ofInt last)), (4, .int (Int32.ofInt (n : Int))), (0, .ref 165), (1, .int (Int32.ofInt (a : Int))), (2, .int (Int32.ofInt (fr : Int))), (3, .int (Int32.ofInt (tt : Int)))]) (st' := [.int (Int32.ofInt (k : Int)), .int (Int32.ofInt (q : Int)), .ref 166]) 2 rfl ?_
        refine xr_iadd rfl ?_
        refine ym_caload (e := t 166 ((q : Int) + (k : Int)).toNat) hA rfl rfl (by decide) (by omega) (by omega) rfl ?_
        rw [show ((q : Int) + (k : Int)).toNat = q + k by omega]
        refine xr_steps (pc' := 58) (L' := [(8, .int (Int32.ofInt (k : Int))), (7, .int (Int32.ofInt sm)), (6, .int (Int32.ofInt (q : Int))), (5, .int (Int32.ofInt last)), (4, .int (Int32.ofInt (n : Int))), (0, .ref 165), (1, .int (Int32.ofInt (a : Int))), (2, .int (Int32.ofInt (fr : Int))), (3, .int (Int32.ofInt (tt : Int)))]) (st' := [.ref 165, .int (Int32.ofInt (t 166 (q + k)))]) 1 rfl ?_
        refine xr_getf (v := .ref 166) rfl (ym_165 hA) rfl ?_
        refine xr_steps (pc' := 64) (L' := [(8, .int (Int32.ofInt (k : Int))), (7, .int (Int32.ofInt sm)), (6, .int (Int32.ofInt (q : Int))), (5, .int (Int32.ofInt last)), (4, .int (Int32.ofInt (n : Int))), (0, .ref 165), (1, .int (Int32.ofInt (a : Int))), (2, .int (Int32.ofInt (fr : Int))), (3, .int (Int32.ofInt (tt : Int)))]) (st' := [.int (Int32.ofInt (k : Int)), .int (Int32.ofInt (fr : Int)), .ref 166, .int (Int32.ofInt (t 166 (q + k)))]) 2 rfl ?_
        refine xr_iadd rfl ?_
        refine ym_caload (e := t 166 ((fr : Int) + (k : Int)).toNat) hA rfl rfl (by decide) (by omega) (by omega) rfl ?_
        rw [show ((fr : Int) + (k : Int)).toNat = fr + k by omega]
        refine xr_icmp_ne rfl (by omega) (by omega) (fun z33 => ?_) (fun z33 => ?_)
        · refine xr_steps (pc' := 76) (L' := [(7, .int (Int32.ofInt 0)), (8, .int (Int32.ofInt (k : Int))), (6, .int (Int32.ofInt (q : Int))), (5, .int (Int32.ofInt last)), (4, .int (Int32.ofInt (n : Int))), (0, .ref 165), (1, .int (Int32.ofInt (a : Int))), (2, .int (Int32.ofInt (fr : Int))), (3, .int (Int32.ofInt (tt : Int)))]) (st' := []) 2 rfl ?_
          refine xr_iinc (L' := [(8, .int (Int32.ofInt ((k : Int) + 1))), (7, .int (Int32.ofInt 0)), (6, .int (Int32.ofInt (q : Int))), (5, .int (Int32.ofInt last)), (4, .int (Int32.ofInt (n : Int))), (0, .ref 165), (1, .int (Int32.ofInt (a : Int))), (2, .int (Int32.ofInt (fr : Int))), (3, .int (Int32.ofInt (tt : Int)))]) rfl rfl rfl ?_
          refine xr_steps (pc' := 35) (L' := [(8, .int (Int32.ofInt ((k : Int) + 1))), (7, .int (Int32.ofInt 0)), (6, .int (Int32.ofInt (q : Int))), (5, .int (Int32.ofInt last)), (4, .int (Int32.ofInt (n : Int))), (0, .ref 165), (1, .int (Int32.ofInt (a : Int))), (2, .int (Int32.ofInt (fr : Int))), (3, .int (Int32.ofInt (tt : Int)))]) (st' := []) 1 rfl ?_
          refine xr_loc (L := [(8, .int (Int32.ofInt ((k : Int) + 1))), (7, .int (Int32.ofInt 0)), (6, .int (Int32.ofInt (q : Int))), (5, .int (Int32.ofInt last)), (4, .int (Int32.ofInt (n : Int))), (0, .ref 165), (1, .int (Int32.ofInt (a : Int))), (2, .int (Int32.ofInt (fr : Int))), (3, .int (Int32.ofInt (tt : Int)))]) (show [8, 7, 6, 5, 4, 0, 1, 2, 3].Nodup by decide) ⟨rfl, rfl, rfl, rfl, rfl, rfl, rfl, rfl, rfl, trivial⟩ ?_
          rw [show (k : Int) + 1 = ((k + 1 : Nat) : Int) by omega]
          refine ih (j - 1) (by omega) (k + 1) 0 (by omega) (by omega) (fun b hb => hQ b ?_)
          rcases hb with ⟨e1, e2, e3⟩ | ⟨e1, e2⟩
          · exfalso; omega
          · refine Or.inr ⟨e1, fun h => ?_⟩; have := h.2 k (Nat.le_refl _) (by omega); omega
        · refine xr_steps (pc' := 76) (L' := [(7, .int (Int32.ofInt 1)), (8, .int (Int32.ofInt (k : Int))), (6, .int (Int32.ofInt (q : Int))), (5, .int (Int32.ofInt last)), (4, .int (Int32.ofInt (n : Int))), (0, .ref 165), (1, .int (Int32.ofInt (a : Int))), (2, .int (Int32.ofInt (fr : Int))), (3, .int (Int32.ofInt (tt : Int)))]) (st' := []) 3 rfl ?_
          refine xr_iinc (L' := [(8, .int (Int32.ofInt ((k : Int) + 1))), (7, .int (Int32.ofInt 1)), (6, .int (Int32.ofInt (q : Int))), (5, .int (Int32.ofInt last)), (4, .int (Int32.ofInt (n : Int))), (0, .ref 165), (1, .int (Int32.ofInt (a : Int))), (2, .int (Int32.ofInt (fr : Int))), (3, .int (Int32.ofInt (tt : Int)))]) rfl rfl rfl ?_
          refine xr_steps (pc' := 35) (L' := [(8, .int (Int32.ofInt ((k : Int) + 1))), (7, .int (Int32.ofInt 1)), (6, .int (Int32.ofInt (q : Int))), (5, .int (Int32.ofInt last)), (4, .int (Int32.ofInt (n : Int))), (0, .ref 165), (1, .int (Int32.ofInt (a : Int))), (2, .int (Int32.ofInt (fr : Int))), (3, .int (Int32.ofInt (tt : Int)))]) (st' := []) 1 rfl ?_
          refine xr_loc (L := [(8, .int (Int32.ofInt ((k : Int) + 1))), (7, .int (Int32.ofInt 1)), (6, .int (Int32.ofInt (q : Int))), (5, .int (Int32.ofInt last)), (4, .int (Int32.ofInt (n : Int))), (0, .ref 165), (1, .int (Int32.ofInt (a : Int))), (2, .int (Int32.ofInt (fr : Int))), (3, .int (Int32.ofInt (tt : Int)))]) (show [8, 7, 6, 5, 4, 0, 1, 2, 3].Nodup by decide) ⟨rfl, rfl, rfl, rfl, rfl, rfl, rfl, rfl, rfl, trivial⟩ ?_
          rw [show (k : Int) + 1 = ((k + 1 : Nat) : Int) by omega]
          refine ih (j - 1) (by omega) (k + 1) 1 (by omega) (by omega) (fun b hb => hQ b ?_)
          rcases hb with ⟨e1, e2, e3⟩ | ⟨e1, e2⟩
          · exact Or.inl ⟨e1, by omega, fun i h1 h2 => by by_cases ei : i = k; rw [ei]; omega; exact e3 i (by omega) h2⟩
          · exact Or.inr ⟨e1, fun h => e2 ⟨by omega, fun i h1 h2 => h.2 i (by omega) h2⟩⟩
theorem mo_249b (hA : 194 ≤ A.1) (hE : ∀ j : Nat, 0 ≤ t 166 j ∧ t 166 j ≤ 127) (hb : last + n ≤ 3711 ∧ fr + n ≤ 3711) (hl : -1000 ≤ last) : ∀ (j q : Nat), last < q + j → q ≤ 5000 → (∀ b : Int, ((b = 1 ∧ ∃ x : Nat, q ≤ x ∧ (x : Int) ≤ last ∧ ∀ i : Nat, i < n → t 166 (x + i) = t 166 (fr + i)) ∨ (b = 0 ∧ ¬ ∃ x : Nat, q ≤ x ∧ (x : Int) ≤ last ∧ ∀ i : Nat, i < n → t 166 (x + i) = t 166 (fr + i))) → Q (.inl (some (.int (Int32.ofInt b)))) (ym A s t)) → xr_ok (xt_G w) d 249 22 [(6, .int (Int32.ofInt (q : Int))), (5, .int (Int32.ofInt last)), (4, .int (Int32.ofInt (n : Int))), (0, .ref 165), (1, .int (Int32.ofInt (a : Int))), (2, .int (Int32.ofInt (fr : Int))), (3, .int (Int32.ofInt (tt : Int)))] [] (ym A s t) Q := by
  intro j
  induction j using Nat.strongRecOn with
  | _ j ih =>
    intro q hk hq5 hQ
    refine xr_steps (pc' := 26) (L' := [(6, .int (Int32.ofInt (q : Int))), (5, .int (Int32.ofInt last)), (4, .int (Int32.ofInt (n : Int))), (0, .ref 165), (1, .int (Int32.ofInt (a : Int))), (2, .int (Int32.ofInt (fr : Int))), (3, .int (Int32.ofInt (tt : Int)))]) (st' := [.int (Int32.ofInt last), .int (Int32.ofInt (q : Int))]) 2 rfl ?_
    refine xr_icmp_gt rfl (by omega) (by omega) (fun z31 => ?_) (fun z31 => ?_)
    · refine xr_steps (pc' := 96) (L' := [(6, .int (Int32.ofInt (q : Int))), (5, .int (Int32.ofInt last)), (4, .int (Int32.ofInt (n : Int))), (0, .ref 165), (1, .int (Int32.ofInt (a : Int))), (2, .int (Int32.ofInt (fr : Int))), (3, .int (Int32.ofInt (tt : Int)))]) (st' := [.int (Int32.ofInt 0)]) 1 rfl ?_
      exact xr_retZ rfl rfl (by omega) (hQ 0 (Or.inr ⟨rfl, fun ⟨x, h1, h2, h3⟩ => by omega⟩))
    · refine xr_steps (pc' := 35) (L' := [(8, .int (Int32.ofInt 0)), (7, .int (Int32.ofInt 1)), (6, .int (Int32.ofInt (q : Int))), (5, .int (Int32.ofInt last)), (4, .int (Int32.ofInt (n : Int))), (0, .ref 165), (1, .int (Int32.ofInt (a : Int))), (2, .int (Int32.ofInt (fr : Int))), (3, .int (Int32.ofInt (tt : Int)))]) (st' := []) 4 rfl ?_
      refine xr_loc (L := [(8, .int (Int32.ofInt 0)), (7, .int (Int32.ofInt 1)), (6, .int (Int32.ofInt (q : Int))), (5, .int (Int32.ofInt last)), (4, .int (Int32.ofInt (n : Int))), (0, .ref 165), (1, .int (Int32.ofInt (a : Int))), (2, .int (Int32.ofInt (fr : Int))), (3, .int (Int32.ofInt (tt : Int)))]) (show [8, 7, 6, 5, 4, 0, 1, 2, 3].Nodup by decide) ⟨rfl, rfl, rfl, rfl, rfl, rfl, rfl, rfl, rfl, trivial⟩ ?_
      refine mo_249a (q := q) (last := last) (a := a) (tt := tt) hA hE (by omega) n 0 1 (by omega) (by omega) (fun b hb => ?_)
      have hb01 : b = 0 ∨ b = 1 := by omega
      refine xr_steps (pc' := 84) (L' := [(7, .int (Int32.ofInt b)), (6, .int (Int32.ofInt (q : Int))), (5, .int (Int32.ofInt last)), (4, .int (Int32.ofInt (n : Int))), (0, .ref 165), (1, .int (Int32.ofInt (a : Int))), (2, .int (Int32.ofInt (fr : Int))), (3, .int (Int32.ofInt (tt : Int)))]) (st' := [.int (Int32.ofInt b)]) 1 rfl ?_
      refine xr_if_eq rfl (by omega) (fun z32 => ?_) (fun z32 => ?_)
      · refine xr_iinc (L' := [(6, .int (Int32.ofInt ((q : Int) + 1))), (7, .int (Int32.ofInt b)), (5, .int (Int32.ofInt last)), (4, .int (Int32.ofInt (n : Int))), (0, .ref 165), (1, .int (Int32.ofInt (a : Int))), (2, .int (Int32.ofInt (fr : Int))), (3, .int (Int32.ofInt (tt : Int)))]) rfl rfl rfl ?_
        refine xr_steps (pc' := 22) (L' := [(6, .int (Int32.ofInt ((q : Int) + 1))), (7, .int (Int32.ofInt b)), (5, .int (Int32.ofInt last)), (4, .int (Int32.ofInt (n : Int))), (0, .ref 165), (1, .int (Int32.ofInt (a : Int))), (2, .int (Int32.ofInt (fr : Int))), (3, .int (Int32.ofInt (tt : Int)))]) (st' := []) 1 rfl ?_
        refine xr_loc (L := [(6, .int (Int32.ofInt ((q : Int) + 1))), (5, .int (Int32.ofInt last)), (4, .int (Int32.ofInt (n : Int))), (0, .ref 165), (1, .int (Int32.ofInt (a : Int))), (2, .int (Int32.ofInt (fr : Int))), (3, .int (Int32.ofInt (tt : Int)))]) (show [6, 5, 4, 0, 1, 2, 3].Nodup by decide) ⟨rfl, rfl, rfl, rfl, rfl, rfl, rfl, trivial⟩ ?_
        rw [show (q : Int) + 1 = ((q + 1 : Nat) : Int) by omega]
        refine ih (j - 1) (by omega) (q + 1) (by omega) (by omega) (fun c hc => hQ c ?_)
        rcases hc with ⟨e1, x, e2, e3, e4⟩ | ⟨e1, e2⟩
        · exact Or.inl ⟨e1, x, by omega, e3, e4⟩
        · refine Or.inr ⟨e1, fun ⟨x, h1, h2, h3⟩ => ?_⟩
          by_cases ex : x = q
          · rcases hb with hb | hb
            · omega
            · exact hb.2 ⟨rfl, fun i _ h5 => by rw [← ex]; exact h3 i h5⟩
          · exact e2 ⟨x, by omega, h2, h3⟩
      · refine xr_steps (pc' := 88) (L' := [(7, .int (Int32.ofInt b)), (6, .int (Int32.ofInt (q : Int))), (5, .int (Int32.ofInt last)), (4, .int (Int32.ofInt (n : Int))), (0, .ref 165), (1, .int (Int32.ofInt (a : Int))), (2, .int (Int32.ofInt (fr : Int))), (3, .int (Int32.ofInt (tt : Int)))]) (st' := [.int (Int32.ofInt 1)]) 1 rfl ?_
        refine xr_retZ rfl rfl (by omega) (hQ 1 (Or.inl ⟨rfl, q, Nat.le_refl _, by omega, fun i hi => ?_⟩))
        rcases hb with hb | hb
        · exact hb.2.2 i (Nat.zero_le _) hi
        · omega
theorem mo_249 {m z : Nat} {u : xv m} (hA : 194 ≤ A.1) (hE : ∀ j : Nat, 0 ≤ t 166 j ∧ t 166 j ≤ 127) (hm : m ≤ 6) (hu : xV (t 166) m a u z) (hz : z < 3711) (hf : fr + n ≤ 3711) (hn : n ≤ 100) : xr_ok (xt_G w) (d + 1 + 1) 249 0 [(0, .ref 165), (1, .int (Int32.ofInt (a : Int))), (2, .int (Int32.ofInt (fr : Int))), (3, .int (Int32.ofInt ((fr + n : Nat) : Int)))] [] (ym A s t) (fun o A' => ∃ v0, o = .inl v0 ∧ ∃ b : Int, (v0 = some (.int (Int32.ofInt b)) ∧ A' = ym A s t) ∧ ((b = 1 ∧ ∃ x : Nat, (a + 1) ≤ x ∧ (x : Int) ≤ ((z : Int) - 1 - (n : Int)) ∧ ∀ i : Nat, i < n → t 166 (x + i) = t 166 (fr + i)) ∨ (b = 0 ∧ ¬ ∃ x : Nat, (a + 1) ≤ x ∧ (x : Int) ≤ ((z : Int) - 1 - (n : Int)) ∧ ∀ i : Nat, i < n → t 166 (x + i) = t 166 (fr + i)))) := by
  have hlt := xV_lt hu
  refine xr_steps (pc' := 2) (L' := [(0, .ref 165), (1, .int (Int32.ofInt (a : Int))), (2, .int (Int32.ofInt (fr : Int))), (3, .int (Int32.ofInt ((fr + n : Nat) : Int)))]) (st' := [.int (Int32.ofInt (fr : Int)), .int (Int32.ofInt ((fr + n : Nat) : Int))]) 2 rfl ?_
  refine xr_isub rfl ?_
  refine xr_steps (pc' := 7) (L' := [(4, .int (Int32.ofInt (((fr + n : Nat) : Int) - (fr : Int)))), (0, .ref 165), (1, .int (Int32.ofInt (a : Int))), (2, .int (Int32.ofInt (fr : Int))), (3, .int (Int32.ofInt ((fr + n : Nat) : Int)))]) (st' := [.int (Int32.ofInt (a : Int)), .ref 165]) 3 rfl ?_
  refine xr_call (q := (.invokevirtual 128, 3, 219, 2)) (av := [.ref 165, .int (Int32.ofInt (a : Int))]) (rest := []) rfl rfl (by decide) rfl (ym_rcv hA rfl) (Nat.le_of_ble_eq_true rfl) (mo_219 (q := z) hA hE hm hu (by omega)) ?_
  rintro _ _ ⟨rfl, eA⟩
  rw [eA]
  clear eA
  refine xr_steps (pc' := 11) (L' := [(4, .int (Int32.ofInt (((fr + n : Nat) : Int) - (fr : Int)))), (0, .ref 165), (1, .int (Int32.ofInt (a : Int))), (2, .int (Int32.ofInt (fr : Int))), (3, .int (Int32.ofInt ((fr + n : Nat) : Int)))]) (st' := [.int (Int32.ofInt 1), .int (Int32.ofInt (z : Int))]) 1 rfl ?_
  refine xr_isub rfl ?_
  refine xr_steps (pc' := 14) (L' := [(4, .int (Int32.ofInt (((fr + n : Nat) : Int) - (fr : Int)))), (0, .ref 165), (1, .int (Int32.ofInt (a : Int))), (2, .int (Int32.ofInt (fr : Int))), (3, .int (Int32.ofInt ((fr + n : Nat) : Int)))]) (st' := [.int (Int32.ofInt (((fr + n : Nat) : Int) - (fr : Int))), .int (Int32.ofInt ((z : Int) - 1))]) 1 rfl ?_
  refine xr_isub rfl ?_
  refine xr_steps (pc' := 19) (L' := [(5, .int (Int32.ofInt (((z : Int) - 1) - (((fr + n : Nat) : Int) - (fr : Int))))), (4, .int (Int32.ofInt (((fr + n : Nat) : Int) - (fr : Int)))), (0, .ref 165), (1, .int (Int32.ofInt (a : Int))), (2, .int (Int32.ofInt (fr : Int))), (3, .int (Int32.ofInt ((fr + n : Nat) : Int)))]) (st' := [.int (Int32.ofInt 1), .int (Int32.ofInt (a : Int))]) 3 rfl ?_
  refine xr_iadd rfl ?_
  refine xr_steps (pc' := 22) (L' := [(6, .int (Int32.ofInt ((a : Int) + 1))), (5, .int (Int32.ofInt (((z : Int) - 1) - (((fr + n : Nat) : Int) - (fr : Int))))), (4, .int (Int32.ofInt (((fr + n : Nat) : Int) - (fr : Int)))), (0, .ref 165), (1, .int (Int32.ofInt (a : Int))), (2, .int (Int32.ofInt (fr : Int))), (3, .int (Int32.ofInt ((fr + n : Nat) : Int)))]) (st' := []) 1 rfl ?_
  refine xr_loc (L := [(6, .int (Int32.ofInt ((a : Int) + 1))), (5, .int (Int32.ofInt (((z : Int) - 1) - (((fr + n : Nat) : Int) - (fr : Int))))), (4, .int (Int32.ofInt (((fr + n : Nat) : Int) - (fr : Int)))), (0, .ref 165), (1, .int (Int32.ofInt (a : Int))), (2, .int (Int32.ofInt (fr : Int))), (3, .int (Int32.ofInt ((fr + n : Nat) : Int)))]) (show [6, 5, 4, 0, 1, 2, 3].Nodup by decide) ⟨rfl, rfl, rfl, rfl, rfl, rfl, rfl, trivial⟩ ?_
  rw [show (a : Int) + 1 = ((a + 1 : Nat) : Int) by omega, show (fr + n : Nat) - (fr : Int) = (n : Int) by omega]
  exact mo_249b hA hE (by omega) (by omega) 5000 (a + 1) (by omega) (by omega) (fun b hb => ⟨_, rfl, b, ⟨rfl, rfl⟩, hb⟩)
end CT
