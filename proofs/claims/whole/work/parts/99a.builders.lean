/-! Builders, with what they take; numbers are appended -/
section RN
variable {G : xb_G} {d y pc : Nat} {L : xb_L} {st : List Value} {A : xb_H} {Q : xb_R → xb_H → Prop}
theorem xr_ineg {a : Int} (hq : xb_gP G y pc = some (.ineg, 1, 0, 0)) (kk : xr_ok G d y (pc + 1) L (.int (Int32.ofInt (-a)) :: st) A Q) : xr_ok G d y pc L (.int (Int32.ofInt a) :: st) A Q := by
  refine xr_pure (q := (.ineg, 1, 0, 0)) (pc' := pc + 1) (L' := L) (st' := .int (Int32.ofInt (-a)) :: st) (A' := A) hq rfl ?_ kk
  rw [Int32.ofInt_neg]
  rfl
end RN
theorem xr_narB2 {v : Int} (h : 0 ≤ v ∧ v ≤ 127) : vp_nar .byte (Int32.ofInt v) = Int32.ofInt v := by
  have key : ∀ n : Fin 128, vp_nar .byte (Int32.ofInt (n.val : Int)) = Int32.ofInt (n.val : Int) := by decide +kernel
  have := key ⟨v.toNat, by omega⟩
  have e : ((v.toNat : Nat) : Int) = v := by omega
  simp only [e] at this
  exact this
theorem mb_17h {w : Value} {d : Nat} {A : xb_H} {a v n c : Nat} {m : Int32} {f : Nat → Int} {k : Int} (hb : yb A a v n m c f) (hk : (n : Int) < k ∧ k ≤ 300) :
    xr_ok (xt_G w) (d + 1 + 1 + 1) 17 0 [(0, .ref a), (1, .int (Int32.ofInt k))] [] A (fun o A' => ∃ r, o = .inl r ∧ r = none ∧ ∃ (n' : Nat) (f' : Nat → Int), yb A' a A.1 n' m c f' ∧ k ≤ n' ∧ n' ≤ 2 * k.toNat + 2 ∧ (∀ j : Nat, j < n → f' j = f j) ∧ yfr A A' [a] 1 n' ∧ 2 * n + 2 ≤ n') := by
  obtain ⟨h, hv, ⟨hc, hn⟩, ⟨ha, hvz⟩, hf⟩ := hb
  have hA : 64 ≤ A.1 := by have := xb_get_lt h; omega
  have hne : ¬ a = A.1 := by have := xb_get_lt h; omega
  refine xr_steps (pc' := 1) 1 rfl ?_
  refine xr_getf (v := .ref v) rfl h rfl ?_
  refine xr_alen rfl hv ?_
  refine xr_steps (pc' := 6) 1 rfl ?_
  refine xr_getf (v := .int 0) rfl h rfl ?_
  refine xr_pure (pc' := 10) (L' := [(0, .ref a), (1, .int (Int32.ofInt k))]) (st' := [.int (Int32.ofInt n)]) (A' := A) (q := (.ishr, 1, 0, 0)) rfl rfl ?_ ?_
  · show some (10, _, [Value.int (Int32.ofInt n >>> ((0 : Int32) &&& 31))], A) = _
    rw [xr_shr0]
  refine xr_steps (pc' := 13) (L' := [(2, .int (Int32.ofInt n)), (0, .ref a), (1, .int (Int32.ofInt k))]) (st' := [.int (Int32.ofInt n), .int (Int32.ofInt k)]) 3 rfl ?_
  refine xr_isub rfl ?_
  refine xr_if_le rfl (by omega) (fun hh => absurd hh (by omega)) (fun _ => ?_)
  refine xr_steps (pc' := 19) (L' := [(2, .int (Int32.ofInt n)), (0, .ref a), (1, .int (Int32.ofInt k))]) (st' := [.ref a, .ref a]) 2 rfl ?_
  refine xr_getf (v := .ref v) rfl h rfl ?_
  refine xr_steps (pc' := 24) (L' := [(2, .int (Int32.ofInt n)), (0, .ref a), (1, .int (Int32.ofInt k))]) (st' := [.int (Int32.ofInt k), .ref a, .ref v, .ref a]) 2 rfl ?_
  refine xr_call (q := (.invokevirtual 104, 3, 18, 2)) (av := [.ref a, .int (Int32.ofInt k)]) (rest := [.ref v, .ref a]) rfl rfl (by decide) rfl (xr_rcv rfl h) (Nat.le_of_ble_eq_true rfl) (mm_18 h rfl rfl hv (by omega) (by omega)) ?_
  rintro _ _ ⟨rfl, eA⟩
  rw [eA]
  clear eA
  obtain ⟨k2, hk2, hk3⟩ : ∃ k2 : Int, k2 = (n : Int) + max (k - n) ((n : Int) + 2) ∧ (k ≤ k2 ∧ k2 ≤ 2 * k + 2 ∧ 2 * (n : Int) + 2 ≤ k2) := ⟨_, rfl, by omega⟩
  rw [← hk2]
  clear hk2
  refine xr_steps (pc' := 28) (L' := [(2, .int (Int32.ofInt n)), (0, .ref a), (1, .int (Int32.ofInt k))]) (st' := [.ref a, .int (Int32.ofInt k2), .ref v, .ref a]) 1 rfl ?_
  refine xr_getf (v := .int 0) rfl h rfl ?_
  refine xr_pure (pc' := 32) (L' := [(2, .int (Int32.ofInt n)), (0, .ref a), (1, .int (Int32.ofInt k))]) (st' := [.int (Int32.ofInt k2), .ref v, .ref a]) (A' := A) (q := (.ishl, 1, 0, 0)) rfl rfl ?_ ?_
  · show some (32, _, [Value.int (Int32.ofInt k2 <<< ((0 : Int32) &&& 31)), .ref v, .ref a], A) = _
    rw [xr_shl0]
  refine xr_call (q := (.invokestatic 108, 3, 22, 2)) (av := [.ref v, .int (Int32.ofInt k2)]) (rest := [.ref a]) rfl rfl (by decide) rfl rfl (Nat.le_of_ble_eq_true rfl) (mb_22 hv (by omega) (by omega) hf hA) ?_
  rintro _ A2 ⟨rfl, e2⟩
  obtain ⟨A1, e1⟩ : ∃ A1, xb_new A k2.toNat (.inl (.byte, k2.toNat, .inl fun _ => Int32.ofInt 0)) = A1 := ⟨_, rfl⟩
  rw [e1] at e2
  have n1 : A1.1 = A.1 + 1 := by rw [← e1]; rfl
  have g1 := xr_mv e1 xb_get_new_same
  have g2 := xr_mv e2.symm (xb_get_set_same (o := .inl (.byte, k2.toNat, .inl fun j => Int32.ofInt (va_cpy f (fun _ => 0) 0 0 n j))) g1)
  have g3 := xr_mv e2.symm (xb_get_set_ne (o := .inl (.byte, k2.toNat, .inl fun j => Int32.ofInt (va_cpy f (fun _ => 0) 0 0 n j))) g1 (xr_mv e1 (xb_get_new_old h)) hne)
  have f1 : yfr A A1 [a] 1 k2.toNat := by rw [← e1]; exact yfr_new _ (Nat.le_refl _) (by omega)
  have f2 : yfr A1 A2 [A.1] 0 0 := by rw [e2]; exact yfr_set g1 (List.mem_singleton.mpr rfl) 0 0
  obtain ⟨A3, e3⟩ : ∃ A3, xb_set A2 a (.inr (11, [.ref A.1, .int 0, .int m, .int (Int32.ofInt c)])) = A3 := ⟨_, rfl⟩
  refine xr_putf (t := .array (.byte)) rfl g3 ha (Nat.le_of_ble_eq_true rfl) rfl (xr_fitR _ rfl) (xr_heap e3 ?_)
  have f3 : yfr A2 A3 [a] 0 0 := by rw [← e3]; exact yfr_set g3 (List.mem_singleton.mpr rfl) 0 0
  refine xr_retN rfl rfl ⟨_, rfl, rfl, k2.toNat, va_cpy f (fun _ => 0) 0 0 n, ⟨xr_mv e3 (xb_get_set_same g3), xr_mv e3 (xb_get_set_ne g3 g2 (fun z => hne z.symm)), ⟨by omega, by omega⟩, ⟨ha, hA⟩, ?_⟩, by omega, by omega, ?_, ?_, by omega⟩
  · intro j hj
    unfold va_cpy
    split
    · have e : 0 + (j - 0) = j := by omega
      rw [e]
      exact hf j (by omega)
    · show 0 ≤ (0 : Int) ∧ (0 : Int) ≤ 127
      omega
  · intro j hj
    unfold va_cpy
    rw [if_pos (by omega)]
    congr 1
    omega
  · refine yfr_mono (yfr_trans (yfr_trans f1 f2 (fun x hx => Or.inr ?_)) f3 (fun x hx => Or.inl hx)) (fun x hx => Or.inl hx) (by omega) (by omega)
    rw [List.mem_singleton] at hx
    omega
theorem mb_17u {w : Value} {d : Nat} {A : xb_H} {a v n c : Nat} {m : Int32} {f : Nat → Int} {k : Int} (hb : yb A a v n m c f) (hk : 0 ≤ k ∧ k ≤ 300) (h16 : 16 ≤ n) :
    xr_ok (xt_G w) (d + 1 + 1 + 1) 17 0 [(0, .ref a), (1, .int (Int32.ofInt k))] [] A (fun o A' => ∃ r, o = .inl r ∧ r = none ∧ ∃ (v' n' : Nat) (f' : Nat → Int), yb A' a v' n' m c f' ∧ k ≤ n' ∧ (n' = n ∨ n' ≤ 2 * k.toNat + 2) ∧ (∀ j : Nat, j < n → f' j = f j) ∧ yfr A A' [a] ((n' - n) / 18) (2 * (n' - n)) ∧ (v' = v ∨ v' = A.1) ∧ n ≤ n') := by
  by_cases hkn : k ≤ n
  · have hb' := hb
    obtain ⟨h, hv, ⟨hc, hn⟩, ⟨ha, hvz⟩, hf⟩ := hb'
    refine xr_conseq (mm_17 h rfl rfl hv (by omega) (by omega)) ?_
    rintro o A' ⟨r, h1, h2, h3⟩
    rw [h3]
    exact ⟨r, h1, h2, v, n, f, hb, by omega, Or.inl rfl, fun _ _ => rfl, yfr_refl _ _ _ _, Or.inl rfl, Nat.le_refl _⟩
  · refine xr_conseq (mb_17h hb (by omega)) ?_
    rintro o A' ⟨r, h1, h2, n', f', h3, h4, h5, h6, h7, h8⟩
    exact ⟨r, h1, h2, A.1, n', f', h3, h4, Or.inr h5, h6, yfr_mono h7 (fun x hx => Or.inl hx) (by omega) (by omega), Or.inr rfl, by omega⟩
theorem mb_16u {w : Value} {d : Nat} {A : xb_H} {a v n c : Nat} {m : Int32} {f : Nat → Int} {ch : Int} (hb : yb A a v n m c f) (hc1 : c ≤ 200) (hch : 0 ≤ ch ∧ ch ≤ 127) (h16 : 16 ≤ n) :
    xr_ok (xt_G w) (d + 1 + 1 + 1 + 1) 16 0 [(0, .ref a), (1, .int (Int32.ofInt ch))] [] A (fun o A' => ∃ r, o = .inl r ∧ r = some (.ref a) ∧ ∃ (v' n' : Nat) (f' : Nat → Int), yb A' a v' n' m (c + 1) f' ∧ (n' = n ∨ n' ≤ 2 * c + 4) ∧ (∀ j : Nat, j < c → f' j = f j) ∧ f' c = ch ∧ yfr A A' [a, v] ((n' - n) / 18) (2 * (n' - n)) ∧ (v' = v ∨ v' = A.1) ∧ n ≤ n') := by
  have hb' := hb
  obtain ⟨h, hv, ⟨hc, hn⟩, ⟨ha, hvz⟩, hf⟩ := hb'
  refine xr_steps (pc' := 2) 2 rfl ?_
  refine xr_getf (v := .int (Int32.ofInt c)) rfl h rfl ?_
  refine xr_steps (pc' := 6) (L' := [(0, .ref a), (1, .int (Int32.ofInt ch))]) (st' := [.int (Int32.ofInt 1), .int (Int32.ofInt c), .ref a]) 1 rfl ?_
  refine xr_iadd rfl ?_
  refine xr_call (q := (.invokevirtual 100, 3, 17, 2)) (av := [.ref a, .int (Int32.ofInt ((c : Int) + 1))]) (rest := []) rfl rfl (by decide) rfl (xr_rcv rfl h) (Nat.le_of_ble_eq_true rfl) (mb_17u hb (by omega) h16) ?_
  rintro _ A1 ⟨rfl, v1, n1, f1, hb1, hk1, hn1, hf1, fr1, hv1, hnn⟩
  have hne1 : ¬ v1 = a := by
    intro e
    obtain ⟨q1, q2, -⟩ := hb1
    rw [e, q1] at q2
    cases q2
  obtain ⟨g, gv, ⟨gc, gn⟩, ⟨-, gvz⟩, gf⟩ := hb1
  refine xr_steps (pc' := 11) (L' := [(0, .ref a), (1, .int (Int32.ofInt ch))]) (st' := [.ref a]) 1 rfl ?_
  refine xr_call (q := (.invokevirtual 83, 3, 24, 1)) (av := [.ref a]) (rest := []) rfl rfl (by decide) rfl (xr_rcv rfl g) (Nat.le_of_ble_eq_true rfl) (mm_24 g rfl) ?_
  rintro _ _ ⟨rfl, eA⟩
  rw [eA]
  clear eA
  refine xr_steps (pc' := 18) (L' := [(0, .ref a), (1, .int (Int32.ofInt ch))]) (st' := [.int (Int32.ofInt ch)]) 2 rfl ?_
  refine xr_call (q := (.invokestatic 191, 3, 25, 1)) (av := [.int (Int32.ofInt ch)]) (rest := []) rfl rfl (by decide) rfl rfl (Nat.le_of_ble_eq_true rfl) (mm_25 (by omega)) ?_
  rintro _ _ ⟨rfl, eA⟩
  rw [eA]
  clear eA
  refine xr_steps (pc' := 25) (L' := [(0, .ref a), (1, .int (Int32.ofInt ch))]) (st' := [.ref a]) 2 rfl ?_
  refine xr_getf (v := .ref v1) rfl g rfl ?_
  refine xr_steps (pc' := 30) (L' := [(0, .ref a), (1, .int (Int32.ofInt ch))]) (st' := [.ref a, .ref a, .ref v1]) 2 rfl ?_
  refine xr_getf (v := .int (Int32.ofInt c)) rfl g rfl ?_
  refine xr_steps (pc' := 35) (L' := [(0, .ref a), (1, .int (Int32.ofInt ch))]) (st' := [.int (Int32.ofInt 1), .int (Int32.ofInt c), .ref a, .int (Int32.ofInt c), .ref v1]) 2 rfl ?_
  refine xr_iadd rfl ?_
  have ec : (c : Int) + 1 = ((c + 1 : Nat) : Int) := by omega
  rw [ec]
  obtain ⟨A2, e2⟩ : ∃ A2, xb_set A1 a (.inr (11, [.ref v1, .int 0, .int m, .int (Int32.ofInt ((c + 1 : Nat) : Int))])) = A2 := ⟨_, rfl⟩
  refine xr_putf (t := .int) rfl g ha (Nat.le_of_ble_eq_true rfl) rfl (xr_fitI _) (xr_heap e2 ?_)
  have g2 := xr_mv e2 (xb_get_set_same g)
  have gv2 := xr_mv e2 (xb_get_set_ne g gv hne1)
  have fr2 : yfr A1 A2 [a] 0 0 := by rw [← e2]; exact yfr_set g (List.mem_singleton.mpr rfl) 0 0
  refine xr_steps (pc' := 41) (L' := [(0, .ref a), (1, .int (Int32.ofInt ch))]) (st' := [.int ((Int32.ofInt ch).toInt8.toInt32), .int (Int32.ofInt c), .ref v1]) 2 rfl ?_
  obtain ⟨A3, e3⟩ : ∃ A3, xb_set A2 v1 (.inl (.byte, n1, .inl fun j => Int32.ofInt (va_up f1 c ch j))) = A3 := ⟨_, rfl⟩
  refine xr_bastore rfl gv2 gvz (by omega) (by omega) (by omega) (xr_heap ?_ (xr_heap e3 ?_))
  · rw [xr_narB hch, xr_updN]
    rfl
  have fr3 : yfr A2 A3 [v1] 0 0 := by rw [← e3]; exact yfr_set gv2 (List.mem_singleton.mpr rfl) 0 0
  refine xr_steps (pc' := 76) (L' := [(0, .ref a), (1, .int (Int32.ofInt ch))]) (st' := [.ref a]) 2 rfl ?_
  refine xr_retR rfl rfl ⟨_, rfl, rfl, v1, n1, va_up f1 c ch, ⟨xr_mv e3 (xb_get_set_ne gv2 g2 (fun z => hne1 z.symm)), xr_mv e3 (xb_get_set_same gv2), ⟨by omega, gn⟩, ⟨ha, gvz⟩, ?_⟩, by omega, ?_, ya_up_same _ _ _, ?_, hv1, hnn⟩
  · intro j hj
    unfold va_up
    split
    · exact hch
    · exact gf j hj
  · intro j hj
    rw [ya_up_ne _ _ (by omega)]
    exact hf1 j (by omega)
  · have fr4 : yfr A A1 [a, v] ((n1 - n) / 18) (2 * (n1 - n)) := yfr_mono fr1 (fun x hx => Or.inl (by rw [List.mem_singleton] at hx; rw [hx]; exact List.mem_cons_self)) (by omega) (by omega)
    refine yfr_mono (yfr_trans (yfr_trans fr4 fr2 (fun x hx => Or.inl (by rw [List.mem_singleton] at hx; rw [hx]; exact List.mem_cons_self))) fr3 (fun x hx => ?_)) (fun x hx => Or.inl hx) (by omega) (by omega)
    rw [List.mem_singleton] at hx
    subst hx
    rcases hv1 with rfl | rfl
    · exact Or.inl (List.mem_cons_of_mem _ (List.mem_singleton.mpr rfl))
    · exact Or.inr (Nat.le_refl _)
theorem mb_15u {w : Value} {d : Nat} {A : xb_H} {a v n c : Nat} {m : Int32} {f : Nat → Int} {ch : Int} (hb : yb A a v n m c f) (hc1 : c ≤ 200) (hch : 0 ≤ ch ∧ ch ≤ 127) (h16 : 16 ≤ n) :
    xr_ok (xt_G w) (d + 1 + 1 + 1 + 1 + 1) 15 0 [(0, .ref a), (1, .int (Int32.ofInt ch))] [] A (fun o A' => ∃ r, o = .inl r ∧ r = some (.ref a) ∧ ∃ (v' n' : Nat) (f' : Nat → Int), yb A' a v' n' m (c + 1) f' ∧ (n' = n ∨ n' ≤ 2 * c + 4) ∧ (∀ j : Nat, j < c → f' j = f j) ∧ f' c = ch ∧ yfr A A' [a, v] ((n' - n) / 18) (2 * (n' - n)) ∧ (v' = v ∨ v' = A.1) ∧ n ≤ n') := by
  refine xr_steps (pc' := 2) (L' := [(0, .ref a), (1, .int (Int32.ofInt ch))]) (st' := [.int (Int32.ofInt ch), .ref a]) 2 rfl ?_
  refine xr_call (q := (.invokespecial 50, 3, 16, 2)) (av := [.ref a, .int (Int32.ofInt ch)]) (rest := []) rfl rfl (by decide) rfl (xr_rcv rfl hb.1) (Nat.le_of_ble_eq_true rfl) (mb_16u hb hc1 hch h16) ?_
  rintro _ A1 ⟨rfl, hR⟩
  refine xr_steps (pc' := 7) (L' := [(0, .ref a), (1, .int (Int32.ofInt ch))]) (st' := [.ref a]) 2 rfl ?_
  exact xr_retR rfl rfl ⟨_, rfl, rfl, hR⟩

/-- a builder that holds the list L -/
def ybl (A : xb_H) (a v n : Nat) (L : List Int) : Prop := ∃ (m : Int32) (f : Nat → Int), yb A a v n m L.length f ∧ ∀ j : Nat, j < L.length → f j = L.getD j 0
/-- it has grown to L' -/
def ybg (A A' : xb_H) (a v n v' n' : Nat) (L' : List Int) : Prop := ybl A' a v' n' L' ∧ yfr A A' [a, v] ((n' - n) / 18) (2 * (n' - n)) ∧ n ≤ n' ∧ (n' = n ∨ n' ≤ 2 * L'.length + 4) ∧ (v' = v ∨ (A.1 ≤ v' ∧ v' < A'.1))
theorem ybl_lt {A : xb_H} {a v n : Nat} {L : List Int} (h : ybl A a v n L) : a < A.1 ∧ v < A.1 ∧ ¬ v = a ∧ 64 ≤ a ∧ 64 ≤ v ∧ L.length ≤ n := by
  obtain ⟨m, f, ⟨h1, h2, h3, h4, h5⟩, h6⟩ := h
  refine ⟨xb_get_lt h1, xb_get_lt h2, fun e => ?_, h4.1, h4.2, h3.1⟩
  rw [e, h1] at h2
  cases h2
theorem ybg_trans {A B C : xb_H} {a v n v1 n1 v2 n2 : Nat} {L1 L2 : List Int} (h1 : ybg A B a v n v1 n1 L1) (h2 : ybg B C a v1 n1 v2 n2 L2) (hl : L1.length ≤ L2.length) : ybg A C a v n v2 n2 L2 := by
  obtain ⟨a1, a2, a3, a4, a5⟩ := h1
  obtain ⟨b1, b2, b3, b4, b5⟩ := h2
  have hAB := a2.1.1
  have hBC := b2.1.1
  refine ⟨b1, yfr_mono (yfr_trans a2 b2 (fun z hz => ?_)) (fun z hz => Or.inl hz) (by omega) (by omega), by omega, by omega, by omega⟩
  simp only [List.mem_cons, List.not_mem_nil, or_false] at hz ⊢
  omega
/-- append of a character -/
theorem mb_15l {w : Value} {d : Nat} {A : xb_H} {a v n : Nat} {L : List Int} {ch : Int} (hb : ybl A a v n L) (hc1 : L.length ≤ 200) (hch : 0 ≤ ch ∧ ch ≤ 127) (h16 : 16 ≤ n) : xr_ok (xt_G w) (d + 1 + 1 + 1 + 1 + 1) 15 0 [(0, .ref a), (1, .int (Int32.ofInt ch))] [] A (fun o A' => ∃ r, o = .inl r ∧ r = some (.ref a) ∧ ∃ v' n' : Nat, ybg A A' a v n v' n' (L ++ [ch])) := by
  obtain ⟨m, f, h1, h2⟩ := hb
  refine xr_conseq (mb_15u h1 hc1 hch h16) ?_
  rintro o A' ⟨r, e1, e2, v', n', f', e3, e4, e5, e6, e7, e8, e9⟩
  have hv := xb_get_lt e3.2.1
  refine ⟨r, e1, e2, v', n', ⟨m, f', ?_, fun j hj => ?_⟩, e7, e9, ?_, ?_⟩
  · rw [List.length_append, List.length_singleton]
    exact e3
  · rw [xl_snoc L ch j hj]
    by_cases ej : j = L.length
    · rw [if_pos ej, ej, e6]
    · rw [if_neg ej]
      rw [List.length_append, List.length_singleton] at hj
      rw [e5 j (by omega), h2 j (by omega)]
  · rw [List.length_append, List.length_singleton]
    omega
  · rcases e8 with e8 | e8
    · exact Or.inl e8
    · exact Or.inr (by omega)
/-- the digits' rows -/
def yk3 (A : xb_H) : Prop := ∃ g7 g8 : Nat → Int32, xb_get A 7 = some (.inl (.byte, 100, .inl g7)) ∧ xb_get A 8 = some (.inl (.byte, 100, .inl g8)) ∧ (∀ j : Nat, j < 100 → g7 j = Int32.ofInt ((48 + j % 10 : Nat) : Int)) ∧ ∀ j : Nat, j < 100 → g8 j = Int32.ofInt ((48 + j / 10 : Nat) : Int)
theorem yk3_fr {A A' : xb_H} {M : List Nat} {p q : Nat} (h : yk3 A) (hf : yfr A A' M p q) (hM : ∀ x ∈ M, 64 ≤ x) : yk3 A' := by
  obtain ⟨g7, g8, h1, h2, h3⟩ := h
  exact ⟨g7, g8, yfr_get hf h1 (fun h => by have := hM _ h; omega), yfr_get hf h2 (fun h => by have := hM _ h; omega), h3⟩
/-- the digits of a number below 100 -/
def xdg (k : Nat) : List Int := if 10 ≤ k then [((48 + k / 10 : Nat) : Int), ((48 + k % 10 : Nat) : Int)] else [((48 + k % 10 : Nat) : Int)]
theorem xdg_len (k : Nat) : (xdg k).length = if 10 ≤ k then 2 else 1 := by
  unfold xdg
  split <;> rfl
theorem mb_182 {w : Value} {d : Nat} {A : xb_H} {k : Nat} (hk : k < 100) : xr_ok (xt_G w) d 182 0 [(0, .int (Int32.ofInt (k : Int)))] [] A (fun o A' => ∃ v0, o = .inl v0 ∧ v0 = some (.int (Int32.ofInt (((xdg k).length : Nat) : Int))) ∧ A' = A) := by
  rw [xdg_len]
  refine xr_steps (pc' := 3) (L' := [(1, .int (Int32.ofInt 1)), (0, .int (Int32.ofInt (k : Int)))]) (st' := [.int (Int32.ofInt (k : Int))]) 3 rfl ?_
  refine xr_if_lt rfl (by omega) (fun h => absurd h (by omega)) (fun _ => ?_)
  refine xr_steps (pc' := 9) (L' := [(1, .int (Int32.ofInt 0)), (0, .int (Int32.ofInt (k : Int)))]) (st' := [.int (Int32.ofInt (k : Int))]) 3 rfl ?_
  refine xr_ineg rfl ?_
  refine xr_steps (pc' := 19) (L' := [(3, .int (Int32.ofInt 1)), (2, .int (Int32.ofInt (-10))), (0, .int (Int32.ofInt (-(k : Int)))), (1, .int (Int32.ofInt 0))]) (st' := [.int (Int32.ofInt 10), .int (Int32.ofInt 1)]) 7 rfl ?_
  refine xr_icmp_ge rfl (by omega) (by omega) (fun h => absurd h (by omega)) (fun _ => ?_)
  refine xr_steps (pc' := 24) (L' := [(3, .int (Int32.ofInt 1)), (2, .int (Int32.ofInt (-10))), (0, .int (Int32.ofInt (-(k : Int)))), (1, .int (Int32.ofInt 0))]) (st' := [.int (Int32.ofInt (-10)), .int (Int32.ofInt (-(k : Int)))]) 2 rfl ?_
  refine xr_icmp_le rfl (by omega) (by omega) (fun h1 => ?_) (fun h1 => ?_)
  · rw [if_pos (by omega)]
    refine xr_steps (pc' := 34) (L' := [(3, .int (Int32.ofInt 1)), (2, .int (Int32.ofInt (-10))), (0, .int (Int32.ofInt (-(k : Int)))), (1, .int (Int32.ofInt 0))]) (st' := [.int (Int32.ofInt (-10)), .int (Int32.ofInt 10)]) 2 rfl ?_
    refine xr_imul rfl ?_
    refine xr_steps (pc' := 36) (L' := [(2, .int (Int32.ofInt (10 * -10))), (3, .int (Int32.ofInt 1)), (0, .int (Int32.ofInt (-(k : Int)))), (1, .int (Int32.ofInt 0))]) (st' := []) 1 rfl ?_
    refine xr_iinc (L' := [(3, .int (Int32.ofInt (1 + 1))), (2, .int (Int32.ofInt (10 * -10))), (0, .int (Int32.ofInt (-(k : Int)))), (1, .int (Int32.ofInt 0))]) rfl rfl rfl ?_
    refine xr_steps (pc' := 19) (L' := [(3, .int (Int32.ofInt (1 + 1))), (2, .int (Int32.ofInt (10 * -10))), (0, .int (Int32.ofInt (-(k : Int)))), (1, .int (Int32.ofInt 0))]) (st' := [.int (Int32.ofInt 10), .int (Int32.ofInt (1 + 1))]) 3 rfl ?_
    refine xr_icmp_ge rfl (by omega) (by omega) (fun h => absurd h (by omega)) (fun _ => ?_)
    refine xr_steps (pc' := 24) (L' := [(3, .int (Int32.ofInt (1 + 1))), (2, .int (Int32.ofInt (10 * -10))), (0, .int (Int32.ofInt (-(k : Int)))), (1, .int (Int32.ofInt 0))]) (st' := [.int (Int32.ofInt (10 * -10)), .int (Int32.ofInt (-(k : Int)))]) 2 rfl ?_
    refine xr_icmp_le rfl (by omega) (by omega) (fun h => absurd h (by omega)) (fun _ => ?_)
    refine xr_steps (pc' := 29) (L' := [(3, .int (Int32.ofInt (1 + 1))), (2, .int (Int32.ofInt (10 * -10))), (0, .int (Int32.ofInt (-(k : Int)))), (1, .int (Int32.ofInt 0))]) (st' := [.int (Int32.ofInt 0), .int (Int32.ofInt (1 + 1))]) 2 rfl ?_
    refine xr_iadd rfl ?_
    exact xr_retI2 rfl rfl ⟨_, rfl, rfl, rfl⟩
  · rw [if_neg (by omega)]
    refine xr_steps (pc' := 29) (L' := [(3, .int (Int32.ofInt 1)), (2, .int (Int32.ofInt (-10))), (0, .int (Int32.ofInt (-(k : Int)))), (1, .int (Int32.ofInt 0))]) (st' := [.int (Int32.ofInt 0), .int (Int32.ofInt 1)]) 2 rfl ?_
    refine xr_iadd rfl ?_
    exact xr_retI2 rfl rfl ⟨_, rfl, rfl, rfl⟩
theorem mb_183 {w : Value} {d : Nat} {A : xb_H} {v n k e : Nat} {f : Nat → Int} (hk3 : yk3 A) (hv : xb_get A v = some (.inl (.byte, n, .inl fun j => Int32.ofInt (f j)))) (hz : 64 ≤ v) (hn : n ≤ 1000) (hk : k < 100) (he : (xdg k).length ≤ e ∧ e ≤ n) : xr_ok (xt_G w) d 183 0 [(0, .int (Int32.ofInt (k : Int))), (1, .int (Int32.ofInt (e : Int))), (2, .ref v)] [] A (fun o A' => ∃ v0, o = .inl v0 ∧ ∃ (x : Int) (g : Nat → Int), v0 = some (.int (Int32.ofInt x)) ∧ xb_get A' v = some (.inl (.byte, n, .inl fun j => Int32.ofInt (g j))) ∧ (∀ j : Nat, (e ≤ j + (xdg k).length ∧ j < e → g j = (xdg k).getD (j + (xdg k).length - e) 0) ∧ (¬ (e ≤ j + (xdg k).length ∧ j < e) → g j = f j)) ∧ yfr A A' [v] 0 0) := by
  obtain ⟨g7, g8, h7, h8, h7r, h8r⟩ := hk3
  have hlen := xdg_len k
  have hlen1 : 1 ≤ (xdg k).length := by rw [hlen]; split <;> omega
  refine xr_steps (pc' := 4) (L' := [(5, .int (Int32.ofInt (e : Int))), (0, .int (Int32.ofInt (k : Int))), (1, .int (Int32.ofInt (e : Int))), (2, .ref v)]) (st' := [.int (Int32.ofInt (k : Int))]) 3 rfl ?_
  refine xr_if_ge rfl (by omega) (fun _ => ?_) (fun h => absurd h (by omega))
  refine xr_steps (pc' := 16) (L' := [(6, .int (Int32.ofInt 0)), (5, .int (Int32.ofInt (e : Int))), (0, .int (Int32.ofInt (k : Int))), (1, .int (Int32.ofInt (e : Int))), (2, .ref v)]) (st' := [.int (Int32.ofInt 0)]) 3 rfl ?_
  refine xr_if_ne rfl (by omega) (fun h => absurd rfl h) (fun _ => ?_)
  refine xr_steps (pc' := 20) (L' := [(6, .int (Int32.ofInt 0)), (5, .int (Int32.ofInt (e : Int))), (0, .int (Int32.ofInt (k : Int))), (1, .int (Int32.ofInt (e : Int))), (2, .ref v)]) (st' := [.int (Int32.ofInt (k : Int))]) 1 rfl ?_
  refine xr_ineg rfl ?_
  refine xr_steps (pc' := 25) (L' := [(0, .int (Int32.ofInt (-(k : Int)))), (6, .int (Int32.ofInt 0)), (5, .int (Int32.ofInt (e : Int))), (1, .int (Int32.ofInt (e : Int))), (2, .ref v)]) (st' := [.int (Int32.ofInt (-100)), .int (Int32.ofInt (-(k : Int)))]) 3 rfl ?_
  refine xr_icmp_gt rfl (by omega) (by omega) (fun _ => ?_) (fun h => absurd h (by omega))
  refine xr_steps (pc' := 73) (L' := [(0, .int (Int32.ofInt (-(k : Int)))), (6, .int (Int32.ofInt 0)), (5, .int (Int32.ofInt (e : Int))), (1, .int (Int32.ofInt (e : Int))), (2, .ref v)]) (st' := [.ref v]) 1 rfl ?_
  refine xr_iincn (L' := [(5, .int (Int32.ofInt ((e : Int) - 1))), (0, .int (Int32.ofInt (-(k : Int)))), (6, .int (Int32.ofInt 0)), (1, .int (Int32.ofInt (e : Int))), (2, .ref v)]) rfl rfl rfl ?_
  refine xr_steps (pc' := 82) (L' := [(5, .int (Int32.ofInt ((e : Int) - 1))), (0, .int (Int32.ofInt (-(k : Int)))), (6, .int (Int32.ofInt 0)), (1, .int (Int32.ofInt (e : Int))), (2, .ref v)]) (st' := [.int (Int32.ofInt (-(k : Int))), .ref 7, .int (Int32.ofInt ((e : Int) - 1)), .ref v]) 3 rfl ?_
  refine xr_ineg rfl ?_
  rw [Int.neg_neg]
  refine xr_baload rfl h7 rfl (by omega) (by omega) (by omega) ?_
  rw [Int.toNat_natCast, h7r k hk]
  obtain ⟨A1, e1⟩ : ∃ A0, xb_set A v (.inl (.byte, n, .inl fun j => Int32.ofInt (va_up f (e - 1) ((48 + k % 10 : Nat) : Int) j))) = A0 := ⟨_, rfl⟩
  refine xr_bastore rfl hv hz (by omega) (by omega) (by omega) (xr_heap ?_ (xr_heap e1 ?_))
  · rw [xr_narB2 (by omega), xr_updN, show ((e : Int) - 1).toNat = e - 1 by omega]
  have g1 := xr_mv e1 (xb_get_set_same (o := .inl (.byte, n, .inl fun j => Int32.ofInt (va_up f (e - 1) ((48 + k % 10 : Nat) : Int) j))) hv)
  have fr1 : yfr A A1 [v] 0 0 := by rw [← e1]; exact yfr_set hv (List.mem_singleton.mpr rfl) 0 0
  refine xr_steps (pc' := 88) (L' := [(5, .int (Int32.ofInt ((e : Int) - 1))), (0, .int (Int32.ofInt (-(k : Int)))), (6, .int (Int32.ofInt 0)), (1, .int (Int32.ofInt (e : Int))), (2, .ref v)]) (st' := [.int (Int32.ofInt (-9)), .int (Int32.ofInt (-(k : Int)))]) 2 rfl ?_
  refine xr_icmp_ge rfl (by omega) (by omega) (fun h9 => ?_) (fun h9 => ?_)
  · refine xr_steps (pc' := 106) (L' := [(5, .int (Int32.ofInt ((e : Int) - 1))), (0, .int (Int32.ofInt (-(k : Int)))), (6, .int (Int32.ofInt 0)), (1, .int (Int32.ofInt (e : Int))), (2, .ref v)]) (st' := [.int (Int32.ofInt 0)]) 1 rfl ?_
    refine xr_if_eq rfl (by omega) (fun _ => ?_) (fun h => absurd rfl h)
    refine xr_steps (pc' := 120) (L' := [(5, .int (Int32.ofInt ((e : Int) - 1))), (0, .int (Int32.ofInt (-(k : Int)))), (6, .int (Int32.ofInt 0)), (1, .int (Int32.ofInt (e : Int))), (2, .ref v)]) (st' := [.int (Int32.ofInt ((e : Int) - 1))]) 1 rfl ?_
    refine xr_retI2 rfl rfl ⟨_, rfl, _, _, rfl, g1, fun j => ?_, fr1⟩
    rw [if_neg (by omega)] at hlen
    have hx : xdg k = [((48 + k % 10 : Nat) : Int)] := if_neg (by omega)
    unfold va_up
    refine ⟨fun h => ?_, fun h => ?_⟩
    · rw [if_pos (by omega), hx, show j + [((48 + k % 10 : Nat) : Int)].length - e = 0 by rw [← hx]; omega]
      rfl
    · rw [if_neg (by omega)]
  · rw [if_pos (by omega)] at hlen
    have hx : xdg k = [((48 + k / 10 : Nat) : Int), ((48 + k % 10 : Nat) : Int)] := if_pos (by omega)
    refine xr_steps (pc' := 92) (L' := [(5, .int (Int32.ofInt ((e : Int) - 1))), (0, .int (Int32.ofInt (-(k : Int)))), (6, .int (Int32.ofInt 0)), (1, .int (Int32.ofInt (e : Int))), (2, .ref v)]) (st' := [.ref v]) 1 rfl ?_
    refine xr_iincn (L' := [(5, .int (Int32.ofInt ((e : Int) - 1 - 1))), (0, .int (Int32.ofInt (-(k : Int)))), (6, .int (Int32.ofInt 0)), (1, .int (Int32.ofInt (e : Int))), (2, .ref v)]) rfl rfl rfl ?_
    refine xr_steps (pc' := 101) (L' := [(5, .int (Int32.ofInt ((e : Int) - 1 - 1))), (0, .int (Int32.ofInt (-(k : Int)))), (6, .int (Int32.ofInt 0)), (1, .int (Int32.ofInt (e : Int))), (2, .ref v)]) (st' := [.int (Int32.ofInt (-(k : Int))), .ref 8, .int (Int32.ofInt ((e : Int) - 1 - 1)), .ref v]) 3 rfl ?_
    refine xr_ineg rfl ?_
    rw [Int.neg_neg]
    refine xr_baload rfl (yfr_get fr1 h8 (by rw [List.mem_singleton]; omega)) rfl (by omega) (by omega) (by omega) ?_
    rw [Int.toNat_natCast, h8r k hk]
    obtain ⟨A2, e2⟩ : ∃ A0, xb_set A1 v (.inl (.byte, n, .inl fun j => Int32.ofInt (va_up (va_up f (e - 1) ((48 + k % 10 : Nat) : Int)) (e - 2) ((48 + k / 10 : Nat) : Int) j))) = A0 := ⟨_, rfl⟩
    refine xr_bastore rfl g1 hz (by omega) (by omega) (by omega) (xr_heap ?_ (xr_heap e2 ?_))
    · rw [xr_narB2 (by omega), xr_updN, show ((e : Int) - 1 - 1).toNat = e - 2 by omega]
    have g2 := xr_mv e2 (xb_get_set_same (o := .inl (.byte, n, .inl fun j => Int32.ofInt (va_up (va_up f (e - 1) ((48 + k % 10 : Nat) : Int)) (e - 2) ((48 + k / 10 : Nat) : Int) j))) g1)
    have fr2 : yfr A1 A2 [v] 0 0 := by rw [← e2]; exact yfr_set g1 (List.mem_singleton.mpr rfl) 0 0
    refine xr_steps (pc' := 106) (L' := [(5, .int (Int32.ofInt ((e : Int) - 1 - 1))), (0, .int (Int32.ofInt (-(k : Int)))), (6, .int (Int32.ofInt 0)), (1, .int (Int32.ofInt (e : Int))), (2, .ref v)]) (st' := [.int (Int32.ofInt 0)]) 1 rfl ?_
    refine xr_if_eq rfl (by omega) (fun _ => ?_) (fun h => absurd rfl h)
    refine xr_steps (pc' := 120) (L' := [(5, .int (Int32.ofInt ((e : Int) - 1 - 1))), (0, .int (Int32.ofInt (-(k : Int)))), (6, .int (Int32.ofInt 0)), (1, .int (Int32.ofInt (e : Int))), (2, .ref v)]) (st' := [.int (Int32.ofInt ((e : Int) - 1 - 1))]) 1 rfl ?_
    refine xr_retI2 rfl rfl ⟨_, rfl, _, _, rfl, g2, fun j => ?_, yfr_trans fr1 fr2 (fun z hz => Or.inl hz)⟩
    unfold va_up
    refine ⟨fun h => ?_, fun h => ?_⟩
    · by_cases ej : j = e - 2
      · rw [if_pos ej, hx, show j + [((48 + k / 10 : Nat) : Int), ((48 + k % 10 : Nat) : Int)].length - e = 0 by rw [← hx]; omega]
        rfl
      · rw [if_neg ej, if_pos (by omega), hx, show j + [((48 + k / 10 : Nat) : Int), ((48 + k % 10 : Nat) : Int)].length - e = 1 by rw [← hx]; omega]
        rfl
    · rw [if_neg (by omega), if_neg (by omega)]
/-! A number is appended; a place is written -/
theorem xdg_rng (k : Nat) (hk : k < 100) (j : Nat) (hj : j < (xdg k).length) : 0 ≤ (xdg k).getD j 0 ∧ (xdg k).getD j 0 ≤ 127 := by
  have hlen := xdg_len k
  unfold xdg at *
  split at hj
  · rename_i h
    rw [if_pos h]
    rcases j with _ | _ | j
    · show 0 ≤ ((48 + k / 10 : Nat) : Int) ∧ ((48 + k / 10 : Nat) : Int) ≤ 127; omega
    · show 0 ≤ ((48 + k % 10 : Nat) : Int) ∧ ((48 + k % 10 : Nat) : Int) ≤ 127; omega
    · simp only [List.length_cons, List.length_nil] at hj; omega
  · rename_i h
    rw [if_neg h]
    rcases j with _ | j
    · show 0 ≤ ((48 + k % 10 : Nat) : Int) ∧ ((48 + k % 10 : Nat) : Int) ≤ 127; omega
    · simp only [List.length_cons, List.length_nil] at hj; omega
theorem xl_app (L M : List Int) (j : Nat) (hj : j < L.length + M.length) : (L ++ M).getD j 0 = if j < L.length then L.getD j 0 else M.getD (j - L.length) 0 := by
  rw [List.getD_eq_getElem?_getD, List.getD_eq_getElem?_getD, List.getD_eq_getElem?_getD]
  by_cases h : j < L.length
  · rw [if_pos h, List.getElem?_append_left h]
  · rw [if_neg h, List.getElem?_append_right (by omega)]
theorem mb_181 {w : Value} {d : Nat} {A : xb_H} {a v n k : Nat} {L : List Int} (hk3 : yk3 A) (hb : ybl A a v n L) (hc1 : L.length ≤ 200) (hk : k < 100) (h16 : 16 ≤ n) : xr_ok (xt_G w) (d + 1 + 1 + 1 + 1) 181 0 [(0, .ref a), (1, .int (Int32.ofInt (k : Int)))] [] A (fun o A' => ∃ r, o = .inl r ∧ r = some (.ref a) ∧ ∃ v' n' : Nat, ybg A A' a v n v' n' (L ++ xdg k)) := by
  have hll := ybl_lt hb
  obtain ⟨m, f, hb1, hb2⟩ := hb
  obtain ⟨h, hv, ⟨hc, hn⟩, ⟨ha, hvz⟩, hf⟩ := id hb1
  have hlen := xdg_len k
  have hlen1 : 1 ≤ (xdg k).length ∧ (xdg k).length ≤ 2 := by rw [hlen]; split <;> omega
  refine xr_steps (pc' := 1) (L' := [(0, .ref a), (1, .int (Int32.ofInt (k : Int)))]) (st' := [.ref a]) 1 rfl ?_
  refine xr_getf (v := .int (Int32.ofInt (L.length : Int))) rfl h rfl ?_
  refine xr_steps (pc' := 7) (L' := [(2, .int (Int32.ofInt (L.length : Int))), (0, .ref a), (1, .int (Int32.ofInt (k : Int)))]) (st' := [.int (Int32.ofInt (k : Int)), .int (Int32.ofInt (L.length : Int))]) 3 rfl ?_
  refine xr_call (q := (.invokestatic 245, 3, 182, 1)) (av := [.int (Int32.ofInt (k : Int))]) (rest := [.int (Int32.ofInt (L.length : Int))]) rfl rfl (by decide) rfl rfl (Nat.le_of_ble_eq_true rfl) (mb_182 hk) ?_
  rintro _ _ ⟨rfl, eA⟩
  rw [eA]
  clear eA
  refine xr_iadd rfl ?_
  obtain ⟨e, he⟩ : ∃ e : Nat, e = L.length + (xdg k).length := ⟨_, rfl⟩
  rw [show (L.length : Int) + ((xdg k).length : Int) = (e : Int) by omega]
  refine xr_steps (pc' := 14) (L' := [(3, .int (Int32.ofInt (e : Int))), (2, .int (Int32.ofInt (L.length : Int))), (0, .ref a), (1, .int (Int32.ofInt (k : Int)))]) (st' := [.int (Int32.ofInt (e : Int)), .ref a]) 3 rfl ?_
  refine xr_call (q := (.invokevirtual 100, 3, 17, 2)) (av := [.ref a, .int (Int32.ofInt (e : Int))]) (rest := []) rfl rfl (by decide) rfl (xr_rcv rfl h) (Nat.le_of_ble_eq_true rfl) (mb_17u hb1 (by omega) h16) ?_
  rintro _ A1 ⟨rfl, v1, n1, f1, hb3, hk1, hn1, hf1, fr1, hv1, hnn⟩
  have hk31 := yk3_fr hk3 fr1 (fun x hx => by rw [List.mem_singleton] at hx; omega)
  have hne1 : ¬ v1 = a := by
    intro e
    obtain ⟨q1, q2, -⟩ := hb3
    rw [e, q1] at q2
    cases q2
  obtain ⟨g, gv, ⟨gc, gn⟩, ⟨-, gvz⟩, gf⟩ := hb3
  refine xr_steps (pc' := 18) (L' := [(3, .int (Int32.ofInt (e : Int))), (2, .int (Int32.ofInt (L.length : Int))), (0, .ref a), (1, .int (Int32.ofInt (k : Int)))]) (st' := [.ref a]) 1 rfl ?_
  refine xr_call (q := (.invokevirtual 83, 3, 24, 1)) (av := [.ref a]) (rest := []) rfl rfl (by decide) rfl (xr_rcv rfl g) (Nat.le_of_ble_eq_true rfl) (mm_24 g rfl) ?_
  rintro _ _ ⟨rfl, eA⟩
  rw [eA]
  clear eA
  refine xr_steps (pc' := 27) (L' := [(3, .int (Int32.ofInt (e : Int))), (2, .int (Int32.ofInt (L.length : Int))), (0, .ref a), (1, .int (Int32.ofInt (k : Int)))]) (st' := [.ref a, .int (Int32.ofInt (e : Int)), .int (Int32.ofInt (k : Int))]) 4 rfl ?_
  refine xr_getf (v := .ref v1) rfl g rfl ?_
  refine xr_call (q := (.invokestatic 248, 3, 183, 3)) (av := [.int (Int32.ofInt (k : Int)), .int (Int32.ofInt (e : Int)), .ref v1]) (rest := []) rfl rfl (by decide) rfl rfl (Nat.le_of_ble_eq_true rfl) (mb_183 hk31 gv gvz gn hk (by omega)) ?_
  rintro _ A2 ⟨x, g2, rfl, gv2, hg2, fr2⟩
  have ga2 := yfr_get fr2 g (by rw [List.mem_singleton]; omega)
  refine xr_steps (pc' := 50) (L' := [(3, .int (Int32.ofInt (e : Int))), (2, .int (Int32.ofInt (L.length : Int))), (0, .ref a), (1, .int (Int32.ofInt (k : Int)))]) (st' := [.int (Int32.ofInt (e : Int)), .ref a]) 4 rfl ?_
  obtain ⟨A3, e3⟩ : ∃ A3, xb_set A2 a (.inr (11, [.ref v1, .int 0, .int m, .int (Int32.ofInt (e : Int))])) = A3 := ⟨_, rfl⟩
  refine xr_putf (t := .int) rfl ga2 ha (Nat.le_of_ble_eq_true rfl) rfl (xr_fitI _) (xr_heap e3 ?_)
  have g3 := xr_mv e3 (xb_get_set_same (o := .inr (11, [.ref v1, .int 0, .int m, .int (Int32.ofInt (e : Int))])) ga2)
  have gv3 := xr_mv e3 (xb_get_set_ne (o := .inr (11, [.ref v1, .int 0, .int m, .int (Int32.ofInt (e : Int))])) ga2 gv2 hne1)
  have fr3 : yfr A2 A3 [a] 0 0 := by rw [← e3]; exact yfr_set ga2 (List.mem_singleton.mpr rfl) 0 0
  have nA2 := fr2.1
  have nA3 := fr3.1
  have hv1lt := xb_get_lt gv
  refine xr_steps (pc' := 54) (L' := [(3, .int (Int32.ofInt (e : Int))), (2, .int (Int32.ofInt (L.length : Int))), (0, .ref a), (1, .int (Int32.ofInt (k : Int)))]) (st' := [.ref a]) 1 rfl ?_
  have el : (L ++ xdg k).length = e := by rw [List.length_append, he]
  refine xr_retR rfl rfl ⟨_, rfl, rfl, v1, n1, ⟨m, g2, ?_, fun j hj => ?_⟩, ?_, hnn, ?_, ?_⟩
  · rw [el]
    refine ⟨g3, gv3, ⟨by omega, gn⟩, ⟨ha, gvz⟩, fun j hj => ?_⟩
    by_cases hj2 : e ≤ j + (xdg k).length ∧ j < e
    · rw [(hg2 j).1 hj2]
      exact xdg_rng k hk _ (by omega)
    · rw [(hg2 j).2 hj2]
      exact gf j hj
  · rw [el] at hj
    rw [xl_app L (xdg k) j (by omega)]
    by_cases hj2 : j < L.length
    · rw [if_pos hj2, (hg2 j).2 (by omega), hf1 j (by omega), hb2 j hj2]
    · rw [if_neg hj2, (hg2 j).1 (by omega), show j + (xdg k).length - e = j - L.length by omega]
  · refine yfr_mono (yfr_trans (yfr_trans (yfr_mono fr1 (N := [a, v]) (fun x hx => Or.inl (by rw [List.mem_singleton] at hx; rw [hx]; exact List.mem_cons_self)) (Nat.le_refl _) (Nat.le_refl _)) fr2 (fun x hx => ?_)) fr3 (fun x hx => Or.inl (by rw [List.mem_singleton] at hx; rw [hx]; exact List.mem_cons_self))) (fun x hx => Or.inl hx) (by omega) (by omega)
    rw [List.mem_singleton] at hx
    subst hx
    rcases hv1 with rfl | rfl
    · exact Or.inl (List.mem_cons_of_mem _ (List.mem_singleton.mpr rfl))
    · exact Or.inr (Nat.le_refl _)
  · rw [el]
    omega
  · rcases hv1 with h | h
    · exact Or.inl h
    · exact Or.inr (by omega)
theorem mb_180 {w : Value} {d : Nat} {A : xb_H} {a v n k : Nat} {L : List Int} (hk3 : yk3 A) (hb : ybl A a v n L) (hc1 : L.length ≤ 200) (hk : k < 100) (h16 : 16 ≤ n) : xr_ok (xt_G w) (d + 1 + 1 + 1 + 1 + 1) 180 0 [(0, .ref a), (1, .int (Int32.ofInt (k : Int)))] [] A (fun o A' => ∃ r, o = .inl r ∧ r = some (.ref a) ∧ ∃ v' n' : Nat, ybg A A' a v n v' n' (L ++ xdg k)) := by
  have hcell := hb.choose_spec.choose_spec.1.1
  refine xr_steps (pc' := 2) (L' := [(0, .ref a), (1, .int (Int32.ofInt (k : Int)))]) (st' := [.int (Int32.ofInt (k : Int)), .ref a]) 2 rfl ?_
  refine xr_call (q := (.invokespecial 53, 3, 181, 2)) (av := [.ref a, .int (Int32.ofInt (k : Int))]) (rest := []) rfl rfl (by decide) rfl (xr_rcv rfl hcell) (Nat.le_of_ble_eq_true rfl) (mb_181 hk3 hb hc1 hk h16) ?_
  rintro _ A1 ⟨rfl, hR⟩
  refine xr_steps (pc' := 7) (L' := [(0, .ref a), (1, .int (Int32.ofInt (k : Int)))]) (st' := [.ref a]) 2 rfl ?_
  exact xr_retR rfl rfl ⟨_, rfl, rfl, hR⟩
/-- a step as it is written -/
def xwS (s : Int) : List Int := if 1000 ≤ s then [46, s - 1000] else 91 :: (xdg s.toNat ++ [93])
def xwP : List Int → List Int
  | [] => []
  | s :: l => xwS s ++ xwP l
theorem xwP_app (l m : List Int) : xwP (l ++ m) = xwP l ++ xwP m := by
  induction l with
  | nil => rfl
  | cons s l ih => show xwS s ++ xwP (l ++ m) = xwS s ++ xwP l ++ xwP m; rw [ih, List.append_assoc]
theorem xwS_len (s : Int) : (xwS s).length ≤ 4 ∧ 2 ≤ (xwS s).length := by
  have := xdg_len s.toNat
  unfold xwS
  split
  · exact ⟨by show 2 ≤ 4; omega, by show 2 ≤ 2; omega⟩
  · rw [List.length_cons, List.length_append, List.length_singleton, this]
    split <;> omega
theorem xwP_len (l : List Int) : (xwP l).length ≤ 4 * l.length := by
  induction l with
  | nil => exact Nat.le_refl _
  | cons s l ih =>
    show (xwS s ++ xwP l).length ≤ 4 * (l.length + 1)
    rw [List.length_append]
    have := xwS_len s
    omega
theorem xl_drop {l : List Int} {i : Nat} (h : i < l.length) : l.drop i = l.getD i 0 :: l.drop (i + 1) := by
  rw [List.getD_eq_getElem?_getD, List.getElem?_eq_getElem h]
  exact List.drop_eq_getElem_cons h
theorem ypa_bl {A : xb_H} {pa ro rm a v n : Nat} {l L : List Int} (hp : ypa A pa ro rm l) (hb : ybl A a v n L) : ¬ pa ∈ [a, v] ∧ ¬ ro ∈ [a, v] := by
  obtain ⟨g, p1, p2, -⟩ := hp
  obtain ⟨m, f, ⟨b1, b2, -⟩, -⟩ := hb
  have e1 : ¬ pa = a := fun e => by rw [e, b1] at p1; cases p1
  have e2 : ¬ pa = v := fun e => by rw [e, b2] at p1; cases p1
  have e3 : ¬ ro = a := fun e => by rw [e, b1] at p2; cases p2
  have e4 : ¬ ro = v := fun e => by rw [e, b2] at p2; cases p2
  simp only [List.mem_cons, List.not_mem_nil, or_false]
  exact ⟨by omega, by omega⟩
section AP
variable {w : Value} {d : Nat} {pa ro rm a : Nat} {l : List Int} {Q : xb_R → xb_H → Prop}
theorem mb_179l (hs : ∀ i : Nat, i < l.length → (0 ≤ l.getD i 0 ∧ l.getD i 0 ≤ 99) ∨ (1000 ≤ l.getD i 0 ∧ l.getD i 0 ≤ 1127)) (hl5 : l.length ≤ 5) : ∀ (k i : Nat) (A : xb_H) (v n : Nat) (T : List Int), i + k = l.length → T.length ≤ 1 + 4 * i → ybl A a v n T → ypa A pa ro rm l → yk3 A → 16 ≤ n → (∀ (A' : xb_H) (v' n' : Nat), ybg A A' a v n v' n' (T ++ xwP (l.drop i)) → Q (.inl none) A') → xr_ok (xt_G w) (d + 1 + 1 + 1 + 1 + 1 + 1) 179 9 [(2, .int (Int32.ofInt (i : Int))), (0, .ref pa), (1, .ref a)] [] A Q := by
  intro k
  induction k using Nat.strongRecOn with
  | _ k ih =>
    intro i A v n T hk hTl hb hp hk3 h16 hQ
    have hl50 := hp.choose_spec.2.2.2.1
    obtain ⟨g31, p31a, p31b, p31c, -⟩ := id hp
    refine xr_steps (pc' := 11) (L' := [(2, .int (Int32.ofInt (i : Int))), (0, .ref pa), (1, .ref a)]) (st' := [.ref pa, .int (Int32.ofInt (i : Int))]) 2 rfl ?_
    refine xr_getf (v := .int (Int32.ofInt (l.length : Int))) rfl p31a rfl ?_
    refine xr_icmp_ge rfl (by omega) (by omega) (fun z32 => ?_) (fun z32 => ?_)
    · obtain rfl : i = l.length := by omega
      refine xr_retN rfl rfl (hQ A v n ?_)
      rw [List.drop_length, show T ++ xwP [] = T from List.append_nil T]
      exact ⟨hb, yfr_refl _ _ _ _, Nat.le_refl _, Or.inl rfl, Or.inl rfl⟩
    · have hr : (0 ≤ (l.getD i 0) ∧ (l.getD i 0) ≤ 99) ∨ (1000 ≤ (l.getD i 0) ∧ (l.getD i 0) ≤ 1127) := hs i (by omega)
      have hxl := xwS_len (l.getD i 0)
      have hdrop := xl_drop (show i < l.length by omega)
      have hdl := xdg_len (l.getD i 0).toNat
      have hdl2 : (xdg (l.getD i 0).toNat).length ≤ 2 := by rw [hdl]; split <;> omega
      refine xr_steps (pc' := 18) (L' := [(2, .int (Int32.ofInt (i : Int))), (0, .ref pa), (1, .ref a)]) (st' := [.ref pa]) 1 rfl ?_
      refine xr_getf (v := .ref ro) rfl p31a rfl ?_
      refine xr_steps (pc' := 22) (L' := [(2, .int (Int32.ofInt (i : Int))), (0, .ref pa), (1, .ref a)]) (st' := [.int (Int32.ofInt (i : Int)), .ref ro]) 1 rfl ?_
      refine xr_iaload rfl p31b (by omega) (by omega) (by omega) ?_
      rw [show (i : Int).toNat = i by omega]
      rw [p31c i (by omega)]
      refine xr_steps (pc' := 26) (L' := [(2, .int (Int32.ofInt (i : Int))), (0, .ref pa), (1, .ref a)]) (st' := [.int (Int32.ofInt 1000), .int (Int32.ofInt (l.getD i 0))]) 1 rfl ?_
      refine xr_icmp_lt rfl (by omega) (by omega) (fun z33 => ?_) (fun z33 => ?_)
      · refine xr_steps (pc' := 56) (L' := [(2, .int (Int32.ofInt (i : Int))), (0, .ref pa), (1, .ref a)]) (st' := [.int (Int32.ofInt 91), .ref a]) 2 rfl ?_
        refine xr_call (q := (.invokevirtual 71, 3, 15, 2)) (av := [.ref a, .int (Int32.ofInt 91)]) (rest := []) rfl rfl (by decide) rfl (xr_rcv rfl hb.choose_spec.choose_spec.1.1) (Nat.le_of_ble_eq_true rfl) (mb_15l (L := T) hb (by first | omega | (simp only [List.length_append, List.length_cons, List.length_nil]; omega)) (by omega) (by omega)) ?_
        rintro _ B34 ⟨rfl, v34, n34, bg34⟩
        have bl34 := bg34.1
        have nn34 := bg34.2.2.1
        have hm34 := ypa_bl hp hb
        have hp34 := ypa_fr hp bg34.2.1 hm34.1 hm34.2
        have k334 := yk3_fr hk3 bg34.2.1 (fun x hx => by have := ybl_lt hb; simp only [List.mem_cons, List.not_mem_nil, or_false] at hx; omega)
        obtain ⟨g35, p35a, p35b, p35c, -⟩ := id hp34
        refine xr_steps (pc' := 60) (L' := [(2, .int (Int32.ofInt (i : Int))), (0, .ref pa), (1, .ref a)]) (st' := [.ref pa, .ref a]) 1 rfl ?_
        refine xr_getf (v := .ref ro) rfl p35a rfl ?_
        refine xr_steps (pc' := 64) (L' := [(2, .int (Int32.ofInt (i : Int))), (0, .ref pa), (1, .ref a)]) (st' := [.int (Int32.ofInt (i : Int)), .ref ro, .ref a]) 1 rfl ?_
        refine xr_iaload rfl p35b (by omega) (by omega) (by omega) ?_
        rw [show (i : Int).toNat = i by omega]
        rw [p35c i (by omega)]
        rw [show Int32.ofInt (l.getD i 0) = Int32.ofInt (((l.getD i 0).toNat : Nat) : Int) by rw [show (((l.getD i 0).toNat : Nat) : Int) = (l.getD i 0) by omega]]
        refine xr_call (q := (.invokevirtual 77, 3, 180, 2)) (av := [.ref a, .int (Int32.ofInt (((l.getD i 0).toNat : Nat) : Int))]) (rest := []) rfl rfl (by decide) rfl (xr_rcv rfl bl34.choose_spec.choose_spec.1.1) (Nat.le_of_ble_eq_true rfl) (mb_180 (L := (T ++ [91])) k334 bl34 (by first | omega | (simp only [List.length_append, List.length_cons, List.length_nil]; omega)) (show (l.getD i 0).toNat < 100 by omega) (by omega)) ?_
        rintro _ B36 ⟨rfl, v36, n36, bg36⟩
        have bl36 := bg36.1
        have nn36 := bg36.2.2.1
        have hm36 := ypa_bl hp34 bl34
        have hp36 := ypa_fr hp34 bg36.2.1 hm36.1 hm36.2
        have k336 := yk3_fr k334 bg36.2.1 (fun x hx => by have := ybl_lt bl34; simp only [List.mem_cons, List.not_mem_nil, or_false] at hx; omega)
        have bt36 := ybg_trans bg34 bg36 (by first | omega | (simp only [List.length_append, List.length_cons, List.length_nil]; omega))
        obtain ⟨g37, p37a, p37b, p37c, -⟩ := id hp36
        refine xr_steps (pc' := 70) (L' := [(2, .int (Int32.ofInt (i : Int))), (0, .ref pa), (1, .ref a)]) (st' := [.int (Int32.ofInt 93), .ref a]) 1 rfl ?_
        refine xr_call (q := (.invokevirtual 71, 3, 15, 2)) (av := [.ref a, .int (Int32.ofInt 93)]) (rest := []) rfl rfl (by decide) rfl (xr_rcv rfl bl36.choose_spec.choose_spec.1.1) (Nat.le_of_ble_eq_true rfl) (mb_15l (L := ((T ++ [91]) ++ xdg (l.getD i 0).toNat)) bl36 (by first | omega | (simp only [List.length_append, List.length_cons, List.length_nil]; omega)) (by omega) (by omega)) ?_
        rintro _ B38 ⟨rfl, v38, n38, bg38⟩
        have bl38 := bg38.1
        have nn38 := bg38.2.2.1
        have hm38 := ypa_bl hp36 bl36
        have hp38 := ypa_fr hp36 bg38.2.1 hm38.1 hm38.2
        have k338 := yk3_fr k336 bg38.2.1 (fun x hx => by have := ybl_lt bl36; simp only [List.mem_cons, List.not_mem_nil, or_false] at hx; omega)
        have bt38 := ybg_trans bt36 bg38 (by first | omega | (simp only [List.length_append, List.length_cons, List.length_nil]; omega))
        obtain ⟨g39, p39a, p39b, p39c, -⟩ := id hp38
        refine xr_steps (pc' := 74) (L' := [(2, .int (Int32.ofInt (i : Int))), (0, .ref pa), (1, .ref a)]) (st' := []) 1 rfl ?_
        refine xr_iinc (L' := [(2, .int (Int32.ofInt ((i : Int) + 1))), (0, .ref pa), (1, .ref a)]) rfl rfl rfl ?_
        refine xr_steps (pc' := 9) (L' := [(2, .int (Int32.ofInt ((i : Int) + 1))), (0, .ref pa), (1, .ref a)]) (st' := []) 1 rfl ?_
        refine xr_loc (L := [(2, .int (Int32.ofInt ((i : Int) + 1))), (0, .ref pa), (1, .ref a)]) (show [2, 0, 1].Nodup by decide) ⟨rfl, rfl, rfl, trivial⟩ ?_
        rw [show (i : Int) + 1 = ((i + 1 : Nat) : Int) by omega]
        have hT : (((T ++ [91]) ++ xdg (l.getD i 0).toNat) ++ [93]) = T ++ xwS (l.getD i 0) := by
          unfold xwS
          rw [if_neg (by omega)]
          rw [List.append_assoc, List.append_assoc]; rfl
        rw [hT] at bt38
        refine ih (k - 1) (by omega) (i + 1) B38 v38 n38 (T ++ xwS (l.getD i 0)) (by omega) (by rw [List.length_append]; omega) bt38.1 hp38 k338 (by omega) (fun A' v' n' h => hQ A' v' n' ?_)
        have h2 := ybg_trans bt38 h (by simp only [List.length_append]; omega)
        rw [show xwP (l.drop i) = xwS (l.getD i 0) ++ xwP (l.drop (i + 1)) by rw [hdrop]; rfl, ← List.append_assoc]
        exact h2
      · refine xr_steps (pc' := 32) (L' := [(2, .int (Int32.ofInt (i : Int))), (0, .ref pa), (1, .ref a)]) (st' := [.int (Int32.ofInt 46), .ref a]) 2 rfl ?_
        refine xr_call (q := (.invokevirtual 71, 3, 15, 2)) (av := [.ref a, .int (Int32.ofInt 46)]) (rest := []) rfl rfl (by decide) rfl (xr_rcv rfl hb.choose_spec.choose_spec.1.1) (Nat.le_of_ble_eq_true rfl) (mb_15l (L := T) hb (by first | omega | (simp only [List.length_append, List.length_cons, List.length_nil]; omega)) (by omega) (by omega)) ?_
        rintro _ B40 ⟨rfl, v40, n40, bg40⟩
        have bl40 := bg40.1
        have nn40 := bg40.2.2.1
        have hm40 := ypa_bl hp hb
        have hp40 := ypa_fr hp bg40.2.1 hm40.1 hm40.2
        have k340 := yk3_fr hk3 bg40.2.1 (fun x hx => by have := ybl_lt hb; simp only [List.mem_cons, List.not_mem_nil, or_false] at hx; omega)
        obtain ⟨g41, p41a, p41b, p41c, -⟩ := id hp40
        refine xr_steps (pc' := 36) (L' := [(2, .int (Int32.ofInt (i : Int))), (0, .ref pa), (1, .ref a)]) (st' := [.ref pa, .ref a]) 1 rfl ?_
        refine xr_getf (v := .ref ro) rfl p41a rfl ?_
        refine xr_steps (pc' := 40) (L' := [(2, .int (Int32.ofInt (i : Int))), (0, .ref pa), (1, .ref a)]) (st' := [.int (Int32.ofInt (i : Int)), .ref ro, .ref a]) 1 rfl ?_
        refine xr_iaload rfl p41b (by omega) (by omega) (by omega) ?_
        rw [show (i : Int).toNat = i by omega]
        rw [p41c i (by omega)]
        refine xr_steps (pc' := 44) (L' := [(2, .int (Int32.ofInt (i : Int))), (0, .ref pa), (1, .ref a)]) (st' := [.int (Int32.ofInt 1000), .int (Int32.ofInt (l.getD i 0)), .ref a]) 1 rfl ?_
        refine xr_isub rfl ?_
        refine xr_i2c rfl (by omega) ?_
        refine xr_call (q := (.invokevirtual 71, 3, 15, 2)) (av := [.ref a, .int (Int32.ofInt ((l.getD i 0) - 1000))]) (rest := []) rfl rfl (by decide) rfl (xr_rcv rfl bl40.choose_spec.choose_spec.1.1) (Nat.le_of_ble_eq_true rfl) (mb_15l (L := (T ++ [46])) bl40 (by first | omega | (simp only [List.length_append, List.length_cons, List.length_nil]; omega)) (by omega) (by omega)) ?_
        rintro _ B42 ⟨rfl, v42, n42, bg42⟩
        have bl42 := bg42.1
        have nn42 := bg42.2.2.1
        have hm42 := ypa_bl hp40 bl40
        have hp42 := ypa_fr hp40 bg42.2.1 hm42.1 hm42.2
        have k342 := yk3_fr k340 bg42.2.1 (fun x hx => by have := ybl_lt bl40; simp only [List.mem_cons, List.not_mem_nil, or_false] at hx; omega)
        have bt42 := ybg_trans bg40 bg42 (by first | omega | (simp only [List.length_append, List.length_cons, List.length_nil]; omega))
        obtain ⟨g43, p43a, p43b, p43c, -⟩ := id hp42
        refine xr_steps (pc' := 74) (L' := [(2, .int (Int32.ofInt (i : Int))), (0, .ref pa), (1, .ref a)]) (st' := []) 2 rfl ?_
        refine xr_iinc (L' := [(2, .int (Int32.ofInt ((i : Int) + 1))), (0, .ref pa), (1, .ref a)]) rfl rfl rfl ?_
        refine xr_steps (pc' := 9) (L' := [(2, .int (Int32.ofInt ((i : Int) + 1))), (0, .ref pa), (1, .ref a)]) (st' := []) 1 rfl ?_
        refine xr_loc (L := [(2, .int (Int32.ofInt ((i : Int) + 1))), (0, .ref pa), (1, .ref a)]) (show [2, 0, 1].Nodup by decide) ⟨rfl, rfl, rfl, trivial⟩ ?_
        rw [show (i : Int) + 1 = ((i + 1 : Nat) : Int) by omega]
        have hT : ((T ++ [46]) ++ [(l.getD i 0) - 1000]) = T ++ xwS (l.getD i 0) := by
          unfold xwS
          rw [if_pos (by omega)]
          rw [List.append_assoc]; rfl
        rw [hT] at bt42
        refine ih (k - 1) (by omega) (i + 1) B42 v42 n42 (T ++ xwS (l.getD i 0)) (by omega) (by rw [List.length_append]; omega) bt42.1 hp42 k342 (by omega) (fun A' v' n' h => hQ A' v' n' ?_)
        have h2 := ybg_trans bt42 h (by simp only [List.length_append]; omega)
        rw [show xwP (l.drop i) = xwS (l.getD i 0) ++ xwP (l.drop (i + 1)) by rw [hdrop]; rfl, ← List.append_assoc]
        exact h2
/-- Path.appendTo an empty builder -/
theorem mb_179 {A : xb_H} {v n : Nat} (hs : ∀ i : Nat, i < l.length → (0 ≤ l.getD i 0 ∧ l.getD i 0 ≤ 99) ∨ (1000 ≤ l.getD i 0 ∧ l.getD i 0 ≤ 1127)) (hl5 : l.length ≤ 5) (hb : ybl A a v n []) (hp : ypa A pa ro rm l) (hk3 : yk3 A) (h16 : 16 ≤ n) : xr_ok (xt_G w) (d + 1 + 1 + 1 + 1 + 1 + 1) 179 0 [(0, .ref pa), (1, .ref a)] [] A (fun o A' => ∃ v0, o = .inl v0 ∧ v0 = none ∧ ∃ v' n' : Nat, ybg A A' a v n v' n' (36 :: xwP l)) := by
  have hl50 := hp.choose_spec.2.2.2.1
  obtain ⟨g31, p31a, p31b, p31c, -⟩ := id hp
  refine xr_steps (pc' := 3) (L' := [(0, .ref pa), (1, .ref a)]) (st' := [.int (Int32.ofInt 36), .ref a]) 2 rfl ?_
  refine xr_call (q := (.invokevirtual 71, 3, 15, 2)) (av := [.ref a, .int (Int32.ofInt 36)]) (rest := []) rfl rfl (by decide) rfl (xr_rcv rfl hb.choose_spec.choose_spec.1.1) (Nat.le_of_ble_eq_true rfl) (mb_15l (L := []) hb (by first | omega | (simp only [List.length_append, List.length_cons, List.length_nil]; omega)) (by omega) (by omega)) ?_
  rintro _ B32 ⟨rfl, v32, n32, bg32⟩
  have bl32 := bg32.1
  have nn32 := bg32.2.2.1
  have hm32 := ypa_bl hp hb
  have hp32 := ypa_fr hp bg32.2.1 hm32.1 hm32.2
  have k332 := yk3_fr hk3 bg32.2.1 (fun x hx => by have := ybl_lt hb; simp only [List.mem_cons, List.not_mem_nil, or_false] at hx; omega)
  obtain ⟨g33, p33a, p33b, p33c, -⟩ := id hp32
  refine xr_steps (pc' := 9) (L' := [(2, .int (Int32.ofInt 0)), (0, .ref pa), (1, .ref a)]) (st' := []) 3 rfl ?_
  refine mb_179l (rm := rm) hs hl5 l.length 0 B32 v32 n32 ([] ++ [36]) (by omega) (by decide) bl32 hp32 k332 (by omega) (fun A' v' n' h => ⟨_, rfl, rfl, v', n', ?_⟩)
  have h2 := ybg_trans bg32 h (by simp only [List.length_append]; omega)
  rw [List.drop_zero] at h2
  exact h2
end AP
