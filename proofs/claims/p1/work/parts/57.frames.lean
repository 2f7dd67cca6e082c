/-! Frames; the builder with growth -/
/-- behind a call: no more than p addresses and q slots more; outside of M the old cells are as they were -/
def yfr (A A' : xb_H) (M : List Nat) (p q : Nat) : Prop := (A.1 ≤ A'.1 ∧ A'.1 ≤ A.1 + p) ∧ (A.2.1 ≤ A'.2.1 ∧ A'.2.1 ≤ A.2.1 + q) ∧ ∀ x, x < A.1 → ¬ x ∈ M → xb_get A' x = xb_get A x
theorem yfr_refl (A : xb_H) (M : List Nat) (p q : Nat) : yfr A A M p q := ⟨⟨Nat.le_refl _, by omega⟩, ⟨Nat.le_refl _, by omega⟩, fun _ _ _ => rfl⟩
theorem yfr_set {A : xb_H} {a : Nat} {o o' : xb_O} {M : List Nat} (h : xb_get A a = some o') (hm : a ∈ M) (p q : Nat) : yfr A (xb_set A a o) M p q := by
  refine ⟨⟨Nat.le_refl _, Nat.le_add_right _ _⟩, ⟨Nat.le_refl _, Nat.le_add_right _ _⟩, fun x hx hxm => ?_⟩
  rw [xb_get_set (xb_get_lt h), if_neg]
  rintro rfl
  exact hxm hm
theorem yfr_new {A : xb_H} {n : Nat} {o : xb_O} (M : List Nat) {p q : Nat} (hp : 1 ≤ p) (hq : n ≤ q) : yfr A (xb_new A n o) M p q := by
  refine ⟨⟨Nat.le_succ _, Nat.add_le_add_left hp _⟩, ⟨Nat.le_add_right _ _, Nat.add_le_add_left hq _⟩, fun x hx _ => ?_⟩
  rw [xb_get_new, if_neg (by omega)]
/-- one frame behind another; cells that the first made are free -/
theorem yfr_trans {A B C : xb_H} {M N : List Nat} {p q p' q' : Nat} (h1 : yfr A B M p q) (h2 : yfr B C N p' q') (hN : ∀ x ∈ N, x ∈ M ∨ A.1 ≤ x) : yfr A C M (p + p') (q + q') := by
  obtain ⟨⟨a1, a2⟩, ⟨a3, a4⟩, a5⟩ := h1
  obtain ⟨⟨b1, b2⟩, ⟨b3, b4⟩, b5⟩ := h2
  refine ⟨⟨by omega, by omega⟩, ⟨by omega, by omega⟩, fun x hx hm => ?_⟩
  rw [b5 x (by omega) (fun hxn => (hN x hxn).elim hm (fun h => by omega)), a5 x hx hm]
theorem yfr_mono {A B : xb_H} {M N : List Nat} {p q p' q' : Nat} (h : yfr A B M p q) (hM : ∀ x ∈ M, x ∈ N ∨ A.1 ≤ x) (hp : p ≤ p') (hq : q ≤ q') : yfr A B N p' q' := by
  obtain ⟨⟨a1, a2⟩, ⟨a3, a4⟩, a5⟩ := h
  exact ⟨⟨a1, by omega⟩, ⟨a3, by omega⟩, fun x hx hn => a5 x hx (fun hm => (hM x hm).elim hn (fun h => by omega))⟩
theorem yfr_get {A B : xb_H} {M : List Nat} {p q x : Nat} {o : xb_O} (h : yfr A B M p q) (hx : xb_get A x = some o) (hm : ¬ x ∈ M) : xb_get B x = some o := by
  rw [h.2.2 x (xb_get_lt hx) hm]
  exact hx
section XCP
variable {G : xb_G} {d y pc : Nat} {L : xb_L} {st : List Value} {A : xb_H} {Q : xb_R → xb_H → Prop}
theorem xr_toNatC {i : Int} (h0 : 0 ≤ i) (h1 : i ≤ 2147483646) : ¬ (Int32.ofInt i < 0) ∧ (Int32.ofInt i).toNatClampNeg = i.toNat := by
  obtain ⟨e1, e2⟩ := xr_in (i := i) (n := 2147483647) h0 (by omega) (by omega)
  refine ⟨?_, e2⟩
  rw [Int32.lt_iff_toInt_lt, xr_toInt (by omega), Int32.toInt_zero]
  omega
theorem xr_fitB {v : Int} (h : 0 ≤ v ∧ v ≤ 127) : fits .byte (.int (Int32.ofInt v)) = true := by
  show (decide (Int32.ofInt (-128) ≤ Int32.ofInt v) && decide (Int32.ofInt v ≤ Int32.ofInt 127)) = true
  rw [decide_eq_true ((xr_leI (by omega) (by omega)).mpr (by omega)), decide_eq_true ((xr_leI (by omega) (by omega)).mpr h.2)]
  rfl
/-- System.arraycopy between rows of bytes that hold characters -/
theorem xr_cpy {idx a b n0 n1 : Nat} {sp dp n : Int} {f g : Nat → Int} (hq : xb_gP G y pc = some (.invokestatic idx, 3, 0, 5)) (ha : xb_get A a = some (.inl (.byte, n0, .inl fun j => Int32.ofInt (f j)))) (hb : xb_get A b = some (.inl (.byte, n1, .inl fun j => Int32.ofInt (g j)))) (hz : xb_z ≤ b) (hs : 0 ≤ sp) (hdp : 0 ≤ dp) (hn : 0 ≤ n) (h0 : sp + n ≤ n0) (h1 : dp + n ≤ n1) (hN : n0 ≤ 65536 ∧ n1 ≤ 65536) (hd : 1 ≤ d) (hc : (st.map fun v => v.category).sum ≤ 8) (hf : ∀ j : Nat, j < n0 → 0 ≤ f j ∧ f j ≤ 127)
    (kk : xr_ok G d y (pc + 3) L st (xb_set A b (.inl (.byte, n1, .inl fun j => Int32.ofInt (va_cpy f g sp.toNat dp.toNat n.toNat j)))) Q) : xr_ok G d y pc L (.int (Int32.ofInt n) :: .int (Int32.ofInt dp) :: .ref b :: .int (Int32.ofInt sp) :: .ref a :: st) A Q := by
  obtain ⟨s1, s2⟩ := xr_toNatC hs (by omega)
  obtain ⟨d1, d2⟩ := xr_toNatC hdp (by omega)
  obtain ⟨n1', n2'⟩ := xr_toNatC hn (by omega)
  refine xr_obj hq rfl rfl ?_ kk
  show xb_cpyx d pc L A (.int (Int32.ofInt n) :: .int (Int32.ofInt dp) :: .ref b :: .int (Int32.ofInt sp) :: .ref a :: st) = _
  unfold xb_cpyx
  simp only [ha, hb]
  have hall : (List.range n.toNat).all (fun i => fits .byte (.int (Int32.ofInt (f (sp.toNat + i))))) = true := by
    rw [List.all_eq_true]
    intro j hj
    rw [List.mem_range] at hj
    exact xr_fitB (hf _ (by omega))
  have hfn : va_cpy (fun j => Int32.ofInt (f j)) (fun j => Int32.ofInt (g j)) sp.toNat dp.toNat n.toNat = fun j => Int32.ofInt (va_cpy f g sp.toNat dp.toNat n.toNat j) := by
    funext j
    unfold va_cpy
    split <;> rfl
  rw [s2, d2, n2', if_pos ⟨hz, s1, d1, n1', by omega, by omega, hd, hc, hall⟩, hfn]
end XCP
/-- a builder: its row v of n bytes, c of them characters -/
def yb (A : xb_H) (a v n : Nat) (m : Int32) (c : Nat) (f : Nat → Int) : Prop := xb_get A a = some (.inr (11, [.ref v, .int 0, .int m, .int (Int32.ofInt c)])) ∧ xb_get A v = some (.inl (.byte, n, .inl fun j => Int32.ofInt (f j))) ∧ (c ≤ n ∧ n ≤ 1000) ∧ (64 ≤ a ∧ 64 ≤ v) ∧ ∀ j : Nat, j < n → 0 ≤ f j ∧ f j ≤ 127
/-- Arrays.copyOf of bytes to more -/
theorem mb_22 {w : Value} {d : Nat} {A : xb_H} {v n : Nat} {f : Nat → Int} {k : Int} (hv : xb_get A v = some (.inl (.byte, n, .inl fun j => Int32.ofInt (f j)))) (hn : n ≤ 1000) (hk : (n : Int) < k ∧ k ≤ 5000) (hf : ∀ j : Nat, j < n → 0 ≤ f j ∧ f j ≤ 127) (hA : 64 ≤ A.1) : xr_ok (xt_G w) (d + 1) 22 0 [(0, .ref v), (1, .int (Int32.ofInt k))] [] A (fun o A' => ∃ r, o = .inl r ∧ r = some (.ref A.1) ∧ A' = xb_set (xb_new A k.toNat (.inl (.byte, k.toNat, .inl fun _ => Int32.ofInt 0))) A.1 (.inl (.byte, k.toNat, .inl fun j => Int32.ofInt (va_cpy f (fun _ => 0) 0 0 n j)))) := by
  refine xr_steps (pc' := 2) (L' := [(0, .ref v), (1, .int (Int32.ofInt k))]) (st' := [.ref v, .int (Int32.ofInt k)]) 2 rfl ?_
  refine xr_alen rfl hv ?_
  refine xr_icmp_ne rfl (by omega) (by omega) (fun _ => ?_) (fun h => absurd h (by omega))
  refine xr_steps (pc' := 15) (L' := [(0, .ref v), (1, .int (Int32.ofInt k))]) (st' := [.int (Int32.ofInt k)]) 1 rfl ?_
  obtain ⟨A1, e1⟩ : ∃ A1, xb_new A k.toNat (.inl (.byte, k.toNat, .inl fun _ => Int32.ofInt 0)) = A1 := ⟨_, rfl⟩
  refine xr_newA rfl (by omega) rfl (xr_heap e1 ?_)
  have g1 := xr_mv e1 (xb_get_new_old hv)
  have g2 := xr_mv e1 xb_get_new_same
  rw [e1]
  refine xr_steps (pc' := 22) (L' := [(2, .ref A.1), (0, .ref v), (1, .int (Int32.ofInt k))]) (st' := [.int (Int32.ofInt 0), .ref A.1, .int (Int32.ofInt 0), .ref v]) 5 rfl ?_
  refine xr_steps (pc' := 23) (L' := [(2, .ref A.1), (0, .ref v), (1, .int (Int32.ofInt k))]) (st' := [.ref v, .int (Int32.ofInt 0), .ref A.1, .int (Int32.ofInt 0), .ref v]) 1 rfl ?_
  refine xr_alen rfl g1 ?_
  refine xr_steps (pc' := 25) (L' := [(2, .ref A.1), (0, .ref v), (1, .int (Int32.ofInt k))]) (st' := [.int (Int32.ofInt k), .int (Int32.ofInt n), .int (Int32.ofInt 0), .ref A.1, .int (Int32.ofInt 0), .ref v]) 1 rfl ?_
  refine xr_min rfl (by omega) (by omega) (by omega) (show 4 ≤ 8 by omega) ?_
  rw [Int.min_eq_left (by omega)]
  refine xr_cpy (g := fun _ => 0) rfl g1 g2 hA (by omega) (by omega) (by omega) (by omega) (by omega) (by omega) (by omega) (show 0 ≤ 8 by omega) hf ?_
  refine xr_steps (pc' := 32) (L' := [(2, .ref A.1), (0, .ref v), (1, .int (Int32.ofInt k))]) (st' := [.ref A.1]) 1 rfl ?_
  exact xr_retR rfl rfl ⟨_, rfl, rfl, rfl⟩
/-- ensureCapacityInternal, where the row is too short -/
theorem mb_17g {w : Value} {d : Nat} {A : xb_H} {a v n c : Nat} {m : Int32} {f : Nat → Int} {k : Int} (hb : yb A a v n m c f) (hk : (n : Int) < k ∧ k ≤ 300) :
    xr_ok (xt_G w) (d + 1 + 1 + 1) 17 0 [(0, .ref a), (1, .int (Int32.ofInt k))] [] A (fun o A' => ∃ r, o = .inl r ∧ r = none ∧ ∃ (n' : Nat) (f' : Nat → Int), yb A' a A.1 n' m c f' ∧ k ≤ n' ∧ n' ≤ 2 * k.toNat + 2 ∧ (∀ j : Nat, j < n → f' j = f j) ∧ yfr A A' [a] 1 602) := by
  obtain ⟨h, hv, ⟨hc, hn⟩, ⟨ha, hvz⟩, hf⟩ := hb
  have hA : 64 ≤ A.1 := by have := xb_get_lt h; omega
  have hne : ¬ a = A.1 := by have := xb_get_lt h; omega
  refine xr_steps (pc' := 1) 1 rfl ?_
  refine xr_getf (v := .ref v) rfl h rfl ?_
  refine xr_alen rfl hv ?_
  refine xr_steps (pc' := 6) 1 rfl ?_
  refine xr_getf (v := .int 0) rfl h rfl ?_
  refine xr_pure (pc' := 10) (L' := [(0, .ref a), (1, .int (Int32.ofInt k))]) (st' := [.int (Int32.ofInt n)]) (A' := A) (q := (.ishr, 1, 0, 0)) rfl rfl ?_ ?_
  · show some (10, _, [Value.int (Int32.ofInt n >>> ((0 : Int32) &&& 31))], A) = _
    rw [xr_shr0]
  refine xr_steps (pc' := 13) (L' := [(2, .int (Int32.ofInt n)), (0, .ref a), (1, .int (Int32.ofInt k))]) (st' := [.int (Int32.ofInt n), .int (Int32.ofInt k)]) 3 rfl ?_
  refine xr_isub rfl ?_
  refine xr_if_le rfl (by omega) (fun hh => absurd hh (by omega)) (fun _ => ?_)
  refine xr_steps (pc' := 19) (L' := [(2, .int (Int32.ofInt n)), (0, .ref a), (1, .int (Int32.ofInt k))]) (st' := [.ref a, .ref a]) 2 rfl ?_
  refine xr_getf (v := .ref v) rfl h rfl ?_
  refine xr_steps (pc' := 24) (L' := [(2, .int (Int32.ofInt n)), (0, .ref a), (1, .int (Int32.ofInt k))]) (st' := [.int (Int32.ofInt k), .ref a, .ref v, .ref a]) 2 rfl ?_
  refine xr_call (q := (.invokevirtual 104, 3, 18, 2)) (av := [.ref a, .int (Int32.ofInt k)]) (rest := [.ref v, .ref a]) rfl rfl (by decide) rfl (xr_rcv rfl h) (Nat.le_of_ble_eq_true rfl) (mm_18 h rfl rfl hv (by omega) (by omega)) ?_
  rintro _ _ ⟨rfl, eA⟩
  rw [eA]
  clear eA
  obtain ⟨k2, hk2, hk3⟩ : ∃ k2 : Int, k2 = (n : Int) + max (k - n) ((n : Int) + 2) ∧ (k ≤ k2 ∧ k2 ≤ 2 * k + 2) := ⟨_, rfl, by omega⟩
  rw [← hk2]
  clear hk2
  refine xr_steps (pc' := 28) (L' := [(2, .int (Int32.ofInt n)), (0, .ref a), (1, .int (Int32.ofInt k))]) (st' := [.ref a, .int (Int32.ofInt k2), .ref v, .ref a]) 1 rfl ?_
  refine xr_getf (v := .int 0) rfl h rfl ?_
  refine xr_pure (pc' := 32) (L' := [(2, .int (Int32.ofInt n)), (0, .ref a), (1, .int (Int32.ofInt k))]) (st' := [.int (Int32.ofInt k2), .ref v, .ref a]) (A' := A) (q := (.ishl, 1, 0, 0)) rfl rfl ?_ ?_
  · show some (32, _, [Value.int (Int32.ofInt k2 <<< ((0 : Int32) &&& 31)), .ref v, .ref a], A) = _
    rw [xr_shl0]
  refine xr_call (q := (.invokestatic 108, 3, 22, 2)) (av := [.ref v, .int (Int32.ofInt k2)]) (rest := [.ref a]) rfl rfl (by decide) rfl rfl (Nat.le_of_ble_eq_true rfl) (mb_22 hv (by omega) (by omega) hf hA) ?_
  rintro _ A2 ⟨rfl, e2⟩
  obtain ⟨A1, e1⟩ : ∃ A1, xb_new A k2.toNat (.inl (.byte, k2.toNat, .inl fun _ => Int32.ofInt 0)) = A1 := ⟨_, rfl⟩
  rw [e1] at e2
  have n1 : A1.1 = A.1 + 1 := by rw [← e1]; rfl
  have g1 := xr_mv e1 xb_get_new_same
  have g2 := xr_mv e2.symm (xb_get_set_same (o := .inl (.byte, k2.toNat, .inl fun j => Int32.ofInt (va_cpy f (fun _ => 0) 0 0 n j))) g1)
  have g3 := xr_mv e2.symm (xb_get_set_ne (o := .inl (.byte, k2.toNat, .inl fun j => Int32.ofInt (va_cpy f (fun _ => 0) 0 0 n j))) g1 (xr_mv e1 (xb_get_new_old h)) hne)
  have f1 : yfr A A1 [a] 1 602 := by rw [← e1]; exact yfr_new _ (Nat.le_refl _) (by omega)
  have f2 : yfr A1 A2 [A.1] 0 0 := by rw [e2]; exact yfr_set g1 (List.mem_singleton.mpr rfl) 0 0
  obtain ⟨A3, e3⟩ : ∃ A3, xb_set A2 a (.inr (11, [.ref A.1, .int 0, .int m, .int (Int32.ofInt c)])) = A3 := ⟨_, rfl⟩
  refine xr_putf (t := .array (.byte)) rfl g3 ha (Nat.le_of_ble_eq_true rfl) rfl (xr_fitR _ rfl) (xr_heap e3 ?_)
  have f3 : yfr A2 A3 [a] 0 0 := by rw [← e3]; exact yfr_set g3 (List.mem_singleton.mpr rfl) 0 0
  refine xr_retN rfl rfl ⟨_, rfl, rfl, k2.toNat, va_cpy f (fun _ => 0) 0 0 n, ⟨xr_mv e3 (xb_get_set_same g3), xr_mv e3 (xb_get_set_ne g3 g2 (fun z => hne z.symm)), ⟨by omega, by omega⟩, ⟨ha, hA⟩, ?_⟩, by omega, by omega, ?_, ?_⟩
  · intro j hj
    unfold va_cpy
    split
    · have e : 0 + (j - 0) = j := by omega
      rw [e]
      exact hf j (by omega)
    · show 0 ≤ (0 : Int) ∧ (0 : Int) ≤ 127
      omega
  · intro j hj
    unfold va_cpy
    rw [if_pos (by omega)]
    congr 1
    omega
  · refine yfr_mono (yfr_trans (yfr_trans f1 f2 (fun x hx => Or.inr ?_)) f3 (fun x hx => Or.inl hx)) (fun x hx => Or.inl hx) (by omega) (by omega)
    rw [List.mem_singleton] at hx
    omega
/-- ensureCapacityInternal -/
theorem mb_17 {w : Value} {d : Nat} {A : xb_H} {a v n c : Nat} {m : Int32} {f : Nat → Int} {k : Int} (hb : yb A a v n m c f) (hk : 0 ≤ k ∧ k ≤ 300) :
    xr_ok (xt_G w) (d + 1 + 1 + 1) 17 0 [(0, .ref a), (1, .int (Int32.ofInt k))] [] A (fun o A' => ∃ r, o = .inl r ∧ r = none ∧ ∃ (v' n' : Nat) (f' : Nat → Int), yb A' a v' n' m c f' ∧ k ≤ n' ∧ (n' = n ∨ n' ≤ 2 * k.toNat + 2) ∧ (∀ j : Nat, j < n → f' j = f j) ∧ yfr A A' [a] 1 602 ∧ (v' = v ∨ v' = A.1)) := by
  by_cases hkn : k ≤ n
  · have hb' := hb
    obtain ⟨h, hv, ⟨hc, hn⟩, ⟨ha, hvz⟩, hf⟩ := hb'
    refine xr_conseq (mm_17 h rfl rfl hv (by omega) (by omega)) ?_
    rintro o A' ⟨r, h1, h2, h3⟩
    rw [h3]
    exact ⟨r, h1, h2, v, n, f, hb, by omega, Or.inl rfl, fun _ _ => rfl, yfr_refl _ _ _ _, Or.inl rfl⟩
  · refine xr_conseq (mb_17g hb (by omega)) ?_
    rintro o A' ⟨r, h1, h2, n', f', h3, h4, h5, h6, h7⟩
    exact ⟨r, h1, h2, A.1, n', f', h3, h4, Or.inr h5, h6, h7, Or.inr rfl⟩
theorem xr_narB {v : Int} (h : 0 ≤ v ∧ v ≤ 127) : vp_nar .byte ((Int32.ofInt v).toInt8.toInt32) = Int32.ofInt v := by
  have key : ∀ n : Fin 128, vp_nar .byte ((Int32.ofInt (n.val : Int)).toInt8.toInt32) = Int32.ofInt (n.val : Int) := by decide +kernel
  have := key ⟨v.toNat, by omega⟩
  have e : ((v.toNat : Nat) : Int) = v := by omega
  simp only [e] at this
  exact this
/-- AbstractStringBuilder.append of a character -/
theorem mb_16 {w : Value} {d : Nat} {A : xb_H} {a v n c : Nat} {m : Int32} {f : Nat → Int} {ch : Int} (hb : yb A a v n m c f) (hc1 : c ≤ 200) (hch : 0 ≤ ch ∧ ch ≤ 127) :
    xr_ok (xt_G w) (d + 1 + 1 + 1 + 1) 16 0 [(0, .ref a), (1, .int (Int32.ofInt ch))] [] A (fun o A' => ∃ r, o = .inl r ∧ r = some (.ref a) ∧ ∃ (v' n' : Nat) (f' : Nat → Int), yb A' a v' n' m (c + 1) f' ∧ (n' = n ∨ n' ≤ 2 * c + 4) ∧ (∀ j : Nat, j < c → f' j = f j) ∧ f' c = ch ∧ yfr A A' [a, v] 1 602 ∧ (v' = v ∨ v' = A.1)) := by
  have hb' := hb
  obtain ⟨h, hv, ⟨hc, hn⟩, ⟨ha, hvz⟩, hf⟩ := hb'
  refine xr_steps (pc' := 2) 2 rfl ?_
  refine xr_getf (v := .int (Int32.ofInt c)) rfl h rfl ?_
  refine xr_steps (pc' := 6) (L' := [(0, .ref a), (1, .int (Int32.ofInt ch))]) (st' := [.int (Int32.ofInt 1), .int (Int32.ofInt c), .ref a]) 1 rfl ?_
  refine xr_iadd rfl ?_
  refine xr_call (q := (.invokevirtual 100, 3, 17, 2)) (av := [.ref a, .int (Int32.ofInt ((c : Int) + 1))]) (rest := []) rfl rfl (by decide) rfl (xr_rcv rfl h) (Nat.le_of_ble_eq_true rfl) (mb_17 hb (by omega)) ?_
  rintro _ A1 ⟨rfl, v1, n1, f1, hb1, hk1, hn1, hf1, fr1, hv1⟩
  have hne1 : ¬ v1 = a := by
    intro e
    obtain ⟨q1, q2, -⟩ := hb1
    rw [e, q1] at q2
    cases q2
  obtain ⟨g, gv, ⟨gc, gn⟩, ⟨-, gvz⟩, gf⟩ := hb1
  refine xr_steps (pc' := 11) (L' := [(0, .ref a), (1, .int (Int32.ofInt ch))]) (st' := [.ref a]) 1 rfl ?_
  refine xr_call (q := (.invokevirtual 83, 3, 24, 1)) (av := [.ref a]) (rest := []) rfl rfl (by decide) rfl (xr_rcv rfl g) (Nat.le_of_ble_eq_true rfl) (mm_24 g rfl) ?_
  rintro _ _ ⟨rfl, eA⟩
  rw [eA]
  clear eA
  refine xr_steps (pc' := 18) (L' := [(0, .ref a), (1, .int (Int32.ofInt ch))]) (st' := [.int (Int32.ofInt ch)]) 2 rfl ?_
  refine xr_call (q := (.invokestatic 191, 3, 25, 1)) (av := [.int (Int32.ofInt ch)]) (rest := []) rfl rfl (by decide) rfl rfl (Nat.le_of_ble_eq_true rfl) (mm_25 (by omega)) ?_
  rintro _ _ ⟨rfl, eA⟩
  rw [eA]
  clear eA
  refine xr_steps (pc' := 25) (L' := [(0, .ref a), (1, .int (Int32.ofInt ch))]) (st' := [.ref a]) 2 rfl ?_
  refine xr_getf (v := .ref v1) rfl g rfl ?_
  refine xr_steps (pc' := 30) (L' := [(0, .ref a), (1, .int (Int32.ofInt ch))]) (st' := [.ref a, .ref a, .ref v1]) 2 rfl ?_
  refine xr_getf (v := .int (Int32.ofInt c)) rfl g rfl ?_
  refine xr_steps (pc' := 35) (L' := [(0, .ref a), (1, .int (Int32.ofInt ch))]) (st' := [.int (Int32.ofInt 1), .int (Int32.ofInt c), .ref a, .int (Int32.ofInt c), .ref v1]) 2 rfl ?_
  refine xr_iadd rfl ?_
  have ec : (c : Int) + 1 = ((c + 1 : Nat) : Int) := by omega
  rw [ec]
  obtain ⟨A2, e2⟩ : ∃ A2, xb_set A1 a (.inr (11, [.ref v1, .int 0, .int m, .int (Int32.ofInt ((c + 1 : Nat) : Int))])) = A2 := ⟨_, rfl⟩
  refine xr_putf (t := .int) rfl g ha (Nat.le_of_ble_eq_true rfl) rfl (xr_fitI _) (xr_heap e2 ?_)
  have g2 := xr_mv e2 (xb_get_set_same g)
  have gv2 := xr_mv e2 (xb_get_set_ne g gv hne1)
  have fr2 : yfr A1 A2 [a] 0 0 := by rw [← e2]; exact yfr_set g (List.mem_singleton.mpr rfl) 0 0
  refine xr_steps (pc' := 41) (L' := [(0, .ref a), (1, .int (Int32.ofInt ch))]) (st' := [.int ((Int32.ofInt ch).toInt8.toInt32), .int (Int32.ofInt c), .ref v1]) 2 rfl ?_
  obtain ⟨A3, e3⟩ : ∃ A3, xb_set A2 v1 (.inl (.byte, n1, .inl fun j => Int32.ofInt (va_up f1 c ch j))) = A3 := ⟨_, rfl⟩
  refine xr_bastore rfl gv2 gvz (by omega) (by omega) (by omega) (xr_heap ?_ (xr_heap e3 ?_))
  · rw [xr_narB hch, xr_updN]
    rfl
  have fr3 : yfr A2 A3 [v1] 0 0 := by rw [← e3]; exact yfr_set gv2 (List.mem_singleton.mpr rfl) 0 0
  refine xr_steps (pc' := 76) (L' := [(0, .ref a), (1, .int (Int32.ofInt ch))]) (st' := [.ref a]) 2 rfl ?_
  refine xr_retR rfl rfl ⟨_, rfl, rfl, v1, n1, va_up f1 c ch, ⟨xr_mv e3 (xb_get_set_ne gv2 g2 (fun z => hne1 z.symm)), xr_mv e3 (xb_get_set_same gv2), ⟨by omega, gn⟩, ⟨ha, gvz⟩, ?_⟩, by omega, ?_, ya_up_same _ _ _, ?_, hv1⟩
  · intro j hj
    unfold va_up
    split
    · exact hch
    · exact gf j hj
  · intro j hj
    rw [ya_up_ne _ _ (by omega)]
    exact hf1 j (by omega)
  · have fr4 : yfr A A1 [a, v] 1 602 := yfr_mono fr1 (fun x hx => Or.inl (by rw [List.mem_singleton] at hx; rw [hx]; exact List.mem_cons_self)) (by omega) (by omega)
    refine yfr_mono (yfr_trans (yfr_trans fr4 fr2 (fun x hx => Or.inl (by rw [List.mem_singleton] at hx; rw [hx]; exact List.mem_cons_self))) fr3 (fun x hx => ?_)) (fun x hx => Or.inl hx) (by omega) (by omega)
    rw [List.mem_singleton] at hx
    subst hx
    rcases hv1 with rfl | rfl
    · exact Or.inl (List.mem_cons_of_mem _ (List.mem_singleton.mpr rfl))
    · exact Or.inr (Nat.le_refl _)
/-- StringBuilder.append of a character -/
theorem mb_15 {w : Value} {d : Nat} {A : xb_H} {a v n c : Nat} {m : Int32} {f : Nat → Int} {ch : Int} (hb : yb A a v n m c f) (hc1 : c ≤ 200) (hch : 0 ≤ ch ∧ ch ≤ 127) :
    xr_ok (xt_G w) (d + 1 + 1 + 1 + 1 + 1) 15 0 [(0, .ref a), (1, .int (Int32.ofInt ch))] [] A (fun o A' => ∃ r, o = .inl r ∧ r = some (.ref a) ∧ ∃ (v' n' : Nat) (f' : Nat → Int), yb A' a v' n' m (c + 1) f' ∧ (n' = n ∨ n' ≤ 2 * c + 4) ∧ (∀ j : Nat, j < c → f' j = f j) ∧ f' c = ch ∧ yfr A A' [a, v] 1 602 ∧ (v' = v ∨ v' = A.1)) := by
  refine xr_steps (pc' := 2) (L' := [(0, .ref a), (1, .int (Int32.ofInt ch))]) (st' := [.int (Int32.ofInt ch), .ref a]) 2 rfl ?_
  refine xr_call (q := (.invokespecial 50, 3, 16, 2)) (av := [.ref a, .int (Int32.ofInt ch)]) (rest := []) rfl rfl (by decide) rfl (xr_rcv rfl hb.1) (Nat.le_of_ble_eq_true rfl) (mb_16 hb hc1 hch) ?_
  rintro _ A1 ⟨rfl, hR⟩
  refine xr_steps (pc' := 7) (L' := [(0, .ref a), (1, .int (Int32.ofInt ch))]) (st' := [.ref a]) 2 rfl ?_
  exact xr_retR rfl rfl ⟨_, rfl, rfl, hR⟩
