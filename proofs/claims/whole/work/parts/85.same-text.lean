/-! The reference: how many parts, the member of a key, the same text -/
section MPS
variable {w : Value} {d : Nat} {A : xb_H} {s : Nat → Int} {t : Nat → Nat → Int} {p m q : Nat} {u : xv (m + 1)} {Q : xb_R → xb_H → Prop}
theorem mo_221l (hA : 194 ≤ A.1) (hE : ∀ j : Nat, 0 ≤ t 166 j ∧ t 166 j ≤ 127) (hm : m ≤ 5) (hu : xV (t 166) (m + 1) p u q) (hu4 : 4 ≤ xv_k u) (hq : q < 3711) (hQ : Q (.inl (some (.int (Int32.ofInt ((xv_p u).length : Int))))) (ym A s t)) (hl : (xv_p u).length ≤ 100) : ∀ (k n : Nat), n + k = (xv_p u).length → xr_ok (xt_G w) (d + 1 + 1 + 1) 221 2 [(2, .int (Int32.ofInt (n : Int))), (0, .ref 165), (1, .int (Int32.ofInt (p : Int)))] [] (ym A s t) Q := by
  have key : ∀ (n : Nat), (∀ n' : Nat, n' = n + 1 → n' ≤ (xv_p u).length → xr_ok (xt_G w) (d + 1 + 1 + 1) 221 2 [(2, .int (Int32.ofInt (n' : Int))), (0, .ref 165), (1, .int (Int32.ofInt (p : Int)))] [] (ym A s t) Q) → n ≤ (xv_p u).length → xr_ok (xt_G w) (d + 1 + 1 + 1) 221 2 [(2, .int (Int32.ofInt (n : Int))), (0, .ref 165), (1, .int (Int32.ofInt (p : Int)))] [] (ym A s t) Q := by
    intro n ih hn
    refine xr_steps (pc' := 5) (L' := [(2, .int (Int32.ofInt (n : Int))), (0, .ref 165), (1, .int (Int32.ofInt (p : Int)))]) (st' := [.int (Int32.ofInt (n : Int)), .int (Int32.ofInt (p : Int)), .ref 165]) 3 rfl ?_
    refine xr_call (q := (.invokevirtual 131, 3, 222, 3)) (av := [.ref 165, .int (Int32.ofInt (p : Int)), .int (Int32.ofInt (n : Int))]) (rest := []) rfl rfl (by decide) rfl (ym_rcv hA rfl) (Nat.le_of_ble_eq_true rfl) (mo_222 hA hE hm (k := n) (by omega) hu hu4 hq) ?_
    rintro _ _ ⟨r, ⟨rfl, eA⟩, hr⟩
    rw [eA]
    clear eA
    have hr32 : -1 ≤ r ∧ r ≤ 4000 := by
      rcases hr with ⟨x, hx, a, y, -, h1, -, -, h2⟩ | ⟨hr, -⟩
      · have := xV_lt h1
        omega
      · omega
    refine xr_if_lt rfl (by omega) (fun z31 => ?_) (fun z31 => ?_)
    · refine xr_steps (pc' := 18) (L' := [(2, .int (Int32.ofInt (n : Int))), (0, .ref 165), (1, .int (Int32.ofInt (p : Int)))]) (st' := [.int (Int32.ofInt (n : Int))]) 1 rfl ?_
      have hl : n = (xv_p u).length := by
        rcases hr with ⟨x, hx, -⟩ | ⟨-, hr⟩
        · omega
        · omega
      rw [← hl] at hQ
      exact xr_retI2 rfl rfl hQ
    · refine xr_iinc (L' := [(2, .int (Int32.ofInt ((n : Int) + 1))), (0, .ref 165), (1, .int (Int32.ofInt (p : Int)))]) rfl rfl rfl ?_
      refine xr_steps (pc' := 2) (L' := [(2, .int (Int32.ofInt ((n : Int) + 1))), (0, .ref 165), (1, .int (Int32.ofInt (p : Int)))]) (st' := []) 1 rfl ?_
      rw [show (n : Int) + 1 = ((n + 1 : Nat) : Int) by omega]
      refine ih (n + 1) rfl ?_
      rcases hr with ⟨x, -, a, y, hx, -⟩ | ⟨hr, -⟩
      · have := (List.getElem?_eq_some_iff.mp hx).1
        omega
      · omega
  intro k
  induction k with
  | zero => intro n hn; exact key n (fun n' h1 h2 => absurd h2 (by omega)) (by omega)
  | succ k ih => intro n hn; exact key n (fun n' h1 h2 => ih n' (by omega)) (by omega)
theorem mo_221 {w : Value} {d : Nat} {A : xb_H} {s : Nat → Int} {t : Nat → Nat → Int} {p m q : Nat} {u : xv (m + 1)} (hA : 194 ≤ A.1) (hE : ∀ j : Nat, 0 ≤ t 166 j ∧ t 166 j ≤ 127) (hm : m ≤ 5) (hu : xV (t 166) (m + 1) p u q) (hu4 : 4 ≤ xv_k u) (hq : q < 3711) (hq2 : q ≤ p + 100) : xr_ok (xt_G w) (d + 1 + 1 + 1) 221 0 [(0, .ref 165), (1, .int (Int32.ofInt (p : Int)))] [] (ym A s t) (fun o A' => ∃ v0, o = .inl v0 ∧ v0 = some (.int (Int32.ofInt ((xv_p u).length : Int))) ∧ A' = ym A s t) := by
  refine xr_steps (pc' := 2) (L' := [(2, .int (Int32.ofInt 0)), (0, .ref 165), (1, .int (Int32.ofInt (p : Int)))]) (st' := []) 2 rfl ?_
  exact mo_221l hA hE hm hu hu4 hq ⟨_, rfl, rfl, rfl⟩ (xV_wf _ _ _ _ hu hq2).2.2.2.2.2.1 (xv_p u).length 0 (by omega)
theorem xmem_drop {α : Type} (l : List (Int × α)) (c : Int) {k : Nat} {a : Int × α} (h : l[k]? = some a) : xmem (l.drop k) c = if a.1 = c then some a.2 else xmem (l.drop (k + 1)) c := by
  have hk := (List.getElem?_eq_some_iff.mp h).1
  have e : l.drop k = a :: l.drop (k + 1) := by
    rw [List.drop_eq_getElem_cons hk]
    rw [List.getElem?_eq_getElem hk] at h
    rw [Option.some.inj h]
  rw [e]
  obtain ⟨k1, v⟩ := a
  rfl
/-- what member answers -/
def xMB (E : Nat → Int) (m p q : Nat) (l : List (Int × xv m)) (c : Int) (r : Int) : Prop := (∃ (x y : Nat) (v : xv m), r = x ∧ xmem l c = some v ∧ xV E m x v y ∧ p < x ∧ y < q) ∨ (r = -1 ∧ xmem l c = none)
def xmL2 (p k n : Nat) (c : Int) (o : Option Nat) : xb_L := (4, .int (Int32.ofInt (k : Int))) :: (match o with
  | none => [(3, .int (Int32.ofInt (n : Int))), (0, .ref 165), (1, .int (Int32.ofInt (p : Int))), (2, .int (Int32.ofInt c))]
  | some x => [(5, .int (Int32.ofInt (x : Int))), (3, .int (Int32.ofInt (n : Int))), (0, .ref 165), (1, .int (Int32.ofInt (p : Int))), (2, .int (Int32.ofInt c))])
theorem mo_223l (hA : 194 ≤ A.1) (hE : ∀ j : Nat, 0 ≤ t 166 j ∧ t 166 j ≤ 127) (hm : m ≤ 5) (hu : xV (t 166) (m + 1) p u q) (hu5 : xv_k u = 5) (hq : q < 3711) {c : Int} (hc : 0 ≤ c ∧ c ≤ 127) (hl : (xv_p u).length ≤ 100) (hQ : ∀ r : Int, xMB (t 166) m p q (xv_p u) c r → Q (.inl (some (.int (Int32.ofInt r)))) (ym A s t)) : ∀ (n k : Nat) (o : Option Nat), k + n = (xv_p u).length → xmem ((xv_p u).drop k) c = xmem (xv_p u) c → xr_ok (xt_G w) (d + 1 + 1 + 1) 223 9 (xmL2 p k (xv_p u).length c o) [] (ym A s t) Q := by
  intro n
  induction n with
  | zero =>
    intro k o hk hinv
    refine xr_steps (pc' := 12) (L' := xmL2 p k (xv_p u).length c o) (st' := [.int (Int32.ofInt ((xv_p u).length : Int)), .int (Int32.ofInt (k : Int))]) 2 (by cases o <;> rfl) ?_
    refine xr_icmp_ge rfl (by omega) (by omega) (fun z31 => ?_) (fun z31 => ?_)
    · refine xr_steps (pc' := 49) (L' := xmL2 p k (xv_p u).length c o) (st' := [.int (Int32.ofInt (-1))]) 1 (by cases o <;> rfl) ?_
      refine xr_retI2 rfl rfl (hQ (-1) (Or.inr ⟨rfl, ?_⟩))
      rw [← hinv, List.drop_eq_nil_of_le (by omega)]
      rfl
    · exfalso; omega
  | succ n ih =>
    intro k o hk hinv
    refine xr_steps (pc' := 12) (L' := xmL2 p k (xv_p u).length c o) (st' := [.int (Int32.ofInt ((xv_p u).length : Int)), .int (Int32.ofInt (k : Int))]) 2 (by cases o <;> rfl) ?_
    refine xr_icmp_ge rfl (by omega) (by omega) (fun z31 => ?_) (fun z31 => ?_)
    · exfalso; omega
    · refine xr_steps (pc' := 19) (L' := xmL2 p k (xv_p u).length c o) (st' := [.int (Int32.ofInt (k : Int)), .int (Int32.ofInt (p : Int)), .ref 165]) 3 (by cases o <;> rfl) ?_
      refine xr_call (q := (.invokevirtual 131, 3, 222, 3)) (av := [.ref 165, .int (Int32.ofInt (p : Int)), .int (Int32.ofInt (k : Int))]) (rest := []) rfl rfl (by decide) rfl (ym_rcv hA rfl) (Nat.le_of_ble_eq_true rfl) (mo_222 hA hE hm (k := k) (by omega) hu (by omega) hq) ?_
      rintro _ _ ⟨r, ⟨rfl, eA⟩, hr⟩
      rw [eA]
      clear eA
      obtain ⟨x, rfl, a, y, hx1, hx2, hx3, hx4, hx5⟩ : ∃ x : Nat, r = x ∧ xAt (t 166) (xV (t 166) m) 4 (xv_p u) k (p + 1) q x := by
        rcases hr with ⟨x, e1, e2⟩ | ⟨-, hr⟩
        · rw [if_pos hu5] at e2
          exact ⟨x, e1, e2⟩
        · omega
      have hlt := xV_lt hx2
      have hxk : t 166 (x + 1) = a.1 := by
        rcases hx3 with ⟨h, -⟩ | ⟨-, -, -, h, -⟩
        · omega
        · exact h
      have hEx := hE (x + 1)
      have hd := xmem_drop (xv_p u) c hx1
      refine xr_steps (pc' := 25) (L' := [(5, .int (Int32.ofInt (x : Int))), (4, .int (Int32.ofInt (k : Int))), (3, .int (Int32.ofInt ((xv_p u).length : Int))), (0, .ref 165), (1, .int (Int32.ofInt (p : Int))), (2, .int (Int32.ofInt c))]) (st' := [.ref 165]) 2 (by cases o <;> rfl) ?_
      refine xr_getf (v := .ref 166) rfl (ym_165 hA) rfl ?_
      refine xr_steps (pc' := 31) (L' := [(5, .int (Int32.ofInt (x : Int))), (4, .int (Int32.ofInt (k : Int))), (3, .int (Int32.ofInt ((xv_p u).length : Int))), (0, .ref 165), (1, .int (Int32.ofInt (p : Int))), (2, .int (Int32.ofInt c))]) (st' := [.int (Int32.ofInt 1), .int (Int32.ofInt (x : Int)), .ref 166]) 2 rfl ?_
      refine xr_iadd rfl ?_
      refine ym_caload (e := t 166 ((x : Int) + 1).toNat) hA rfl rfl (by decide) (by omega) (by omega) rfl ?_
      rw [show ((x : Int) + 1).toNat = x + 1 by omega]
      refine xr_steps (pc' := 34) (L' := [(5, .int (Int32.ofInt (x : Int))), (4, .int (Int32.ofInt (k : Int))), (3, .int (Int32.ofInt ((xv_p u).length : Int))), (0, .ref 165), (1, .int (Int32.ofInt (p : Int))), (2, .int (Int32.ofInt c))]) (st' := [.int (Int32.ofInt c), .int (Int32.ofInt (t 166 (x + 1)))]) 1 rfl ?_
      refine xr_icmp_ne rfl (by omega) (by omega) (fun z32 => ?_) (fun z32 => ?_)
      · refine xr_iinc (L' := [(4, .int (Int32.ofInt ((k : Int) + 1))), (5, .int (Int32.ofInt (x : Int))), (3, .int (Int32.ofInt ((xv_p u).length : Int))), (0, .ref 165), (1, .int (Int32.ofInt (p : Int))), (2, .int (Int32.ofInt c))]) rfl rfl rfl ?_
        refine xr_steps (pc' := 9) (L' := [(4, .int (Int32.ofInt ((k : Int) + 1))), (5, .int (Int32.ofInt (x : Int))), (3, .int (Int32.ofInt ((xv_p u).length : Int))), (0, .ref 165), (1, .int (Int32.ofInt (p : Int))), (2, .int (Int32.ofInt c))]) (st' := []) 1 rfl ?_
        rw [show (k : Int) + 1 = ((k + 1 : Nat) : Int) by omega]
        refine ih (k + 1) (some x) (by omega) ?_
        rw [← hinv, hd, if_neg (by omega)]
      · refine xr_steps (pc' := 40) (L' := [(5, .int (Int32.ofInt (x : Int))), (4, .int (Int32.ofInt (k : Int))), (3, .int (Int32.ofInt ((xv_p u).length : Int))), (0, .ref 165), (1, .int (Int32.ofInt (p : Int))), (2, .int (Int32.ofInt c))]) (st' := [.int (Int32.ofInt 4), .int (Int32.ofInt (x : Int))]) 2 rfl ?_
        refine xr_iadd rfl ?_
        rw [show (x : Int) + 4 = ((x + 4 : Nat) : Int) by omega]
        refine xr_retI2 rfl rfl (hQ ((x + 4 : Nat) : Int) (Or.inl ⟨x + 4, y, a.2, rfl, ?_, hx2, by omega, hx5⟩))
        rw [← hinv, hd, if_pos (by omega)]
end MPS
theorem mo_223 {w : Value} {d : Nat} {A : xb_H} {s : Nat → Int} {t : Nat → Nat → Int} {p m q : Nat} {u : xv (m + 1)} {c : Int} (hA : 194 ≤ A.1) (hE : ∀ j : Nat, 0 ≤ t 166 j ∧ t 166 j ≤ 127) (hm : m ≤ 5) (hu : xV (t 166) (m + 1) p u q) (hu5 : xv_k u = 5) (hq : q < 3711) (hq2 : q ≤ p + 100) (hc : 0 ≤ c ∧ c ≤ 127) : xr_ok (xt_G w) (d + 1 + 1 + 1 + 1) 223 0 [(0, .ref 165), (1, .int (Int32.ofInt (p : Int))), (2, .int (Int32.ofInt c))] [] (ym A s t) (fun o A' => ∃ v0, o = .inl v0 ∧ ∃ r : Int, (v0 = some (.int (Int32.ofInt r)) ∧ A' = ym A s t) ∧ xMB (t 166) m p q (xv_p u) c r) := by
  refine xr_steps (pc' := 2) (L' := [(0, .ref 165), (1, .int (Int32.ofInt (p : Int))), (2, .int (Int32.ofInt c))]) (st' := [.int (Int32.ofInt (p : Int)), .ref 165]) 2 rfl ?_
  refine xr_call (q := (.invokevirtual 135, 3, 221, 2)) (av := [.ref 165, .int (Int32.ofInt (p : Int))]) (rest := []) rfl rfl (by decide) rfl (ym_rcv hA rfl) (Nat.le_of_ble_eq_true rfl) (mo_221 hA hE hm hu (by omega) hq hq2) ?_
  rintro _ _ ⟨rfl, eA⟩
  rw [eA]
  clear eA
  refine xr_steps (pc' := 9) (L' := [(4, .int (Int32.ofInt 0)), (3, .int (Int32.ofInt ((xv_p u).length : Int))), (0, .ref 165), (1, .int (Int32.ofInt (p : Int))), (2, .int (Int32.ofInt c))]) (st' := []) 3 rfl ?_
  exact mo_223l hA hE hm hu hu5 hq hc (xV_wf _ _ _ _ hu hq2).2.2.2.2.2.1 (fun r hr => ⟨_, rfl, r, ⟨rfl, rfl⟩, hr⟩) (xv_p u).length 0 none (by omega) rfl
/-! The reference: the same text -/
section MST
variable {w : Value} {d : Nat} {A : xb_H} {s : Nat → Int} {t : Nat → Nat → Int} {p q n : Nat} {Q : xb_R → xb_H → Prop}
theorem mo_218l (hA : 194 ≤ A.1) (hE : ∀ j : Nat, 0 ≤ t 166 j ∧ t 166 j ≤ 127) (hpn : p + n < 3712) (hqn : q + n < 3712) (hQ : ∀ b : Int, ((b = 1 ∧ ∀ j : Nat, j < n → t 166 (p + j) = t 166 (q + j)) ∨ (b = 0 ∧ ¬ ∀ j : Nat, j < n → t 166 (p + j) = t 166 (q + j))) → Q (.inl (some (.int (Int32.ofInt b)))) (ym A s t)) : ∀ (r k : Nat), k + r = n → (∀ j : Nat, j < k → t 166 (p + j) = t 166 (q + j)) → xr_ok (xt_G w) d 218 29 [(5, .int (Int32.ofInt (k : Int))), (4, .int (Int32.ofInt 1)), (3, .int (Int32.ofInt (n : Int))), (0, .ref 165), (1, .int (Int32.ofInt (p : Int))), (2, .int (Int32.ofInt (q : Int)))] [] (ym A s t) Q := by
  intro r
  induction r with
  | zero =>
    intro k hk hinv
    refine xr_steps (pc' := 32) (L' := [(5, .int (Int32.ofInt (k : Int))), (4, .int (Int32.ofInt 1)), (3, .int (Int32.ofInt (n : Int))), (0, .ref 165), (1, .int (Int32.ofInt (p : Int))), (2, .int (Int32.ofInt (q : Int)))]) (st' := [.int (Int32.ofInt (n : Int)), .int (Int32.ofInt (k : Int))]) 2 rfl ?_
    refine xr_icmp_ge rfl (by omega) (by omega) (fun z31 => ?_) (fun z31 => ?_)
    · refine xr_steps (pc' := 76) (L' := [(5, .int (Int32.ofInt (k : Int))), (4, .int (Int32.ofInt 1)), (3, .int (Int32.ofInt (n : Int))), (0, .ref 165), (1, .int (Int32.ofInt (p : Int))), (2, .int (Int32.ofInt (q : Int)))]) (st' := [.int (Int32.ofInt 1)]) 1 rfl ?_
      exact xr_retZ rfl rfl (by omega) (hQ 1 (Or.inl ⟨rfl, fun j hj => hinv j (by omega)⟩))
    · exfalso; omega
  | succ r ih =>
    intro k hk hinv
    have hE1 := hE (p + k)
    have hE2 := hE (q + k)
    refine xr_steps (pc' := 32) (L' := [(5, .int (Int32.ofInt (k : Int))), (4, .int (Int32.ofInt 1)), (3, .int (Int32.ofInt (n : Int))), (0, .ref 165), (1, .int (Int32.ofInt (p : Int))), (2, .int (Int32.ofInt (q : Int)))]) (st' := [.int (Int32.ofInt (n : Int)), .int (Int32.ofInt (k : Int))]) 2 rfl ?_
    refine xr_icmp_ge rfl (by omega) (by omega) (fun z31 => ?_) (fun z31 => ?_)
    · refine xr_steps (pc' := 76) (L' := [(5, .int (Int32.ofInt (k : Int))), (4, .int (Int32.ofInt 1)), (3, .int (Int32.ofInt (n : Int))), (0, .ref 165), (1, .int (Int32.ofInt (p : Int))), (2, .int (Int32.ofInt (q : Int)))]) (st' := [.int (Int32.ofInt 1)]) 1 rfl ?_
      exact xr_retZ rfl rfl (by omega) (hQ 1 (Or.inl ⟨rfl, fun j hj => hinv j (by omega)⟩))
    · refine xr_steps (pc' := 37) (L' := [(5, .int (Int32.ofInt (k : Int))), (4, .int (Int32.ofInt 1)), (3, .int (Int32.ofInt (n : Int))), (0, .ref 165), (1, .int (Int32.ofInt (p : Int))), (2, .int (Int32.ofInt (q : Int)))]) (st' := [.int (Int32.ofInt 1)]) 1 rfl ?_
      refine xr_if_eq rfl (by omega) (fun z32 => ?_) (fun z32 => ?_)
      · exfalso; omega
      · refine xr_steps (pc' := 41) (L' := [(5, .int (Int32.ofInt (k : Int))), (4, .int (Int32.ofInt 1)), (3, .int (Int32.ofInt (n : Int))), (0, .ref 165), (1, .int (Int32.ofInt (p : Int))), (2, .int (Int32.ofInt (q : Int)))]) (st' := [.ref 165]) 1 rfl ?_
        refine xr_getf (v := .ref 166) rfl (ym_165 hA) rfl ?_
        refine xr_steps (pc' := 47) (L' := [(5, .int (Int32.ofInt (k : Int))), (4, .int (Int32.ofInt 1)), (3, .int (Int32.ofInt (n : Int))), (0, .ref 165), (1, .int (Int32.ofInt (p : Int))), (2, .int (Int32.ofInt (q : Int)))]) (st' := [.int (Int32.ofInt (k : Int)), .int (Int32.ofInt (p : Int)), .ref 166]) 2 rfl ?_
        refine xr_iadd rfl ?_
        refine ym_caload (e := t 166 ((p : Int) + (k : Int)).toNat) hA rfl rfl (by decide) (by omega) (by omega) rfl ?_
        rw [show ((p : Int) + (k : Int)).toNat = p + k by omega]
        refine xr_steps (pc' := 50) (L' := [(5, .int (Int32.ofInt (k : Int))), (4, .int (Int32.ofInt 1)), (3, .int (Int32.ofInt (n : Int))), (0, .ref 165), (1, .int (Int32.ofInt (p : Int))), (2, .int (Int32.ofInt (q : Int)))]) (st' := [.ref 165, .int (Int32.ofInt (t 166 (p + k)))]) 1 rfl ?_
        refine xr_getf (v := .ref 166) rfl (ym_165 hA) rfl ?_
        refine xr_steps (pc' := 56) (L' := [(5, .int (Int32.ofInt (k : Int))), (4, .int (Int32.ofInt 1)), (3, .int (Int32.ofInt (n : Int))), (0, .ref 165), (1, .int (Int32.ofInt (p : Int))), (2, .int (Int32.ofInt (q : Int)))]) (st' := [.int (Int32.ofInt (k : Int)), .int (Int32.ofInt (q : Int)), .ref 166, .int (Int32.ofInt (t 166 (p + k)))]) 2 rfl ?_
        refine xr_iadd rfl ?_
        refine ym_caload (e := t 166 ((q : Int) + (k : Int)).toNat) hA rfl rfl (by decide) (by omega) (by omega) rfl ?_
        rw [show ((q : Int) + (k : Int)).toNat = q + k by omega]
        refine xr_icmp_ne rfl (by omega) (by omega) (fun z33 => ?_) (fun z33 => ?_)
        · refine xr_steps (pc' := 68) (L' := [(4, .int (Int32.ofInt 0)), (5, .int (Int32.ofInt (k : Int))), (3, .int (Int32.ofInt (n : Int))), (0, .ref 165), (1, .int (Int32.ofInt (p : Int))), (2, .int (Int32.ofInt (q : Int)))]) (st' := []) 2 rfl ?_
          refine xr_iinc (L' := [(5, .int (Int32.ofInt ((k : Int) + 1))), (4, .int (Int32.ofInt 0)), (3, .int (Int32.ofInt (n : Int))), (0, .ref 165), (1, .int (Int32.ofInt (p : Int))), (2, .int (Int32.ofInt (q : Int)))]) rfl rfl rfl ?_
          refine xr_steps (pc' := 29) (L' := [(5, .int (Int32.ofInt ((k : Int) + 1))), (4, .int (Int32.ofInt 0)), (3, .int (Int32.ofInt (n : Int))), (0, .ref 165), (1, .int (Int32.ofInt (p : Int))), (2, .int (Int32.ofInt (q : Int)))]) (st' := []) 1 rfl ?_
          refine xr_steps (pc' := 32) (L' := [(5, .int (Int32.ofInt ((k : Int) + 1))), (4, .int (Int32.ofInt 0)), (3, .int (Int32.ofInt (n : Int))), (0, .ref 165), (1, .int (Int32.ofInt (p : Int))), (2, .int (Int32.ofInt (q : Int)))]) (st' := [.int (Int32.ofInt (n : Int)), .int (Int32.ofInt ((k : Int) + 1))]) 2 rfl ?_
          refine xr_icmp_ge rfl (by omega) (by omega) (fun z34 => ?_) (fun z34 => ?_)
          · refine xr_steps (pc' := 76) (L' := [(5, .int (Int32.ofInt ((k : Int) + 1))), (4, .int (Int32.ofInt 0)), (3, .int (Int32.ofInt (n : Int))), (0, .ref 165), (1, .int (Int32.ofInt (p : Int))), (2, .int (Int32.ofInt (q : Int)))]) (st' := [.int (Int32.ofInt 0)]) 1 rfl ?_
            exact xr_retZ rfl rfl (by omega) (hQ 0 (Or.inr ⟨rfl, fun h => z33 (h k (by omega))⟩))
          · refine xr_steps (pc' := 37) (L' := [(5, .int (Int32.ofInt ((k : Int) + 1))), (4, .int (Int32.ofInt 0)), (3, .int (Int32.ofInt (n : Int))), (0, .ref 165), (1, .int (Int32.ofInt (p : Int))), (2, .int (Int32.ofInt (q : Int)))]) (st' := [.int (Int32.ofInt 0)]) 1 rfl ?_
            refine xr_if_eq rfl (by omega) (fun z35 => ?_) (fun z35 => ?_)
            · refine xr_steps (pc' := 76) (L' := [(5, .int (Int32.ofInt ((k : Int) + 1))), (4, .int (Int32.ofInt 0)), (3, .int (Int32.ofInt (n : Int))), (0, .ref 165), (1, .int (Int32.ofInt (p : Int))), (2, .int (Int32.ofInt (q : Int)))]) (st' := [.int (Int32.ofInt 0)]) 1 rfl ?_
              exact xr_retZ rfl rfl (by omega) (hQ 0 (Or.inr ⟨rfl, fun h => z33 (h k (by omega))⟩))
            · exfalso; omega
        · refine xr_steps (pc' := 68) (L' := [(4, .int (Int32.ofInt 1)), (5, .int (Int32.ofInt (k : Int))), (3, .int (Int32.ofInt (n : Int))), (0, .ref 165), (1, .int (Int32.ofInt (p : Int))), (2, .int (Int32.ofInt (q : Int)))]) (st' := []) 3 rfl ?_
          refine xr_iinc (L' := [(5, .int (Int32.ofInt ((k : Int) + 1))), (4, .int (Int32.ofInt 1)), (3, .int (Int32.ofInt (n : Int))), (0, .ref 165), (1, .int (Int32.ofInt (p : Int))), (2, .int (Int32.ofInt (q : Int)))]) rfl rfl rfl ?_
          refine xr_steps (pc' := 29) (L' := [(5, .int (Int32.ofInt ((k : Int) + 1))), (4, .int (Int32.ofInt 1)), (3, .int (Int32.ofInt (n : Int))), (0, .ref 165), (1, .int (Int32.ofInt (p : Int))), (2, .int (Int32.ofInt (q : Int)))]) (st' := []) 1 rfl ?_
          rw [show (k : Int) + 1 = ((k + 1 : Nat) : Int) by omega]
          refine ih (k + 1) (by omega) (fun j hj => ?_)
          by_cases e : j = k
          · rw [e]; exact z33
          · exact hinv j (by omega)
end MST
theorem mo_218 {w : Value} {d : Nat} {A : xb_H} {s : Nat → Int} {t : Nat → Nat → Int} {p q m p1 q1 : Nat} {u v : xv m} (hA : 194 ≤ A.1) (hE : ∀ j : Nat, 0 ≤ t 166 j ∧ t 166 j ≤ 127) (hm : m ≤ 6) (hu : xV (t 166) m p u p1) (hv : xV (t 166) m q v q1) (hp1 : p1 < 3711) (hq1 : q1 < 3711) : xr_ok (xt_G w) (d + 1 + 1) 218 0 [(0, .ref 165), (1, .int (Int32.ofInt (p : Int))), (2, .int (Int32.ofInt (q : Int)))] [] (ym A s t) (fun o A' => ∃ v0, o = .inl v0 ∧ ∃ b : Int, (v0 = some (.int (Int32.ofInt b)) ∧ A' = ym A s t) ∧ ((b = 1 ∧ (p1 - p = q1 - q ∧ ∀ j : Nat, j < p1 - p → t 166 (p + j) = t 166 (q + j))) ∨ (b = 0 ∧ ¬ (p1 - p = q1 - q ∧ ∀ j : Nat, j < p1 - p → t 166 (p + j) = t 166 (q + j))))) := by
  have hl1 := xV_lt hu
  have hl2 := xV_lt hv
  refine xr_steps (pc' := 2) (L' := [(0, .ref 165), (1, .int (Int32.ofInt (p : Int))), (2, .int (Int32.ofInt (q : Int)))]) (st' := [.int (Int32.ofInt (p : Int)), .ref 165]) 2 rfl ?_
  refine xr_call (q := (.invokevirtual 128, 3, 219, 2)) (av := [.ref 165, .int (Int32.ofInt (p : Int))]) (rest := []) rfl rfl (by decide) rfl (ym_rcv hA rfl) (Nat.le_of_ble_eq_true rfl) (mo_219 hA hE hm hu (by omega)) ?_
  rintro _ _ ⟨rfl, eA⟩
  rw [eA]
  clear eA
  refine xr_steps (pc' := 6) (L' := [(0, .ref 165), (1, .int (Int32.ofInt (p : Int))), (2, .int (Int32.ofInt (q : Int)))]) (st' := [.int (Int32.ofInt (p : Int)), .int (Int32.ofInt (p1 : Int))]) 1 rfl ?_
  refine xr_isub rfl ?_
  refine xr_steps (pc' := 11) (L' := [(3, .int (Int32.ofInt ((p1 : Int) - (p : Int)))), (0, .ref 165), (1, .int (Int32.ofInt (p : Int))), (2, .int (Int32.ofInt (q : Int)))]) (st' := [.int (Int32.ofInt (q : Int)), .ref 165, .int (Int32.ofInt ((p1 : Int) - (p : Int)))]) 4 rfl ?_
  refine xr_call (q := (.invokevirtual 128, 3, 219, 2)) (av := [.ref 165, .int (Int32.ofInt (q : Int))]) (rest := [.int (Int32.ofInt ((p1 : Int) - (p : Int)))]) rfl rfl (by decide) rfl (ym_rcv hA rfl) (Nat.le_of_ble_eq_true rfl) (mo_219 hA hE hm hv (by omega)) ?_
  rintro _ _ ⟨rfl, eA⟩
  rw [eA]
  clear eA
  refine xr_steps (pc' := 15) (L' := [(3, .int (Int32.ofInt ((p1 : Int) - (p : Int)))), (0, .ref 165), (1, .int (Int32.ofInt (p : Int))), (2, .int (Int32.ofInt (q : Int)))]) (st' := [.int (Int32.ofInt (q : Int)), .int (Int32.ofInt (q1 : Int)), .int (Int32.ofInt ((p1 : Int) - (p : Int)))]) 1 rfl ?_
  refine xr_isub rfl ?_
  refine xr_icmp_ne rfl (by omega) (by omega) (fun z31 => ?_) (fun z31 => ?_)
  · refine xr_steps (pc' := 29) (L' := [(5, .int (Int32.ofInt 0)), (4, .int (Int32.ofInt 0)), (3, .int (Int32.ofInt ((p1 : Int) - (p : Int)))), (0, .ref 165), (1, .int (Int32.ofInt (p : Int))), (2, .int (Int32.ofInt (q : Int)))]) (st' := []) 4 rfl ?_
    refine xr_steps (pc' := 32) (L' := [(5, .int (Int32.ofInt 0)), (4, .int (Int32.ofInt 0)), (3, .int (Int32.ofInt ((p1 : Int) - (p : Int)))), (0, .ref 165), (1, .int (Int32.ofInt (p : Int))), (2, .int (Int32.ofInt (q : Int)))]) (st' := [.int (Int32.ofInt ((p1 : Int) - (p : Int))), .int (Int32.ofInt 0)]) 2 rfl ?_
    refine xr_icmp_ge rfl (by omega) (by omega) (fun z32 => ?_) (fun z32 => ?_)
    · refine xr_steps (pc' := 76) (L' := [(5, .int (Int32.ofInt 0)), (4, .int (Int32.ofInt 0)), (3, .int (Int32.ofInt ((p1 : Int) - (p : Int)))), (0, .ref 165), (1, .int (Int32.ofInt (p : Int))), (2, .int (Int32.ofInt (q : Int)))]) (st' := [.int (Int32.ofInt 0)]) 1 rfl ?_
      exact xr_retZ rfl rfl (by omega) ⟨_, rfl, 0, ⟨rfl, rfl⟩, Or.inr ⟨rfl, fun h => by omega⟩⟩
    · refine xr_steps (pc' := 37) (L' := [(5, .int (Int32.ofInt 0)), (4, .int (Int32.ofInt 0)), (3, .int (Int32.ofInt ((p1 : Int) - (p : Int)))), (0, .ref 165), (1, .int (Int32.ofInt (p : Int))), (2, .int (Int32.ofInt (q : Int)))]) (st' := [.int (Int32.ofInt 0)]) 1 rfl ?_
      refine xr_if_eq rfl (by omega) (fun z33 => ?_) (fun z33 => ?_)
      · refine xr_steps (pc' := 76) (L' := [(5, .int (Int32.ofInt 0)), (4, .int (Int32.ofInt 0)), (3, .int (Int32.ofInt ((p1 : Int) - (p : Int)))), (0, .ref 165), (1, .int (Int32.ofInt (p : Int))), (2, .int (Int32.ofInt (q : Int)))]) (st' := [.int (Int32.ofInt 0)]) 1 rfl ?_
        exact xr_retZ rfl rfl (by omega) ⟨_, rfl, 0, ⟨rfl, rfl⟩, Or.inr ⟨rfl, fun h => by omega⟩⟩
      · exfalso; omega
  · refine xr_steps (pc' := 29) (L' := [(5, .int (Int32.ofInt 0)), (4, .int (Int32.ofInt 1)), (3, .int (Int32.ofInt ((p1 : Int) - (p : Int)))), (0, .ref 165), (1, .int (Int32.ofInt (p : Int))), (2, .int (Int32.ofInt (q : Int)))]) (st' := []) 5 rfl ?_
    obtain ⟨n, hn⟩ : ∃ n : Nat, p1 = p + n := ⟨p1 - p, by omega⟩
    rw [show (p1 : Int) - (p : Int) = (n : Int) by omega]
    refine mo_218l hA hE (by omega) (by omega) (fun b hb => ⟨_, rfl, b, ⟨rfl, rfl⟩, ?_⟩) n 0 (by omega) (fun j hj => absurd hj (Nat.not_lt_zero _))
    rcases hb with ⟨e1, e2⟩ | ⟨e1, e2⟩
    · exact Or.inl ⟨e1, by omega, fun j hj => e2 j (by omega)⟩
    · exact Or.inr ⟨e1, fun h => e2 fun j hj => h.2 j (by omega)⟩
/-- plain values of one kind have the same text if they have the same letters -/
theorem xV0_same {E : Nat → Int} {p q p1 q1 kd : Nat} {l l' : List Int} (h1 : xV0 E p kd l p1) (h2 : xV0 E q kd l' q1) : (p1 - p = q1 - q ∧ ∀ j : Nat, j < p1 - p → E (p + j) = E (q + j)) ↔ l = l' := by
  obtain ⟨-, -, -, -, h1⟩ := h1
  obtain ⟨-, -, -, -, h2⟩ := h2
  rcases h1 with ⟨e, a1, a2, a3, a4⟩ | ⟨e, a1, a2, a3, a4⟩
  · rcases h2 with ⟨-, b1, b2, b3, b4⟩ | ⟨e', -⟩
    · constructor
      · rintro ⟨c1, c2⟩
        refine xl_eq _ _ (by omega) (fun j hj => ?_)
        rw [← a4 j hj, ← b4 j (by omega), Nat.add_assoc, Nat.add_assoc]
        exact c2 (1 + j) (by omega)
      · rintro rfl
        refine ⟨by omega, fun j hj => ?_⟩
        by_cases c0 : j = 0
        · rw [c0, Nat.add_zero, Nat.add_zero, a2, b2]
        by_cases cL : j = l.length + 1
        · rw [show p + j = p1 - 1 by omega, show q + j = q1 - 1 by omega, a3, b3]
        · rw [show p + j = p + 1 + (j - 1) by omega, show q + j = q + 1 + (j - 1) by omega, a4 (j - 1) (by omega), b4 (j - 1) (by omega)]
    · exact absurd e e'
  · rcases h2 with ⟨e', -⟩ | ⟨-, b1, b2, b3, b4⟩
    · exact absurd e' e
    · constructor
      · rintro ⟨c1, c2⟩
        refine xl_eq _ _ (by omega) (fun j hj => ?_)
        rw [← a4 j hj, ← b4 j (by omega)]
        exact c2 j (by omega)
      · rintro rfl
        exact ⟨by omega, fun j hj => by rw [a4 j (by omega), b4 j (by omega)]⟩
