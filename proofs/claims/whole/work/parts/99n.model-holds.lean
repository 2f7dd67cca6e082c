/-! The reference: a matcher holds -/
/-- the matcher mm stands in the row from mp to q -/
def xMT (E : Nat → Int) (mp q : Nat) (mm : Int × Int × List Int) : Prop := E mp = mm.1 ∧ (mp < q ∧ q ≤ 3710 ∧ q ≤ mp + 100) ∧ (mm.1 = 116 ∨ mm.1 = 61 ∨ mm.1 = 48 ∨ mm.1 = 105 ∨ mm.1 = 62 ∨ mm.1 = 60 ∨ mm.1 = 126 ∨ mm.1 = 47) ∧ ((mm.1 = 62 ∨ mm.1 = 60) → E (mp + 1) - 48 = mm.2.1) ∧ (mm.1 = 126 → q = mp + 1 + mm.2.2.length ∧ ∀ j : Nat, j < mm.2.2.length → E (mp + 1 + j) = mm.2.2.getD j 0) ∧ (mm.1 = 47 → q = mp + 1 + mm.2.2.length + 1 ∧ (∀ j : Nat, j < mm.2.2.length → E (mp + 1 + j) = mm.2.2.getD j 0) ∧ xvl (fun j => mm.2.2.getD j 0) mm.2.2.length 8 0)
theorem xms_MT {E : Nat → Int} {b n p q : Nat} {mm : Int × Int × List Int} (hb : b + n ≤ 3710 ∧ n ≤ 100) (h : xms (ye n (fun k => E (b + k))) p = some (mm, q)) : xMT E (b + p) (b + q) mm := by
  have hq := xms_le h
  have hlt := xms_lt h
  have hy : ∀ j : Nat, j < n → ye n (fun k => E (b + k)) j = E (b + j) := fun j hj => by unfold ye; rw [if_pos hj]
  have hp := hy p (by omega)
  obtain ⟨e, he⟩ : ∃ e, ye n (fun k => E (b + k)) = e := ⟨_, rfl⟩
  rw [he] at h hp hy
  unfold xms at h
  split at h
  · rename_i h1
    cases h
    refine ⟨by rw [← hp], by omega, ?_, ?_, ?_, ?_⟩
    · show e p = 116 ∨ _; omega
    · intro h2; have h3 : e p = 62 ∨ e p = 60 := h2; omega
    · intro h2; have h3 : e p = 126 := h2; omega
    · intro h2; have h3 : e p = 47 := h2; omega
  split at h
  · rename_i h0 h1
    unfold xmb at h
    split at h
    · cases h
      have hp1 := hy (p + 1) (by omega)
      refine ⟨by rw [← hp], by omega, ?_, ?_, ?_, ?_⟩
      · show e p = 116 ∨ _; omega
      · intro _; show E (b + p + 1) - 48 = e (p + 1) - 48; rw [hp1]; rfl
      · intro h2; have h3 : e p = 126 := h2; omega
      · intro h2; have h3 : e p = 47 := h2; omega
    · cases h
  split at h
  · rename_i h0 h1 h2
    unfold xmp at h
    split at h
    · cases h
      refine ⟨by rw [← hp], by omega, ?_, ?_, ?_, ?_⟩
      · show e p = 116 ∨ _; omega
      · intro h3; have h4 : e p = 62 ∨ e p = 60 := h3; omega
      · intro _
        show b + (p + 1 + yn e 97 122 6 (p + 1)) = b + p + 1 + (xch e (p + 1) (yn e 97 122 6 (p + 1))).length ∧ ∀ j : Nat, j < (xch e (p + 1) (yn e 97 122 6 (p + 1))).length → E (b + p + 1 + j) = (xch e (p + 1) (yn e 97 122 6 (p + 1))).getD j 0
        rw [xch_len]
        refine ⟨by omega, fun j hj => ?_⟩
        rw [xch_get _ _ _ _ hj, hy (p + 1 + j) (by omega), show b + p + 1 + j = b + (p + 1 + j) by omega]
      · intro h3; have h4 : e p = 47 := h3; omega
    · cases h
  split at h
  · rename_i h0 h1 h2 h3
    unfold xmi at h
    split at h
    · rename_i h4
      cases h
      refine ⟨by rw [← hp], by omega, ?_, ?_, ?_, ?_⟩
      · show e p = 116 ∨ _; omega
      · intro h3; have h4 : e p = 62 ∨ e p = 60 := h3; omega
      · intro h3; have h4 : e p = 126 := h3; omega
      · intro _
        obtain ⟨M, hM⟩ : ∃ M, M = xit e 8 (p + 1) - (p + 1) := ⟨_, rfl⟩
        show b + (xit e 8 (p + 1) + 1) = b + p + 1 + (xch e (p + 1) (xit e 8 (p + 1) - (p + 1))).length + 1 ∧ (∀ j : Nat, j < (xch e (p + 1) (xit e 8 (p + 1) - (p + 1))).length → E (b + p + 1 + j) = (xch e (p + 1) (xit e 8 (p + 1) - (p + 1))).getD j 0) ∧ xvl (fun j => (xch e (p + 1) (xit e 8 (p + 1) - (p + 1))).getD j 0) (xch e (p + 1) (xit e 8 (p + 1) - (p + 1))).length 8 0
        rw [← hM, xch_len]
        refine ⟨by omega, fun j hj => ?_, ?_⟩
        · rw [xch_get _ _ _ _ hj, hy (p + 1 + j) (by omega), show b + p + 1 + j = b + (p + 1 + j) by omega]
        · refine xvl_it (e := e) (p0 := p + 1) (fun j hj => xch_get _ _ _ _ hj) 8 0 (Nat.zero_le _) ?_
          rw [Nat.add_zero]
          omega
    · cases h
  · cases h
/-- rows of the helpers of a rule stay away from all others -/
def xhm (t t' : Nat → Nat → Int) : Prop := ∀ x : Nat, ¬ (187 ≤ x ∧ x ≤ 192) → t' x = t x
theorem xhm_refl (t : Nat → Nat → Int) : xhm t t := fun _ _ => rfl
theorem xhm_trans {t t' t'' : Nat → Nat → Int} (h1 : xhm t t') (h2 : xhm t' t'') : xhm t t'' := fun x hx => (h2 x hx).trans (h1 x hx)
theorem xV_k {E : Nat → Int} {m p q : Nat} {u : xv (m + 1)} (h : xV E (m + 1) p u q) : xkd (E p) = xv_k u := h.2.1
theorem xV_s {E : Nat → Int} {m p q : Nat} {u : xv (m + 1)} (h : xV E (m + 1) p u q) (h3 : xv_k u = 3) : q = p + (xv_l u).length + 2 ∧ (∀ j : Nat, j < (xv_l u).length → E (p + 1 + j) = (xv_l u).getD j 0) ∧ (xv_l u).length ≤ 12 := by
  obtain ⟨-, -, ⟨-, h1, ⟨h2, -⟩, -, -, h5⟩ | ⟨-, h5⟩⟩ := h
  · rcases h5 with ⟨-, h6, -, -, h7⟩ | ⟨h6, -⟩
    · exact ⟨h6, h7, h2⟩
    · exact absurd h3 h6
  · omega
section HO
variable {w : Value} {d : Nat} {A : xb_H} {s : Nat → Int} {t : Nat → Nat → Int} {m mp q pe pa ze za : Nat} {mm : Int × Int × List Int} {e u : xv (m + 1)}
theorem xHP_row {E : Nat → Int} {p l : List Int} {a z fr : Nat} (hz : z = a + l.length + 2) (hl : ∀ j : Nat, j < l.length → E (a + 1 + j) = l.getD j 0) (hp : ∀ j : Nat, j < p.length → E (fr + j) = p.getD j 0) : (∃ x : Nat, a + 1 ≤ x ∧ (x : Int) ≤ (z : Int) - 1 - (p.length : Int) ∧ ∀ i : Nat, i < p.length → E (x + i) = E (fr + i)) ↔ xHP p l := by
  constructor
  · rintro ⟨x, h1, h2, h3⟩
    refine ⟨x - (a + 1), by omega, fun j hj => ?_⟩
    rw [← hl (x - (a + 1) + j) (by omega), ← hp j hj, ← h3 j hj]
    congr 1
    omega
  · rintro ⟨x, h1, h2⟩
    refine ⟨a + 1 + x, by omega, by omega, fun j hj => ?_⟩
    rw [hp j hj, ← h2 j hj, ← hl (x + j) (by omega)]
    congr 1
    omega
theorem mo_248a (hA : 194 ≤ A.1) (hE : ∀ j : Nat, 0 ≤ t 166 j ∧ t 166 j ≤ 127) (hm : m ≤ 5) (hmt : xMT (t 166) mp q mm) (he : xV (t 166) (m + 1) pe e ze) (hu : xV (t 166) (m + 1) pa u za) (hze : ze ≤ pe + 100 ∧ ze < 3711) (hza : za ≤ pa + 100 ∧ za < 3711) (hsg : True) (hC : xMH m mm e u ↔ (xv_k u = xv_k e)) : xr_ok (xt_G w) (d + 1 + 1 + 1 + 1 + 1 + 1) 248 72 [(0, .ref 165), (1, .int (Int32.ofInt (mp : Int))), (2, .int (Int32.ofInt (q : Int))), (3, .int (Int32.ofInt (pe : Int))), (4, .int (Int32.ofInt (pa : Int)))] [] (ym A s t) (fun o A' => ∃ v0, o = .inl v0 ∧ ∃ (b : Int) (t' : Nat → Nat → Int), (v0 = some (.int (Int32.ofInt b)) ∧ A' = ym A s t' ∧ xhm t t') ∧ ((b = 1 ∧ xMH m mm e u) ∨ (b = 0 ∧ ¬ xMH m mm e u))) := by
  have hk1 := xV_k he
  have hk2 := xV_k hu
  have hl1 := xV_lt he
  have hl2 := xV_lt hu
  have hmq := hmt.2.1
  have hw1 := (xV_wf (m + 1) pe ze e he hze.1).1
  have hw2 := (xV_wf (m + 1) pa za u hu hza.1).1
  refine xr_steps (pc' := 75) (L' := [(0, .ref 165), (1, .int (Int32.ofInt (mp : Int))), (2, .int (Int32.ofInt (q : Int))), (3, .int (Int32.ofInt (pe : Int))), (4, .int (Int32.ofInt (pa : Int)))]) (st' := [.int (Int32.ofInt (pa : Int)), .ref 165]) 2 rfl ?_
  refine xr_call (q := (.invokevirtual 125, 3, 217, 2)) (av := [.ref 165, .int (Int32.ofInt (pa : Int))]) (rest := []) rfl rfl (by decide) rfl (ym_rcv hA rfl) (Nat.le_of_ble_eq_true rfl) (mo_217 hA hE (by omega)) ?_
  rintro _ _ ⟨rfl, eA⟩
  rw [eA]
  clear eA
  rw [hk2]
  refine xr_steps (pc' := 80) (L' := [(0, .ref 165), (1, .int (Int32.ofInt (mp : Int))), (2, .int (Int32.ofInt (q : Int))), (3, .int (Int32.ofInt (pe : Int))), (4, .int (Int32.ofInt (pa : Int)))]) (st' := [.int (Int32.ofInt (pe : Int)), .ref 165, .int (Int32.ofInt ((xv_k u : Nat) : Int))]) 2 rfl ?_
  refine xr_call (q := (.invokevirtual 125, 3, 217, 2)) (av := [.ref 165, .int (Int32.ofInt (pe : Int))]) (rest := [.int (Int32.ofInt ((xv_k u : Nat) : Int))]) rfl rfl (by decide) rfl (ym_rcv hA rfl) (Nat.le_of_ble_eq_true rfl) (mo_217 hA hE (by omega)) ?_
  rintro _ _ ⟨rfl, eA⟩
  rw [eA]
  clear eA
  rw [hk1]
  refine xr_icmp_ne rfl (by omega) (by omega) (fun z31 => ?_) (fun z31 => ?_)
  · refine xr_steps (pc' := 91) (L' := [(0, .ref 165), (1, .int (Int32.ofInt (mp : Int))), (2, .int (Int32.ofInt (q : Int))), (3, .int (Int32.ofInt (pe : Int))), (4, .int (Int32.ofInt (pa : Int)))]) (st' := [.int (Int32.ofInt 0)]) 1 rfl ?_
    refine xr_retZ rfl rfl (by omega) ⟨_, rfl, 0, t, ⟨rfl, rfl, xhm_refl t⟩, ?_⟩
    rw [hC]
    omega
  · refine xr_steps (pc' := 91) (L' := [(0, .ref 165), (1, .int (Int32.ofInt (mp : Int))), (2, .int (Int32.ofInt (q : Int))), (3, .int (Int32.ofInt (pe : Int))), (4, .int (Int32.ofInt (pa : Int)))]) (st' := [.int (Int32.ofInt 1)]) 2 rfl ?_
    refine xr_retZ rfl rfl (by omega) ⟨_, rfl, 1, t, ⟨rfl, rfl, xhm_refl t⟩, ?_⟩
    rw [hC]
    omega
theorem mo_248b (hA : 194 ≤ A.1) (hE : ∀ j : Nat, 0 ≤ t 166 j ∧ t 166 j ≤ 127) (hm : m ≤ 5) (hmt : xMT (t 166) mp q mm) (he : xV (t 166) (m + 1) pe e ze) (hu : xV (t 166) (m + 1) pa u za) (hze : ze ≤ pe + 100 ∧ ze < 3711) (hza : za ≤ pa + 100 ∧ za < 3711) (hsg : True) (hC : xMH m mm e u ↔ (xeq (m + 1) e u)) : xr_ok (xt_G w) (d + 1 + 1 + 1 + 1 + 1 + 1) 248 92 [(0, .ref 165), (1, .int (Int32.ofInt (mp : Int))), (2, .int (Int32.ofInt (q : Int))), (3, .int (Int32.ofInt (pe : Int))), (4, .int (Int32.ofInt (pa : Int)))] [] (ym A s t) (fun o A' => ∃ v0, o = .inl v0 ∧ ∃ (b : Int) (t' : Nat → Nat → Int), (v0 = some (.int (Int32.ofInt b)) ∧ A' = ym A s t' ∧ xhm t t') ∧ ((b = 1 ∧ xMH m mm e u) ∨ (b = 0 ∧ ¬ xMH m mm e u))) := by
  have hk1 := xV_k he
  have hk2 := xV_k hu
  have hl1 := xV_lt he
  have hl2 := xV_lt hu
  have hmq := hmt.2.1
  have hw1 := (xV_wf (m + 1) pe ze e he hze.1).1
  have hw2 := (xV_wf (m + 1) pa za u hu hza.1).1
  refine xr_steps (pc' := 96) (L' := [(0, .ref 165), (1, .int (Int32.ofInt (mp : Int))), (2, .int (Int32.ofInt (q : Int))), (3, .int (Int32.ofInt (pe : Int))), (4, .int (Int32.ofInt (pa : Int)))]) (st' := [.int (Int32.ofInt (pa : Int)), .int (Int32.ofInt (pe : Int)), .ref 165]) 3 rfl ?_
  refine xr_call (q := (.invokevirtual 157, 3, 216, 3)) (av := [.ref 165, .int (Int32.ofInt (pe : Int)), .int (Int32.ofInt (pa : Int))]) (rest := []) rfl rfl (by decide) rfl (ym_rcv hA rfl) (Nat.le_of_ble_eq_true rfl) (mo_216 hA hE (by omega) he hu hze hza) ?_
  rintro _ _ ⟨b, T1, ⟨rfl, eA, hsm⟩, hb⟩
  rw [eA]
  clear eA
  have hb01 : b = 0 ∨ b = 1 := by omega
  refine xr_retZ rfl rfl (by omega) ⟨_, rfl, b, T1, ⟨rfl, rfl, fun x hx => hsm x (by omega) (by omega)⟩, ?_⟩
  rw [hC]
  exact hb
theorem mo_248c (hA : 194 ≤ A.1) (hE : ∀ j : Nat, 0 ≤ t 166 j ∧ t 166 j ≤ 127) (hm : m ≤ 5) (hmt : xMT (t 166) mp q mm) (he : xV (t 166) (m + 1) pe e ze) (hu : xV (t 166) (m + 1) pa u za) (hze : ze ≤ pe + 100 ∧ ze < 3711) (hza : za ≤ pa + 100 ∧ za < 3711) (hsg : True) (hC : xMH m mm e u ↔ (xv_k u = 0)) : xr_ok (xt_G w) (d + 1 + 1 + 1 + 1 + 1 + 1) 248 100 [(0, .ref 165), (1, .int (Int32.ofInt (mp : Int))), (2, .int (Int32.ofInt (q : Int))), (3, .int (Int32.ofInt (pe : Int))), (4, .int (Int32.ofInt (pa : Int)))] [] (ym A s t) (fun o A' => ∃ v0, o = .inl v0 ∧ ∃ (b : Int) (t' : Nat → Nat → Int), (v0 = some (.int (Int32.ofInt b)) ∧ A' = ym A s t' ∧ xhm t t') ∧ ((b = 1 ∧ xMH m mm e u) ∨ (b = 0 ∧ ¬ xMH m mm e u))) := by
  have hk1 := xV_k he
  have hk2 := xV_k hu
  have hl1 := xV_lt he
  have hl2 := xV_lt hu
  have hmq := hmt.2.1
  have hw1 := (xV_wf (m + 1) pe ze e he hze.1).1
  have hw2 := (xV_wf (m + 1) pa za u hu hza.1).1
  refine xr_steps (pc' := 103) (L' := [(0, .ref 165), (1, .int (Int32.ofInt (mp : Int))), (2, .int (Int32.ofInt (q : Int))), (3, .int (Int32.ofInt (pe : Int))), (4, .int (Int32.ofInt (pa : Int)))]) (st' := [.int (Int32.ofInt (pa : Int)), .ref 165]) 2 rfl ?_
  refine xr_call (q := (.invokevirtual 125, 3, 217, 2)) (av := [.ref 165, .int (Int32.ofInt (pa : Int))]) (rest := []) rfl rfl (by decide) rfl (ym_rcv hA rfl) (Nat.le_of_ble_eq_true rfl) (mo_217 hA hE (by omega)) ?_
  rintro _ _ ⟨rfl, eA⟩
  rw [eA]
  clear eA
  rw [hk2]
  refine xr_if_ne rfl (by omega) (fun z31 => ?_) (fun z31 => ?_)
  · refine xr_steps (pc' := 114) (L' := [(0, .ref 165), (1, .int (Int32.ofInt (mp : Int))), (2, .int (Int32.ofInt (q : Int))), (3, .int (Int32.ofInt (pe : Int))), (4, .int (Int32.ofInt (pa : Int)))]) (st' := [.int (Int32.ofInt 0)]) 1 rfl ?_
    refine xr_retZ rfl rfl (by omega) ⟨_, rfl, 0, t, ⟨rfl, rfl, xhm_refl t⟩, ?_⟩
    rw [hC]
    omega
  · refine xr_steps (pc' := 114) (L' := [(0, .ref 165), (1, .int (Int32.ofInt (mp : Int))), (2, .int (Int32.ofInt (q : Int))), (3, .int (Int32.ofInt (pe : Int))), (4, .int (Int32.ofInt (pa : Int)))]) (st' := [.int (Int32.ofInt 1)]) 2 rfl ?_
    refine xr_retZ rfl rfl (by omega) ⟨_, rfl, 1, t, ⟨rfl, rfl, xhm_refl t⟩, ?_⟩
    rw [hC]
    omega
theorem mo_248d (hA : 194 ≤ A.1) (hE : ∀ j : Nat, 0 ≤ t 166 j ∧ t 166 j ≤ 127) (hm : m ≤ 5) (hmt : xMT (t 166) mp q mm) (he : xV (t 166) (m + 1) pe e ze) (hu : xV (t 166) (m + 1) pa u za) (hze : ze ≤ pe + 100 ∧ ze < 3711) (hza : za ≤ pa + 100 ∧ za < 3711) (hsg : True) (hC : xMH m mm e u ↔ (xv_k u = 2)) : xr_ok (xt_G w) (d + 1 + 1 + 1 + 1 + 1 + 1) 248 115 [(0, .ref 165), (1, .int (Int32.ofInt (mp : Int))), (2, .int (Int32.ofInt (q : Int))), (3, .int (Int32.ofInt (pe : Int))), (4, .int (Int32.ofInt (pa : Int)))] [] (ym A s t) (fun o A' => ∃ v0, o = .inl v0 ∧ ∃ (b : Int) (t' : Nat → Nat → Int), (v0 = some (.int (Int32.ofInt b)) ∧ A' = ym A s t' ∧ xhm t t') ∧ ((b = 1 ∧ xMH m mm e u) ∨ (b = 0 ∧ ¬ xMH m mm e u))) := by
  have hk1 := xV_k he
  have hk2 := xV_k hu
  have hl1 := xV_lt he
  have hl2 := xV_lt hu
  have hmq := hmt.2.1
  have hw1 := (xV_wf (m + 1) pe ze e he hze.1).1
  have hw2 := (xV_wf (m + 1) pa za u hu hza.1).1
  refine xr_steps (pc' := 118) (L' := [(0, .ref 165), (1, .int (Int32.ofInt (mp : Int))), (2, .int (Int32.ofInt (q : Int))), (3, .int (Int32.ofInt (pe : Int))), (4, .int (Int32.ofInt (pa : Int)))]) (st' := [.int (Int32.ofInt (pa : Int)), .ref 165]) 2 rfl ?_
  refine xr_call (q := (.invokevirtual 125, 3, 217, 2)) (av := [.ref 165, .int (Int32.ofInt (pa : Int))]) (rest := []) rfl rfl (by decide) rfl (ym_rcv hA rfl) (Nat.le_of_ble_eq_true rfl) (mo_217 hA hE (by omega)) ?_
  rintro _ _ ⟨rfl, eA⟩
  rw [eA]
  clear eA
  rw [hk2]
  refine xr_steps (pc' := 122) (L' := [(0, .ref 165), (1, .int (Int32.ofInt (mp : Int))), (2, .int (Int32.ofInt (q : Int))), (3, .int (Int32.ofInt (pe : Int))), (4, .int (Int32.ofInt (pa : Int)))]) (st' := [.int (Int32.ofInt 2), .int (Int32.ofInt ((xv_k u : Nat) : Int))]) 1 rfl ?_
  refine xr_icmp_ne rfl (by omega) (by omega) (fun z31 => ?_) (fun z31 => ?_)
  · refine xr_steps (pc' := 130) (L' := [(0, .ref 165), (1, .int (Int32.ofInt (mp : Int))), (2, .int (Int32.ofInt (q : Int))), (3, .int (Int32.ofInt (pe : Int))), (4, .int (Int32.ofInt (pa : Int)))]) (st' := [.int (Int32.ofInt 0)]) 1 rfl ?_
    refine xr_retZ rfl rfl (by omega) ⟨_, rfl, 0, t, ⟨rfl, rfl, xhm_refl t⟩, ?_⟩
    rw [hC]
    omega
  · refine xr_steps (pc' := 130) (L' := [(0, .ref 165), (1, .int (Int32.ofInt (mp : Int))), (2, .int (Int32.ofInt (q : Int))), (3, .int (Int32.ofInt (pe : Int))), (4, .int (Int32.ofInt (pa : Int)))]) (st' := [.int (Int32.ofInt 1)]) 2 rfl ?_
    refine xr_retZ rfl rfl (by omega) ⟨_, rfl, 1, t, ⟨rfl, rfl, xhm_refl t⟩, ?_⟩
    rw [hC]
    omega
theorem mo_248e (hA : 194 ≤ A.1) (hE : ∀ j : Nat, 0 ≤ t 166 j ∧ t 166 j ≤ 127) (hm : m ≤ 5) (hmt : xMT (t 166) mp q mm) (he : xV (t 166) (m + 1) pe e ze) (hu : xV (t 166) (m + 1) pa u za) (hze : ze ≤ pe + 100 ∧ ze < 3711) (hza : za ≤ pa + 100 ∧ za < 3711) (hsg : mm.1 = 62) (hC : xMH m mm e u ↔ (xv_k u = 4 ∧ mm.2.1 ≤ ((xv_p u).length : Int))) : xr_ok (xt_G w) (d + 1 + 1 + 1 + 1 + 1 + 1) 248 131 [(0, .ref 165), (1, .int (Int32.ofInt (mp : Int))), (2, .int (Int32.ofInt (q : Int))), (3, .int (Int32.ofInt (pe : Int))), (4, .int (Int32.ofInt (pa : Int)))] [] (ym A s t) (fun o A' => ∃ v0, o = .inl v0 ∧ ∃ (b : Int) (t' : Nat → Nat → Int), (v0 = some (.int (Int32.ofInt b)) ∧ A' = ym A s t' ∧ xhm t t') ∧ ((b = 1 ∧ xMH m mm e u) ∨ (b = 0 ∧ ¬ xMH m mm e u))) := by
  have hk1 := xV_k he
  have hk2 := xV_k hu
  have hl1 := xV_lt he
  have hl2 := xV_lt hu
  have hmq := hmt.2.1
  have hw1 := (xV_wf (m + 1) pe ze e he hze.1).1
  have hw2 := (xV_wf (m + 1) pa za u hu hza.1).1
  refine xr_steps (pc' := 134) (L' := [(0, .ref 165), (1, .int (Int32.ofInt (mp : Int))), (2, .int (Int32.ofInt (q : Int))), (3, .int (Int32.ofInt (pe : Int))), (4, .int (Int32.ofInt (pa : Int)))]) (st' := [.int (Int32.ofInt (pa : Int)), .ref 165]) 2 rfl ?_
  refine xr_call (q := (.invokevirtual 125, 3, 217, 2)) (av := [.ref 165, .int (Int32.ofInt (pa : Int))]) (rest := []) rfl rfl (by decide) rfl (ym_rcv hA rfl) (Nat.le_of_ble_eq_true rfl) (mo_217 hA hE (by omega)) ?_
  rintro _ _ ⟨rfl, eA⟩
  rw [eA]
  clear eA
  rw [hk2]
  refine xr_steps (pc' := 138) (L' := [(0, .ref 165), (1, .int (Int32.ofInt (mp : Int))), (2, .int (Int32.ofInt (q : Int))), (3, .int (Int32.ofInt (pe : Int))), (4, .int (Int32.ofInt (pa : Int)))]) (st' := [.int (Int32.ofInt 4), .int (Int32.ofInt ((xv_k u : Nat) : Int))]) 1 rfl ?_
  refine xr_icmp_ne rfl (by omega) (by omega) (fun z31 => ?_) (fun z31 => ?_)
  · refine xr_steps (pc' := 166) (L' := [(0, .ref 165), (1, .int (Int32.ofInt (mp : Int))), (2, .int (Int32.ofInt (q : Int))), (3, .int (Int32.ofInt (pe : Int))), (4, .int (Int32.ofInt (pa : Int)))]) (st' := [.int (Int32.ofInt 0)]) 1 rfl ?_
    refine xr_retZ rfl rfl (by omega) ⟨_, rfl, 0, t, ⟨rfl, rfl, xhm_refl t⟩, ?_⟩
    rw [hC]
    omega
  · refine xr_steps (pc' := 144) (L' := [(0, .ref 165), (1, .int (Int32.ofInt (mp : Int))), (2, .int (Int32.ofInt (q : Int))), (3, .int (Int32.ofInt (pe : Int))), (4, .int (Int32.ofInt (pa : Int)))]) (st' := [.int (Int32.ofInt (pa : Int)), .ref 165]) 2 rfl ?_
    have hlen := (xV_wf (m + 1) pa za u hu hza.1).2.2.2.2.2.1
    refine xr_call (q := (.invokevirtual 135, 3, 221, 2)) (av := [.ref 165, .int (Int32.ofInt (pa : Int))]) (rest := []) rfl rfl (by decide) rfl (ym_rcv hA rfl) (Nat.le_of_ble_eq_true rfl) (mo_221 hA hE hm hu (by omega) (by omega) hza.1) ?_
    rintro _ _ ⟨rfl, eA⟩
    rw [eA]
    clear eA
    refine xr_steps (pc' := 148) (L' := [(0, .ref 165), (1, .int (Int32.ofInt (mp : Int))), (2, .int (Int32.ofInt (q : Int))), (3, .int (Int32.ofInt (pe : Int))), (4, .int (Int32.ofInt (pa : Int)))]) (st' := [.ref 165, .int (Int32.ofInt ((xv_p u).length : Int))]) 1 rfl ?_
    refine xr_getf (v := .ref 166) rfl (ym_165 hA) rfl ?_
    refine xr_steps (pc' := 153) (L' := [(0, .ref 165), (1, .int (Int32.ofInt (mp : Int))), (2, .int (Int32.ofInt (q : Int))), (3, .int (Int32.ofInt (pe : Int))), (4, .int (Int32.ofInt (pa : Int)))]) (st' := [.int (Int32.ofInt 1), .int (Int32.ofInt (mp : Int)), .ref 166, .int (Int32.ofInt ((xv_p u).length : Int))]) 2 rfl ?_
    refine xr_iadd rfl ?_
    refine ym_caload (e := t 166 ((mp : Int) + 1).toNat) hA rfl rfl (by decide) (by omega) (by omega) rfl ?_
    rw [show ((mp : Int) + 1).toNat = mp + 1 by omega]
    have hE1 := hE (mp + 1)
    have hbd := hmt.2.2.2.1 (by omega)
    refine xr_steps (pc' := 157) (L' := [(0, .ref 165), (1, .int (Int32.ofInt (mp : Int))), (2, .int (Int32.ofInt (q : Int))), (3, .int (Int32.ofInt (pe : Int))), (4, .int (Int32.ofInt (pa : Int)))]) (st' := [.int (Int32.ofInt 48), .int (Int32.ofInt (t 166 (mp + 1))), .int (Int32.ofInt ((xv_p u).length : Int))]) 1 rfl ?_
    refine xr_isub rfl ?_
    refine xr_icmp_lt rfl (by omega) (by omega) (fun z32 => ?_) (fun z32 => ?_)
    · refine xr_steps (pc' := 166) (L' := [(0, .ref 165), (1, .int (Int32.ofInt (mp : Int))), (2, .int (Int32.ofInt (q : Int))), (3, .int (Int32.ofInt (pe : Int))), (4, .int (Int32.ofInt (pa : Int)))]) (st' := [.int (Int32.ofInt 0)]) 1 rfl ?_
      refine xr_retZ rfl rfl (by omega) ⟨_, rfl, 0, t, ⟨rfl, rfl, xhm_refl t⟩, ?_⟩
      rw [hC]
      omega
    · refine xr_steps (pc' := 166) (L' := [(0, .ref 165), (1, .int (Int32.ofInt (mp : Int))), (2, .int (Int32.ofInt (q : Int))), (3, .int (Int32.ofInt (pe : Int))), (4, .int (Int32.ofInt (pa : Int)))]) (st' := [.int (Int32.ofInt 1)]) 2 rfl ?_
      refine xr_retZ rfl rfl (by omega) ⟨_, rfl, 1, t, ⟨rfl, rfl, xhm_refl t⟩, ?_⟩
      rw [hC]
      omega
theorem mo_248f (hA : 194 ≤ A.1) (hE : ∀ j : Nat, 0 ≤ t 166 j ∧ t 166 j ≤ 127) (hm : m ≤ 5) (hmt : xMT (t 166) mp q mm) (he : xV (t 166) (m + 1) pe e ze) (hu : xV (t 166) (m + 1) pa u za) (hze : ze ≤ pe + 100 ∧ ze < 3711) (hza : za ≤ pa + 100 ∧ za < 3711) (hsg : mm.1 = 60) (hC : xMH m mm e u ↔ (xv_k u = 4 ∧ ((xv_p u).length : Int) ≤ mm.2.1)) : xr_ok (xt_G w) (d + 1 + 1 + 1 + 1 + 1 + 1) 248 167 [(0, .ref 165), (1, .int (Int32.ofInt (mp : Int))), (2, .int (Int32.ofInt (q : Int))), (3, .int (Int32.ofInt (pe : Int))), (4, .int (Int32.ofInt (pa : Int)))] [] (ym A s t) (fun o A' => ∃ v0, o = .inl v0 ∧ ∃ (b : Int) (t' : Nat → Nat → Int), (v0 = some (.int (Int32.ofInt b)) ∧ A' = ym A s t' ∧ xhm t t') ∧ ((b = 1 ∧ xMH m mm e u) ∨ (b = 0 ∧ ¬ xMH m mm e u))) := by
  have hk1 := xV_k he
  have hk2 := xV_k hu
  have hl1 := xV_lt he
  have hl2 := xV_lt hu
  have hmq := hmt.2.1
  have hw1 := (xV_wf (m + 1) pe ze e he hze.1).1
  have hw2 := (xV_wf (m + 1) pa za u hu hza.1).1
  refine xr_steps (pc' := 170) (L' := [(0, .ref 165), (1, .int (Int32.ofInt (mp : Int))), (2, .int (Int32.ofInt (q : Int))), (3, .int (Int32.ofInt (pe : Int))), (4, .int (Int32.ofInt (pa : Int)))]) (st' := [.int (Int32.ofInt (pa : Int)), .ref 165]) 2 rfl ?_
  refine xr_call (q := (.invokevirtual 125, 3, 217, 2)) (av := [.ref 165, .int (Int32.ofInt (pa : Int))]) (rest := []) rfl rfl (by decide) rfl (ym_rcv hA rfl) (Nat.le_of_ble_eq_true rfl) (mo_217 hA hE (by omega)) ?_
  rintro _ _ ⟨rfl, eA⟩
  rw [eA]
  clear eA
  rw [hk2]
  refine xr_steps (pc' := 174) (L' := [(0, .ref 165), (1, .int (Int32.ofInt (mp : Int))), (2, .int (Int32.ofInt (q : Int))), (3, .int (Int32.ofInt (pe : Int))), (4, .int (Int32.ofInt (pa : Int)))]) (st' := [.int (Int32.ofInt 4), .int (Int32.ofInt ((xv_k u : Nat) : Int))]) 1 rfl ?_
  refine xr_icmp_ne rfl (by omega) (by omega) (fun z31 => ?_) (fun z31 => ?_)
  · refine xr_steps (pc' := 202) (L' := [(0, .ref 165), (1, .int (Int32.ofInt (mp : Int))), (2, .int (Int32.ofInt (q : Int))), (3, .int (Int32.ofInt (pe : Int))), (4, .int (Int32.ofInt (pa : Int)))]) (st' := [.int (Int32.ofInt 0)]) 1 rfl ?_
    refine xr_retZ rfl rfl (by omega) ⟨_, rfl, 0, t, ⟨rfl, rfl, xhm_refl t⟩, ?_⟩
    rw [hC]
    omega
  · refine xr_steps (pc' := 180) (L' := [(0, .ref 165), (1, .int (Int32.ofInt (mp : Int))), (2, .int (Int32.ofInt (q : Int))), (3, .int (Int32.ofInt (pe : Int))), (4, .int (Int32.ofInt (pa : Int)))]) (st' := [.int (Int32.ofInt (pa : Int)), .ref 165]) 2 rfl ?_
    have hlen := (xV_wf (m + 1) pa za u hu hza.1).2.2.2.2.2.1
    refine xr_call (q := (.invokevirtual 135, 3, 221, 2)) (av := [.ref 165, .int (Int32.ofInt (pa : Int))]) (rest := []) rfl rfl (by decide) rfl (ym_rcv hA rfl) (Nat.le_of_ble_eq_true rfl) (mo_221 hA hE hm hu (by omega) (by omega) hza.1) ?_
    rintro _ _ ⟨rfl, eA⟩
    rw [eA]
    clear eA
    refine xr_steps (pc' := 184) (L' := [(0, .ref 165), (1, .int (Int32.ofInt (mp : Int))), (2, .int (Int32.ofInt (q : Int))), (3, .int (Int32.ofInt (pe : Int))), (4, .int (Int32.ofInt (pa : Int)))]) (st' := [.ref 165, .int (Int32.ofInt ((xv_p u).length : Int))]) 1 rfl ?_
    refine xr_getf (v := .ref 166) rfl (ym_165 hA) rfl ?_
    refine xr_steps (pc' := 189) (L' := [(0, .ref 165), (1, .int (Int32.ofInt (mp : Int))), (2, .int (Int32.ofInt (q : Int))), (3, .int (Int32.ofInt (pe : Int))), (4, .int (Int32.ofInt (pa : Int)))]) (st' := [.int (Int32.ofInt 1), .int (Int32.ofInt (mp : Int)), .ref 166, .int (Int32.ofInt ((xv_p u).length : Int))]) 2 rfl ?_
    refine xr_iadd rfl ?_
    refine ym_caload (e := t 166 ((mp : Int) + 1).toNat) hA rfl rfl (by decide) (by omega) (by omega) rfl ?_
    rw [show ((mp : Int) + 1).toNat = mp + 1 by omega]
    have hE1 := hE (mp + 1)
    have hbd := hmt.2.2.2.1 (by omega)
    refine xr_steps (pc' := 193) (L' := [(0, .ref 165), (1, .int (Int32.ofInt (mp : Int))), (2, .int (Int32.ofInt (q : Int))), (3, .int (Int32.ofInt (pe : Int))), (4, .int (Int32.ofInt (pa : Int)))]) (st' := [.int (Int32.ofInt 48), .int (Int32.ofInt (t 166 (mp + 1))), .int (Int32.ofInt ((xv_p u).length : Int))]) 1 rfl ?_
    refine xr_isub rfl ?_
    refine xr_icmp_gt rfl (by omega) (by omega) (fun z32 => ?_) (fun z32 => ?_)
    · refine xr_steps (pc' := 202) (L' := [(0, .ref 165), (1, .int (Int32.ofInt (mp : Int))), (2, .int (Int32.ofInt (q : Int))), (3, .int (Int32.ofInt (pe : Int))), (4, .int (Int32.ofInt (pa : Int)))]) (st' := [.int (Int32.ofInt 0)]) 1 rfl ?_
      refine xr_retZ rfl rfl (by omega) ⟨_, rfl, 0, t, ⟨rfl, rfl, xhm_refl t⟩, ?_⟩
      rw [hC]
      omega
    · refine xr_steps (pc' := 202) (L' := [(0, .ref 165), (1, .int (Int32.ofInt (mp : Int))), (2, .int (Int32.ofInt (q : Int))), (3, .int (Int32.ofInt (pe : Int))), (4, .int (Int32.ofInt (pa : Int)))]) (st' := [.int (Int32.ofInt 1)]) 2 rfl ?_
      refine xr_retZ rfl rfl (by omega) ⟨_, rfl, 1, t, ⟨rfl, rfl, xhm_refl t⟩, ?_⟩
      rw [hC]
      omega
theorem mo_248g (hA : 194 ≤ A.1) (hE : ∀ j : Nat, 0 ≤ t 166 j ∧ t 166 j ≤ 127) (hm : m ≤ 5) (hmt : xMT (t 166) mp q mm) (he : xV (t 166) (m + 1) pe e ze) (hu : xV (t 166) (m + 1) pa u za) (hze : ze ≤ pe + 100 ∧ ze < 3711) (hza : za ≤ pa + 100 ∧ za < 3711) (hsg : mm.1 = 126) (hC : xMH m mm e u ↔ (xv_k u = 3 ∧ xHP mm.2.2 (xv_l u))) : xr_ok (xt_G w) (d + 1 + 1 + 1 + 1 + 1 + 1) 248 203 [(0, .ref 165), (1, .int (Int32.ofInt (mp : Int))), (2, .int (Int32.ofInt (q : Int))), (3, .int (Int32.ofInt (pe : Int))), (4, .int (Int32.ofInt (pa : Int)))] [] (ym A s t) (fun o A' => ∃ v0, o = .inl v0 ∧ ∃ (b : Int) (t' : Nat → Nat → Int), (v0 = some (.int (Int32.ofInt b)) ∧ A' = ym A s t' ∧ xhm t t') ∧ ((b = 1 ∧ xMH m mm e u) ∨ (b = 0 ∧ ¬ xMH m mm e u))) := by
  have hk1 := xV_k he
  have hk2 := xV_k hu
  have hl1 := xV_lt he
  have hl2 := xV_lt hu
  have hmq := hmt.2.1
  have hw1 := (xV_wf (m + 1) pe ze e he hze.1).1
  have hw2 := (xV_wf (m + 1) pa za u hu hza.1).1
  refine xr_steps (pc' := 206) (L' := [(0, .ref 165), (1, .int (Int32.ofInt (mp : Int))), (2, .int (Int32.ofInt (q : Int))), (3, .int (Int32.ofInt (pe : Int))), (4, .int (Int32.ofInt (pa : Int)))]) (st' := [.int (Int32.ofInt (pa : Int)), .ref 165]) 2 rfl ?_
  refine xr_call (q := (.invokevirtual 125, 3, 217, 2)) (av := [.ref 165, .int (Int32.ofInt (pa : Int))]) (rest := []) rfl rfl (by decide) rfl (ym_rcv hA rfl) (Nat.le_of_ble_eq_true rfl) (mo_217 hA hE (by omega)) ?_
  rintro _ _ ⟨rfl, eA⟩
  rw [eA]
  clear eA
  rw [hk2]
  refine xr_steps (pc' := 210) (L' := [(0, .ref 165), (1, .int (Int32.ofInt (mp : Int))), (2, .int (Int32.ofInt (q : Int))), (3, .int (Int32.ofInt (pe : Int))), (4, .int (Int32.ofInt (pa : Int)))]) (st' := [.int (Int32.ofInt 3), .int (Int32.ofInt ((xv_k u : Nat) : Int))]) 1 rfl ?_
  refine xr_icmp_ne rfl (by omega) (by omega) (fun z31 => ?_) (fun z31 => ?_)
  · refine xr_steps (pc' := 231) (L' := [(0, .ref 165), (1, .int (Int32.ofInt (mp : Int))), (2, .int (Int32.ofInt (q : Int))), (3, .int (Int32.ofInt (pe : Int))), (4, .int (Int32.ofInt (pa : Int)))]) (st' := [.int (Int32.ofInt 0)]) 1 rfl ?_
    exact xr_retZ rfl rfl (by omega) ⟨_, rfl, 0, t, ⟨rfl, rfl, xhm_refl t⟩, Or.inr ⟨rfl, fun h => absurd (hC.1 h).1 (by omega)⟩⟩
  · refine xr_steps (pc' := 218) (L' := [(0, .ref 165), (1, .int (Int32.ofInt (mp : Int))), (2, .int (Int32.ofInt (q : Int))), (3, .int (Int32.ofInt (pe : Int))), (4, .int (Int32.ofInt (pa : Int)))]) (st' := [.int (Int32.ofInt 1), .int (Int32.ofInt (mp : Int)), .int (Int32.ofInt (pa : Int)), .ref 165]) 4 rfl ?_
    refine xr_iadd rfl ?_
    refine xr_steps (pc' := 220) (L' := [(0, .ref 165), (1, .int (Int32.ofInt (mp : Int))), (2, .int (Int32.ofInt (q : Int))), (3, .int (Int32.ofInt (pe : Int))), (4, .int (Int32.ofInt (pa : Int)))]) (st' := [.int (Int32.ofInt (q : Int)), .int (Int32.ofInt ((mp : Int) + 1)), .int (Int32.ofInt (pa : Int)), .ref 165]) 1 rfl ?_
    obtain ⟨hq6, hp6⟩ := hmt.2.2.2.2.1 hsg
    obtain ⟨hz3, hl3, hl12⟩ := xV_s hu (by omega)
    rw [show (mp : Int) + 1 = ((mp + 1 : Nat) : Int) by omega, show (q : Int) = ((mp + 1 + mm.2.2.length : Nat) : Int) by omega]
    refine xr_call (q := (.invokevirtual 195, 3, 249, 4)) (av := [.ref 165, .int (Int32.ofInt (pa : Int)), .int (Int32.ofInt ((mp + 1 : Nat) : Int)), .int (Int32.ofInt ((mp + 1 + mm.2.2.length : Nat) : Int))]) (rest := []) rfl rfl (by decide) rfl (ym_rcv hA rfl) (Nat.le_of_ble_eq_true rfl) (mo_249 (n := mm.2.2.length) hA hE (by omega) hu hza.2 (by omega) (by omega)) ?_
    rintro _ _ ⟨b, ⟨rfl, eA⟩, hb⟩
    rw [eA]
    clear eA
    rw [xHP_row hz3 hl3 hp6] at hb
    rcases hb with ⟨rfl, yb⟩ | ⟨rfl, yb⟩
    · refine xr_if_eq rfl (by omega) (fun z32 => ?_) (fun z32 => ?_)
      · exfalso; omega
      · refine xr_steps (pc' := 231) (L' := [(0, .ref 165), (1, .int (Int32.ofInt (mp : Int))), (2, .int (Int32.ofInt ((mp + 1 + mm.2.2.length : Nat) : Int))), (3, .int (Int32.ofInt (pe : Int))), (4, .int (Int32.ofInt (pa : Int)))]) (st' := [.int (Int32.ofInt 1)]) 2 rfl ?_
        exact xr_retZ rfl rfl (by omega) ⟨_, rfl, 1, t, ⟨rfl, rfl, xhm_refl t⟩, Or.inl ⟨rfl, hC.2 ⟨by omega, yb⟩⟩⟩
    · refine xr_if_eq rfl (by omega) (fun z33 => ?_) (fun z33 => ?_)
      · refine xr_steps (pc' := 231) (L' := [(0, .ref 165), (1, .int (Int32.ofInt (mp : Int))), (2, .int (Int32.ofInt ((mp + 1 + mm.2.2.length : Nat) : Int))), (3, .int (Int32.ofInt (pe : Int))), (4, .int (Int32.ofInt (pa : Int)))]) (st' := [.int (Int32.ofInt 0)]) 1 rfl ?_
        exact xr_retZ rfl rfl (by omega) ⟨_, rfl, 0, t, ⟨rfl, rfl, xhm_refl t⟩, Or.inr ⟨rfl, fun h => yb (hC.1 h).2⟩⟩
      · exfalso; omega
theorem mo_248h (hA : 194 ≤ A.1) (hE : ∀ j : Nat, 0 ≤ t 166 j ∧ t 166 j ≤ 127) (hm : m ≤ 5) (hmt : xMT (t 166) mp q mm) (he : xV (t 166) (m + 1) pe e ze) (hu : xV (t 166) (m + 1) pa u za) (hze : ze ≤ pe + 100 ∧ ze < 3711) (hza : za ≤ pa + 100 ∧ za < 3711) (hsg : mm.1 = 47) (hC : xMH m mm e u ↔ (xv_k u = 3 ∧ xIM mm.2.2 (xv_l u))) : xr_ok (xt_G w) (d + 1 + 1 + 1 + 1 + 1 + 1) 248 232 [(0, .ref 165), (1, .int (Int32.ofInt (mp : Int))), (2, .int (Int32.ofInt (q : Int))), (3, .int (Int32.ofInt (pe : Int))), (4, .int (Int32.ofInt (pa : Int)))] [] (ym A s t) (fun o A' => ∃ v0, o = .inl v0 ∧ ∃ (b : Int) (t' : Nat → Nat → Int), (v0 = some (.int (Int32.ofInt b)) ∧ A' = ym A s t' ∧ xhm t t') ∧ ((b = 1 ∧ xMH m mm e u) ∨ (b = 0 ∧ ¬ xMH m mm e u))) := by
  have hk1 := xV_k he
  have hk2 := xV_k hu
  have hl1 := xV_lt he
  have hl2 := xV_lt hu
  have hmq := hmt.2.1
  have hw1 := (xV_wf (m + 1) pe ze e he hze.1).1
  have hw2 := (xV_wf (m + 1) pa za u hu hza.1).1
  refine xr_steps (pc' := 235) (L' := [(0, .ref 165), (1, .int (Int32.ofInt (mp : Int))), (2, .int (Int32.ofInt (q : Int))), (3, .int (Int32.ofInt (pe : Int))), (4, .int (Int32.ofInt (pa : Int)))]) (st' := [.int (Int32.ofInt (pa : Int)), .ref 165]) 2 rfl ?_
  refine xr_call (q := (.invokevirtual 125, 3, 217, 2)) (av := [.ref 165, .int (Int32.ofInt (pa : Int))]) (rest := []) rfl rfl (by decide) rfl (ym_rcv hA rfl) (Nat.le_of_ble_eq_true rfl) (mo_217 hA hE (by omega)) ?_
  rintro _ _ ⟨rfl, eA⟩
  rw [eA]
  clear eA
  rw [hk2]
  refine xr_steps (pc' := 239) (L' := [(0, .ref 165), (1, .int (Int32.ofInt (mp : Int))), (2, .int (Int32.ofInt (q : Int))), (3, .int (Int32.ofInt (pe : Int))), (4, .int (Int32.ofInt (pa : Int)))]) (st' := [.int (Int32.ofInt 3), .int (Int32.ofInt ((xv_k u : Nat) : Int))]) 1 rfl ?_
  refine xr_icmp_ne rfl (by omega) (by omega) (fun z31 => ?_) (fun z31 => ?_)
  · refine xr_steps (pc' := 262) (L' := [(0, .ref 165), (1, .int (Int32.ofInt (mp : Int))), (2, .int (Int32.ofInt (q : Int))), (3, .int (Int32.ofInt (pe : Int))), (4, .int (Int32.ofInt (pa : Int)))]) (st' := [.int (Int32.ofInt 0)]) 1 rfl ?_
    exact xr_retZ rfl rfl (by omega) ⟨_, rfl, 0, t, ⟨rfl, rfl, xhm_refl t⟩, Or.inr ⟨rfl, fun h => absurd (hC.1 h).1 (by omega)⟩⟩
  · refine xr_steps (pc' := 247) (L' := [(0, .ref 165), (1, .int (Int32.ofInt (mp : Int))), (2, .int (Int32.ofInt (q : Int))), (3, .int (Int32.ofInt (pe : Int))), (4, .int (Int32.ofInt (pa : Int)))]) (st' := [.int (Int32.ofInt 1), .int (Int32.ofInt (mp : Int)), .int (Int32.ofInt (pa : Int)), .ref 165]) 4 rfl ?_
    refine xr_iadd rfl ?_
    refine xr_steps (pc' := 250) (L' := [(0, .ref 165), (1, .int (Int32.ofInt (mp : Int))), (2, .int (Int32.ofInt (q : Int))), (3, .int (Int32.ofInt (pe : Int))), (4, .int (Int32.ofInt (pa : Int)))]) (st' := [.int (Int32.ofInt 1), .int (Int32.ofInt (q : Int)), .int (Int32.ofInt ((mp : Int) + 1)), .int (Int32.ofInt (pa : Int)), .ref 165]) 2 rfl ?_
    refine xr_isub rfl ?_
    obtain ⟨hq6, hp6, hv6⟩ := hmt.2.2.2.2.2 hsg
    obtain ⟨hz3, hl3, hl12⟩ := xV_s hu (by omega)
    rw [show (mp : Int) + 1 = ((mp + 1 : Nat) : Int) by omega, show (q : Int) - 1 = ((mp + 1 + mm.2.2.length : Nat) : Int) by omega]
    refine xr_call (q := (.invokevirtual 199, 3, 250, 4)) (av := [.ref 165, .int (Int32.ofInt (pa : Int)), .int (Int32.ofInt ((mp + 1 : Nat) : Int)), .int (Int32.ofInt ((mp + 1 + mm.2.2.length : Nat) : Int))]) (rest := []) rfl rfl (by decide) rfl (ym_rcv hA rfl) (Nat.le_of_ble_eq_true rfl) (mo_250 (p := mm.2.2) (l := xv_l u) hA hE (by omega) hu ⟨hza.2, hz3⟩ hl3 (by omega) hp6 hv6) ?_
    rintro _ _ ⟨b, T1, ⟨rfl, eA, hna⟩, hb⟩
    rw [eA]
    clear eA
    have hhm : xhm t T1 := fun x hx => hna x (by omega)
    rcases hb with ⟨rfl, yb⟩ | ⟨rfl, yb⟩
    · refine xr_if_eq rfl (by omega) (fun z32 => ?_) (fun z32 => ?_)
      · exfalso; omega
      · refine xr_steps (pc' := 262) (L' := [(0, .ref 165), (1, .int (Int32.ofInt (mp : Int))), (2, .int (Int32.ofInt (q : Int))), (3, .int (Int32.ofInt (pe : Int))), (4, .int (Int32.ofInt (pa : Int)))]) (st' := [.int (Int32.ofInt 1)]) 2 rfl ?_
        exact xr_retZ rfl rfl (by omega) ⟨_, rfl, 1, T1, ⟨rfl, rfl, hhm⟩, Or.inl ⟨rfl, hC.2 ⟨by omega, yb⟩⟩⟩
    · refine xr_if_eq rfl (by omega) (fun z33 => ?_) (fun z33 => ?_)
      · refine xr_steps (pc' := 262) (L' := [(0, .ref 165), (1, .int (Int32.ofInt (mp : Int))), (2, .int (Int32.ofInt (q : Int))), (3, .int (Int32.ofInt (pe : Int))), (4, .int (Int32.ofInt (pa : Int)))]) (st' := [.int (Int32.ofInt 0)]) 1 rfl ?_
        exact xr_retZ rfl rfl (by omega) ⟨_, rfl, 0, T1, ⟨rfl, rfl, hhm⟩, Or.inr ⟨rfl, fun h => yb (hC.1 h).2⟩⟩
      · exfalso; omega
theorem mo_248 (hA : 194 ≤ A.1) (hE : ∀ j : Nat, 0 ≤ t 166 j ∧ t 166 j ≤ 127) (hm : m ≤ 5) (hmt : xMT (t 166) mp q mm) (he : xV (t 166) (m + 1) pe e ze) (hu : xV (t 166) (m + 1) pa u za) (hze : ze ≤ pe + 100 ∧ ze < 3711) (hza : za ≤ pa + 100 ∧ za < 3711) : xr_ok (xt_G w) (d + 1 + 1 + 1 + 1 + 1 + 1) 248 0 [(0, .ref 165), (1, .int (Int32.ofInt (mp : Int))), (2, .int (Int32.ofInt (q : Int))), (3, .int (Int32.ofInt (pe : Int))), (4, .int (Int32.ofInt (pa : Int)))] [] (ym A s t) (fun o A' => ∃ v0, o = .inl v0 ∧ ∃ (b : Int) (t' : Nat → Nat → Int), (v0 = some (.int (Int32.ofInt b)) ∧ A' = ym A s t' ∧ xhm t t') ∧ ((b = 1 ∧ xMH m mm e u) ∨ (b = 0 ∧ ¬ xMH m mm e u))) := by
  have hmq := hmt.2.1
  have hE1 := hE mp
  have hEm := hmt.1
  refine xr_steps (pc' := 1) (L' := [(0, .ref 165), (1, .int (Int32.ofInt (mp : Int))), (2, .int (Int32.ofInt (q : Int))), (3, .int (Int32.ofInt (pe : Int))), (4, .int (Int32.ofInt (pa : Int)))]) (st' := [.ref 165]) 1 rfl ?_
  refine xr_getf (v := .ref 166) rfl (ym_165 hA) rfl ?_
  refine xr_steps (pc' := 5) (L' := [(0, .ref 165), (1, .int (Int32.ofInt (mp : Int))), (2, .int (Int32.ofInt (q : Int))), (3, .int (Int32.ofInt (pe : Int))), (4, .int (Int32.ofInt (pa : Int)))]) (st' := [.int (Int32.ofInt (mp : Int)), .ref 166]) 1 rfl ?_
  refine ym_caload (e := t 166 (mp : Int).toNat) hA rfl rfl (by decide) (by omega) (by omega) rfl ?_
  rw [Int.toNat_natCast, hEm]
  rw [hEm] at hE1
  by_cases c0 : mm.1 = 116
  · refine xr_lsw (t := 72) rfl (by omega) (by rw [c0]; rfl) ?_
    exact mo_248a hA hE hm hmt he hu hze hza trivial (by unfold xMH; rw [if_pos c0])
  by_cases c1 : mm.1 = 61
  · refine xr_lsw (t := 92) rfl (by omega) (by rw [c1]; rfl) ?_
    exact mo_248b hA hE hm hmt he hu hze hza trivial (by unfold xMH; rw [if_neg (by omega), if_pos c1])
  by_cases c2 : mm.1 = 48
  · refine xr_lsw (t := 100) rfl (by omega) (by rw [c2]; rfl) ?_
    exact mo_248c hA hE hm hmt he hu hze hza trivial (by unfold xMH; rw [if_neg (by omega), if_neg (by omega), if_pos c2])
  by_cases c3 : mm.1 = 105
  · refine xr_lsw (t := 115) rfl (by omega) (by rw [c3]; rfl) ?_
    exact mo_248d hA hE hm hmt he hu hze hza trivial (by unfold xMH; rw [if_neg (by omega), if_neg (by omega), if_neg (by omega), if_pos c3])
  by_cases c4 : mm.1 = 62
  · refine xr_lsw (t := 131) rfl (by omega) (by rw [c4]; rfl) ?_
    exact mo_248e hA hE hm hmt he hu hze hza c4 (by unfold xMH; rw [if_neg (by omega), if_neg (by omega), if_neg (by omega), if_neg (by omega), if_pos c4])
  by_cases c5 : mm.1 = 60
  · refine xr_lsw (t := 167) rfl (by omega) (by rw [c5]; rfl) ?_
    exact mo_248f hA hE hm hmt he hu hze hza c5 (by unfold xMH; rw [if_neg (by omega), if_neg (by omega), if_neg (by omega), if_neg (by omega), if_neg (by omega), if_pos c5])
  by_cases c6 : mm.1 = 126
  · refine xr_lsw (t := 203) rfl (by omega) (by rw [c6]; rfl) ?_
    exact mo_248g hA hE hm hmt he hu hze hza c6 (by unfold xMH; rw [if_neg (by omega), if_neg (by omega), if_neg (by omega), if_neg (by omega), if_neg (by omega), if_neg (by omega), if_pos c6])
  refine xr_lsw (t := 232) rfl (by omega) (by
    rw [xr_off, if_neg (by omega), xr_off, if_neg (by omega), xr_off, if_neg (by omega), xr_off, if_neg (by omega), xr_off, if_neg (by omega), xr_off, if_neg (by omega), xr_off, if_neg (by omega)]
    rfl) ?_
  exact mo_248h hA hE hm hmt he hu hze hza (by have := hmt.2.2.1; omega) (by unfold xMH; rw [if_neg c0, if_neg c1, if_neg c2, if_neg c3, if_neg c4, if_neg c5, if_neg c6])
end HO
/-! The reference: what a rule says -/
/-- a boolean as a number -/
def xbv (v : Int) (P : Prop) : Prop := (v = 1 ∧ P) ∨ (v = 0 ∧ ¬ P)
theorem xb01 {v : Int} {P : Prop} (h : xbv v P) : v = 0 ∨ v = 1 := by
  rcases h with h | h <;> omega
section OU
variable {w : Value} {d : Nat} {A : xb_H} {s : Nat → Int} {t : Nat → Nat → Int} {r m5 m4 m10 pe pa : Nat} {ea so lo an is : Int} {Q : xb_R → xb_H → Prop}
theorem mo_246a (hA : 194 ≤ A.1) (hb : (ea = 0 ∨ ea = 1) ∧ (so = 0 ∨ so = 1) ∧ (lo = 0 ∨ lo = 1) ∧ (an = 0 ∨ an = 1) ∧ (is = 0 ∨ is = 1))  (hK : ∀ v : Int, xbv v (ea = 1 ∧ is = 1) → xr_ok (xt_G w) d 246 84 [(5, .int (Int32.ofInt (m5 : Int))), (6, .int (Int32.ofInt v)), (7, .int (Int32.ofInt so)), (8, .int (Int32.ofInt lo)), (9, .int (Int32.ofInt an)), (4, .int (Int32.ofInt (m4 : Int))), (0, .ref 165), (1, .int (Int32.ofInt (r : Int))), (2, .int (Int32.ofInt (pe : Int))), (3, .int (Int32.ofInt (pa : Int))), (10, .int (Int32.ofInt (m10 : Int))), (11, .int (Int32.ofInt is))] [] (ym A s t) Q) : xr_ok (xt_G w) d 246 67 [(5, .int (Int32.ofInt (m5 : Int))), (6, .int (Int32.ofInt ea)), (7, .int (Int32.ofInt so)), (8, .int (Int32.ofInt lo)), (9, .int (Int32.ofInt an)), (4, .int (Int32.ofInt (m4 : Int))), (0, .ref 165), (1, .int (Int32.ofInt (r : Int))), (2, .int (Int32.ofInt (pe : Int))), (3, .int (Int32.ofInt (pa : Int))), (10, .int (Int32.ofInt (m10 : Int))), (11, .int (Int32.ofInt is))] [] (ym A s t) Q := by
  refine xr_steps (pc' := 69) (L' := [(5, .int (Int32.ofInt (m5 : Int))), (6, .int (Int32.ofInt ea)), (7, .int (Int32.ofInt so)), (8, .int (Int32.ofInt lo)), (9, .int (Int32.ofInt an)), (4, .int (Int32.ofInt (m4 : Int))), (0, .ref 165), (1, .int (Int32.ofInt (r : Int))), (2, .int (Int32.ofInt (pe : Int))), (3, .int (Int32.ofInt (pa : Int))), (10, .int (Int32.ofInt (m10 : Int))), (11, .int (Int32.ofInt is))]) (st' := [.int (Int32.ofInt ea)]) 1 rfl ?_
  refine xr_if_eq rfl (by omega) (fun z31 => ?_) (fun z31 => ?_)
  · refine xr_steps (pc' := 84) (L' := [(6, .int (Int32.ofInt 0)), (5, .int (Int32.ofInt (m5 : Int))), (7, .int (Int32.ofInt so)), (8, .int (Int32.ofInt lo)), (9, .int (Int32.ofInt an)), (4, .int (Int32.ofInt (m4 : Int))), (0, .ref 165), (1, .int (Int32.ofInt (r : Int))), (2, .int (Int32.ofInt (pe : Int))), (3, .int (Int32.ofInt (pa : Int))), (10, .int (Int32.ofInt (m10 : Int))), (11, .int (Int32.ofInt is))]) (st' := []) 2 rfl ?_
    refine xr_loc (L := [(5, .int (Int32.ofInt (m5 : Int))), (6, .int (Int32.ofInt 0)), (7, .int (Int32.ofInt so)), (8, .int (Int32.ofInt lo)), (9, .int (Int32.ofInt an)), (4, .int (Int32.ofInt (m4 : Int))), (0, .ref 165), (1, .int (Int32.ofInt (r : Int))), (2, .int (Int32.ofInt (pe : Int))), (3, .int (Int32.ofInt (pa : Int))), (10, .int (Int32.ofInt (m10 : Int))), (11, .int (Int32.ofInt is))]) (show [5, 6, 7, 8, 9, 4, 0, 1, 2, 3, 10, 11].Nodup by decide) ⟨rfl, rfl, rfl, rfl, rfl, rfl, rfl, rfl, rfl, rfl, rfl, rfl, trivial⟩ ?_
    exact hK 0 (by unfold xbv; omega)
  · refine xr_steps (pc' := 74) (L' := [(5, .int (Int32.ofInt (m5 : Int))), (6, .int (Int32.ofInt ea)), (7, .int (Int32.ofInt so)), (8, .int (Int32.ofInt lo)), (9, .int (Int32.ofInt an)), (4, .int (Int32.ofInt (m4 : Int))), (0, .ref 165), (1, .int (Int32.ofInt (r : Int))), (2, .int (Int32.ofInt (pe : Int))), (3, .int (Int32.ofInt (pa : Int))), (10, .int (Int32.ofInt (m10 : Int))), (11, .int (Int32.ofInt is))]) (st' := [.int (Int32.ofInt is)]) 1 rfl ?_
    refine xr_if_eq rfl (by omega) (fun z32 => ?_) (fun z32 => ?_)
    · refine xr_steps (pc' := 84) (L' := [(6, .int (Int32.ofInt 0)), (5, .int (Int32.ofInt (m5 : Int))), (7, .int (Int32.ofInt so)), (8, .int (Int32.ofInt lo)), (9, .int (Int32.ofInt an)), (4, .int (Int32.ofInt (m4 : Int))), (0, .ref 165), (1, .int (Int32.ofInt (r : Int))), (2, .int (Int32.ofInt (pe : Int))), (3, .int (Int32.ofInt (pa : Int))), (10, .int (Int32.ofInt (m10 : Int))), (11, .int (Int32.ofInt is))]) (st' := []) 2 rfl ?_
      refine xr_loc (L := [(5, .int (Int32.ofInt (m5 : Int))), (6, .int (Int32.ofInt 0)), (7, .int (Int32.ofInt so)), (8, .int (Int32.ofInt lo)), (9, .int (Int32.ofInt an)), (4, .int (Int32.ofInt (m4 : Int))), (0, .ref 165), (1, .int (Int32.ofInt (r : Int))), (2, .int (Int32.ofInt (pe : Int))), (3, .int (Int32.ofInt (pa : Int))), (10, .int (Int32.ofInt (m10 : Int))), (11, .int (Int32.ofInt is))]) (show [5, 6, 7, 8, 9, 4, 0, 1, 2, 3, 10, 11].Nodup by decide) ⟨rfl, rfl, rfl, rfl, rfl, rfl, rfl, rfl, rfl, rfl, rfl, rfl, trivial⟩ ?_
      exact hK 0 (by unfold xbv; omega)
    · refine xr_steps (pc' := 84) (L' := [(6, .int (Int32.ofInt 1)), (5, .int (Int32.ofInt (m5 : Int))), (7, .int (Int32.ofInt so)), (8, .int (Int32.ofInt lo)), (9, .int (Int32.ofInt an)), (4, .int (Int32.ofInt (m4 : Int))), (0, .ref 165), (1, .int (Int32.ofInt (r : Int))), (2, .int (Int32.ofInt (pe : Int))), (3, .int (Int32.ofInt (pa : Int))), (10, .int (Int32.ofInt (m10 : Int))), (11, .int (Int32.ofInt is))]) (st' := []) 3 rfl ?_
      refine xr_loc (L := [(5, .int (Int32.ofInt (m5 : Int))), (6, .int (Int32.ofInt 1)), (7, .int (Int32.ofInt so)), (8, .int (Int32.ofInt lo)), (9, .int (Int32.ofInt an)), (4, .int (Int32.ofInt (m4 : Int))), (0, .ref 165), (1, .int (Int32.ofInt (r : Int))), (2, .int (Int32.ofInt (pe : Int))), (3, .int (Int32.ofInt (pa : Int))), (10, .int (Int32.ofInt (m10 : Int))), (11, .int (Int32.ofInt is))]) (show [5, 6, 7, 8, 9, 4, 0, 1, 2, 3, 10, 11].Nodup by decide) ⟨rfl, rfl, rfl, rfl, rfl, rfl, rfl, rfl, rfl, rfl, rfl, rfl, trivial⟩ ?_
      exact hK 1 (by unfold xbv; omega)
theorem mo_246b (hA : 194 ≤ A.1) (hb : (ea = 0 ∨ ea = 1) ∧ (so = 0 ∨ so = 1) ∧ (lo = 0 ∨ lo = 1) ∧ (an = 0 ∨ an = 1) ∧ (is = 0 ∨ is = 1))  (hK : ∀ v : Int, xbv v (so = 1 ∨ is = 1) → xr_ok (xt_G w) d 246 101 [(5, .int (Int32.ofInt (m5 : Int))), (6, .int (Int32.ofInt ea)), (7, .int (Int32.ofInt v)), (8, .int (Int32.ofInt lo)), (9, .int (Int32.ofInt an)), (4, .int (Int32.ofInt (m4 : Int))), (0, .ref 165), (1, .int (Int32.ofInt (r : Int))), (2, .int (Int32.ofInt (pe : Int))), (3, .int (Int32.ofInt (pa : Int))), (10, .int (Int32.ofInt (m10 : Int))), (11, .int (Int32.ofInt is))] [] (ym A s t) Q) : xr_ok (xt_G w) d 246 84 [(5, .int (Int32.ofInt (m5 : Int))), (6, .int (Int32.ofInt ea)), (7, .int (Int32.ofInt so)), (8, .int (Int32.ofInt lo)), (9, .int (Int32.ofInt an)), (4, .int (Int32.ofInt (m4 : Int))), (0, .ref 165), (1, .int (Int32.ofInt (r : Int))), (2, .int (Int32.ofInt (pe : Int))), (3, .int (Int32.ofInt (pa : Int))), (10, .int (Int32.ofInt (m10 : Int))), (11, .int (Int32.ofInt is))] [] (ym A s t) Q := by
  refine xr_steps (pc' := 86) (L' := [(5, .int (Int32.ofInt (m5 : Int))), (6, .int (Int32.ofInt ea)), (7, .int (Int32.ofInt so)), (8, .int (Int32.ofInt lo)), (9, .int (Int32.ofInt an)), (4, .int (Int32.ofInt (m4 : Int))), (0, .ref 165), (1, .int (Int32.ofInt (r : Int))), (2, .int (Int32.ofInt (pe : Int))), (3, .int (Int32.ofInt (pa : Int))), (10, .int (Int32.ofInt (m10 : Int))), (11, .int (Int32.ofInt is))]) (st' := [.int (Int32.ofInt so)]) 1 rfl ?_
  refine xr_if_ne rfl (by omega) (fun z31 => ?_) (fun z31 => ?_)
  · refine xr_steps (pc' := 101) (L' := [(7, .int (Int32.ofInt 1)), (5, .int (Int32.ofInt (m5 : Int))), (6, .int (Int32.ofInt ea)), (8, .int (Int32.ofInt lo)), (9, .int (Int32.ofInt an)), (4, .int (Int32.ofInt (m4 : Int))), (0, .ref 165), (1, .int (Int32.ofInt (r : Int))), (2, .int (Int32.ofInt (pe : Int))), (3, .int (Int32.ofInt (pa : Int))), (10, .int (Int32.ofInt (m10 : Int))), (11, .int (Int32.ofInt is))]) (st' := []) 3 rfl ?_
    refine xr_loc (L := [(5, .int (Int32.ofInt (m5 : Int))), (6, .int (Int32.ofInt ea)), (7, .int (Int32.ofInt 1)), (8, .int (Int32.ofInt lo)), (9, .int (Int32.ofInt an)), (4, .int (Int32.ofInt (m4 : Int))), (0, .ref 165), (1, .int (Int32.ofInt (r : Int))), (2, .int (Int32.ofInt (pe : Int))), (3, .int (Int32.ofInt (pa : Int))), (10, .int (Int32.ofInt (m10 : Int))), (11, .int (Int32.ofInt is))]) (show [5, 6, 7, 8, 9, 4, 0, 1, 2, 3, 10, 11].Nodup by decide) ⟨rfl, rfl, rfl, rfl, rfl, rfl, rfl, rfl, rfl, rfl, rfl, rfl, trivial⟩ ?_
    exact hK 1 (by unfold xbv; omega)
  · refine xr_steps (pc' := 91) (L' := [(5, .int (Int32.ofInt (m5 : Int))), (6, .int (Int32.ofInt ea)), (7, .int (Int32.ofInt so)), (8, .int (Int32.ofInt lo)), (9, .int (Int32.ofInt an)), (4, .int (Int32.ofInt (m4 : Int))), (0, .ref 165), (1, .int (Int32.ofInt (r : Int))), (2, .int (Int32.ofInt (pe : Int))), (3, .int (Int32.ofInt (pa : Int))), (10, .int (Int32.ofInt (m10 : Int))), (11, .int (Int32.ofInt is))]) (st' := [.int (Int32.ofInt is)]) 1 rfl ?_
    refine xr_if_eq rfl (by omega) (fun z32 => ?_) (fun z32 => ?_)
    · refine xr_steps (pc' := 101) (L' := [(7, .int (Int32.ofInt 0)), (5, .int (Int32.ofInt (m5 : Int))), (6, .int (Int32.ofInt ea)), (8, .int (Int32.ofInt lo)), (9, .int (Int32.ofInt an)), (4, .int (Int32.ofInt (m4 : Int))), (0, .ref 165), (1, .int (Int32.ofInt (r : Int))), (2, .int (Int32.ofInt (pe : Int))), (3, .int (Int32.ofInt (pa : Int))), (10, .int (Int32.ofInt (m10 : Int))), (11, .int (Int32.ofInt is))]) (st' := []) 2 rfl ?_
      refine xr_loc (L := [(5, .int (Int32.ofInt (m5 : Int))), (6, .int (Int32.ofInt ea)), (7, .int (Int32.ofInt 0)), (8, .int (Int32.ofInt lo)), (9, .int (Int32.ofInt an)), (4, .int (Int32.ofInt (m4 : Int))), (0, .ref 165), (1, .int (Int32.ofInt (r : Int))), (2, .int (Int32.ofInt (pe : Int))), (3, .int (Int32.ofInt (pa : Int))), (10, .int (Int32.ofInt (m10 : Int))), (11, .int (Int32.ofInt is))]) (show [5, 6, 7, 8, 9, 4, 0, 1, 2, 3, 10, 11].Nodup by decide) ⟨rfl, rfl, rfl, rfl, rfl, rfl, rfl, rfl, rfl, rfl, rfl, rfl, trivial⟩ ?_
      exact hK 0 (by unfold xbv; omega)
    · refine xr_steps (pc' := 101) (L' := [(7, .int (Int32.ofInt 1)), (5, .int (Int32.ofInt (m5 : Int))), (6, .int (Int32.ofInt ea)), (8, .int (Int32.ofInt lo)), (9, .int (Int32.ofInt an)), (4, .int (Int32.ofInt (m4 : Int))), (0, .ref 165), (1, .int (Int32.ofInt (r : Int))), (2, .int (Int32.ofInt (pe : Int))), (3, .int (Int32.ofInt (pa : Int))), (10, .int (Int32.ofInt (m10 : Int))), (11, .int (Int32.ofInt is))]) (st' := []) 3 rfl ?_
      refine xr_loc (L := [(5, .int (Int32.ofInt (m5 : Int))), (6, .int (Int32.ofInt ea)), (7, .int (Int32.ofInt 1)), (8, .int (Int32.ofInt lo)), (9, .int (Int32.ofInt an)), (4, .int (Int32.ofInt (m4 : Int))), (0, .ref 165), (1, .int (Int32.ofInt (r : Int))), (2, .int (Int32.ofInt (pe : Int))), (3, .int (Int32.ofInt (pa : Int))), (10, .int (Int32.ofInt (m10 : Int))), (11, .int (Int32.ofInt is))]) (show [5, 6, 7, 8, 9, 4, 0, 1, 2, 3, 10, 11].Nodup by decide) ⟨rfl, rfl, rfl, rfl, rfl, rfl, rfl, rfl, rfl, rfl, rfl, rfl, trivial⟩ ?_
      exact hK 1 (by unfold xbv; omega)
theorem mo_246c (hA : 194 ≤ A.1) (hb : (ea = 0 ∨ ea = 1) ∧ (so = 0 ∨ so = 1) ∧ (lo = 0 ∨ lo = 1) ∧ (an = 0 ∨ an = 1) ∧ (is = 0 ∨ is = 1)) (hE : ∀ j : Nat, 0 ≤ t 166 j ∧ t 166 j ≤ 127) (h5 : m5 < 3712 ∧ m10 < 3712 ∧ m4 < 3712) (hK : ∀ v : Int, xbv v (lo = 1 ∨ t 166 m5 = 116 ∨ t 166 m5 = 62 ∨ t 166 m5 = 60) → xr_ok (xt_G w) d 246 149 [(5, .int (Int32.ofInt (m5 : Int))), (6, .int (Int32.ofInt ea)), (7, .int (Int32.ofInt so)), (8, .int (Int32.ofInt v)), (9, .int (Int32.ofInt an)), (4, .int (Int32.ofInt (m4 : Int))), (0, .ref 165), (1, .int (Int32.ofInt (r : Int))), (2, .int (Int32.ofInt (pe : Int))), (3, .int (Int32.ofInt (pa : Int))), (10, .int (Int32.ofInt (m10 : Int))), (11, .int (Int32.ofInt is))] [] (ym A s t) Q) : xr_ok (xt_G w) d 246 101 [(5, .int (Int32.ofInt (m5 : Int))), (6, .int (Int32.ofInt ea)), (7, .int (Int32.ofInt so)), (8, .int (Int32.ofInt lo)), (9, .int (Int32.ofInt an)), (4, .int (Int32.ofInt (m4 : Int))), (0, .ref 165), (1, .int (Int32.ofInt (r : Int))), (2, .int (Int32.ofInt (pe : Int))), (3, .int (Int32.ofInt (pa : Int))), (10, .int (Int32.ofInt (m10 : Int))), (11, .int (Int32.ofInt is))] [] (ym A s t) Q := by
  have hE5 := hE m5
  refine xr_steps (pc' := 103) (L' := [(5, .int (Int32.ofInt (m5 : Int))), (6, .int (Int32.ofInt ea)), (7, .int (Int32.ofInt so)), (8, .int (Int32.ofInt lo)), (9, .int (Int32.ofInt an)), (4, .int (Int32.ofInt (m4 : Int))), (0, .ref 165), (1, .int (Int32.ofInt (r : Int))), (2, .int (Int32.ofInt (pe : Int))), (3, .int (Int32.ofInt (pa : Int))), (10, .int (Int32.ofInt (m10 : Int))), (11, .int (Int32.ofInt is))]) (st' := [.int (Int32.ofInt lo)]) 1 rfl ?_
  refine xr_if_ne rfl (by omega) (fun z31 => ?_) (fun z31 => ?_)
  · refine xr_steps (pc' := 149) (L' := [(8, .int (Int32.ofInt 1)), (5, .int (Int32.ofInt (m5 : Int))), (6, .int (Int32.ofInt ea)), (7, .int (Int32.ofInt so)), (9, .int (Int32.ofInt an)), (4, .int (Int32.ofInt (m4 : Int))), (0, .ref 165), (1, .int (Int32.ofInt (r : Int))), (2, .int (Int32.ofInt (pe : Int))), (3, .int (Int32.ofInt (pa : Int))), (10, .int (Int32.ofInt (m10 : Int))), (11, .int (Int32.ofInt is))]) (st' := []) 3 rfl ?_
    refine xr_loc (L := [(5, .int (Int32.ofInt (m5 : Int))), (6, .int (Int32.ofInt ea)), (7, .int (Int32.ofInt so)), (8, .int (Int32.ofInt 1)), (9, .int (Int32.ofInt an)), (4, .int (Int32.ofInt (m4 : Int))), (0, .ref 165), (1, .int (Int32.ofInt (r : Int))), (2, .int (Int32.ofInt (pe : Int))), (3, .int (Int32.ofInt (pa : Int))), (10, .int (Int32.ofInt (m10 : Int))), (11, .int (Int32.ofInt is))]) (show [5, 6, 7, 8, 9, 4, 0, 1, 2, 3, 10, 11].Nodup by decide) ⟨rfl, rfl, rfl, rfl, rfl, rfl, rfl, rfl, rfl, rfl, rfl, rfl, trivial⟩ ?_
    exact hK 1 (by unfold xbv; omega)
  · refine xr_steps (pc' := 107) (L' := [(5, .int (Int32.ofInt (m5 : Int))), (6, .int (Int32.ofInt ea)), (7, .int (Int32.ofInt so)), (8, .int (Int32.ofInt lo)), (9, .int (Int32.ofInt an)), (4, .int (Int32.ofInt (m4 : Int))), (0, .ref 165), (1, .int (Int32.ofInt (r : Int))), (2, .int (Int32.ofInt (pe : Int))), (3, .int (Int32.ofInt (pa : Int))), (10, .int (Int32.ofInt (m10 : Int))), (11, .int (Int32.ofInt is))]) (st' := [.ref 165]) 1 rfl ?_
    refine xr_getf (v := .ref 166) rfl (ym_165 hA) rfl ?_
    refine xr_steps (pc' := 112) (L' := [(5, .int (Int32.ofInt (m5 : Int))), (6, .int (Int32.ofInt ea)), (7, .int (Int32.ofInt so)), (8, .int (Int32.ofInt lo)), (9, .int (Int32.ofInt an)), (4, .int (Int32.ofInt (m4 : Int))), (0, .ref 165), (1, .int (Int32.ofInt (r : Int))), (2, .int (Int32.ofInt (pe : Int))), (3, .int (Int32.ofInt (pa : Int))), (10, .int (Int32.ofInt (m10 : Int))), (11, .int (Int32.ofInt is))]) (st' := [.int (Int32.ofInt (m5 : Int)), .ref 166]) 1 rfl ?_
    refine ym_caload (e := t 166 (m5 : Int).toNat) hA rfl rfl (by decide) (by omega) (by omega) rfl ?_
    rw [show (m5 : Int).toNat = m5 by omega]
    refine xr_steps (pc' := 115) (L' := [(5, .int (Int32.ofInt (m5 : Int))), (6, .int (Int32.ofInt ea)), (7, .int (Int32.ofInt so)), (8, .int (Int32.ofInt lo)), (9, .int (Int32.ofInt an)), (4, .int (Int32.ofInt (m4 : Int))), (0, .ref 165), (1, .int (Int32.ofInt (r : Int))), (2, .int (Int32.ofInt (pe : Int))), (3, .int (Int32.ofInt (pa : Int))), (10, .int (Int32.ofInt (m10 : Int))), (11, .int (Int32.ofInt is))]) (st' := [.int (Int32.ofInt 116), .int (Int32.ofInt (t 166 m5))]) 1 rfl ?_
    refine xr_icmp_eq rfl (by omega) (by omega) (fun z32 => ?_) (fun z32 => ?_)
    · refine xr_steps (pc' := 149) (L' := [(8, .int (Int32.ofInt 1)), (5, .int (Int32.ofInt (m5 : Int))), (6, .int (Int32.ofInt ea)), (7, .int (Int32.ofInt so)), (9, .int (Int32.ofInt an)), (4, .int (Int32.ofInt (m4 : Int))), (0, .ref 165), (1, .int (Int32.ofInt (r : Int))), (2, .int (Int32.ofInt (pe : Int))), (3, .int (Int32.ofInt (pa : Int))), (10, .int (Int32.ofInt (m10 : Int))), (11, .int (Int32.ofInt is))]) (st' := []) 3 rfl ?_
      refine xr_loc (L := [(5, .int (Int32.ofInt (m5 : Int))), (6, .int (Int32.ofInt ea)), (7, .int (Int32.ofInt so)), (8, .int (Int32.ofInt 1)), (9, .int (Int32.ofInt an)), (4, .int (Int32.ofInt (m4 : Int))), (0, .ref 165), (1, .int (Int32.ofInt (r : Int))), (2, .int (Int32.ofInt (pe : Int))), (3, .int (Int32.ofInt (pa : Int))), (10, .int (Int32.ofInt (m10 : Int))), (11, .int (Int32.ofInt is))]) (show [5, 6, 7, 8, 9, 4, 0, 1, 2, 3, 10, 11].Nodup by decide) ⟨rfl, rfl, rfl, rfl, rfl, rfl, rfl, rfl, rfl, rfl, rfl, rfl, trivial⟩ ?_
      exact hK 1 (by unfold xbv; omega)
    · refine xr_steps (pc' := 119) (L' := [(5, .int (Int32.ofInt (m5 : Int))), (6, .int (Int32.ofInt ea)), (7, .int (Int32.ofInt so)), (8, .int (Int32.ofInt lo)), (9, .int (Int32.ofInt an)), (4, .int (Int32.ofInt (m4 : Int))), (0, .ref 165), (1, .int (Int32.ofInt (r : Int))), (2, .int (Int32.ofInt (pe : Int))), (3, .int (Int32.ofInt (pa : Int))), (10, .int (Int32.ofInt (m10 : Int))), (11, .int (Int32.ofInt is))]) (st' := [.ref 165]) 1 rfl ?_
      refine xr_getf (v := .ref 166) rfl (ym_165 hA) rfl ?_
      refine xr_steps (pc' := 124) (L' := [(5, .int (Int32.ofInt (m5 : Int))), (6, .int (Int32.ofInt ea)), (7, .int (Int32.ofInt so)), (8, .int (Int32.ofInt lo)), (9, .int (Int32.ofInt an)), (4, .int (Int32.ofInt (m4 : Int))), (0, .ref 165), (1, .int (Int32.ofInt (r : Int))), (2, .int (Int32.ofInt (pe : Int))), (3, .int (Int32.ofInt (pa : Int))), (10, .int (Int32.ofInt (m10 : Int))), (11, .int (Int32.ofInt is))]) (st' := [.int (Int32.ofInt (m5 : Int)), .ref 166]) 1 rfl ?_
      refine ym_caload (e := t 166 (m5 : Int).toNat) hA rfl rfl (by decide) (by omega) (by omega) rfl ?_
      rw [show (m5 : Int).toNat = m5 by omega]
      refine xr_steps (pc' := 127) (L' := [(5, .int (Int32.ofInt (m5 : Int))), (6, .int (Int32.ofInt ea)), (7, .int (Int32.ofInt so)), (8, .int (Int32.ofInt lo)), (9, .int (Int32.ofInt an)), (4, .int (Int32.ofInt (m4 : Int))), (0, .ref 165), (1, .int (Int32.ofInt (r : Int))), (2, .int (Int32.ofInt (pe : Int))), (3, .int (Int32.ofInt (pa : Int))), (10, .int (Int32.ofInt (m10 : Int))), (11, .int (Int32.ofInt is))]) (st' := [.int (Int32.ofInt 62), .int (Int32.ofInt (t 166 m5))]) 1 rfl ?_
      refine xr_icmp_eq rfl (by omega) (by omega) (fun z33 => ?_) (fun z33 => ?_)
      · refine xr_steps (pc' := 149) (L' := [(8, .int (Int32.ofInt 1)), (5, .int (Int32.ofInt (m5 : Int))), (6, .int (Int32.ofInt ea)), (7, .int (Int32.ofInt so)), (9, .int (Int32.ofInt an)), (4, .int (Int32.ofInt (m4 : Int))), (0, .ref 165), (1, .int (Int32.ofInt (r : Int))), (2, .int (Int32.ofInt (pe : Int))), (3, .int (Int32.ofInt (pa : Int))), (10, .int (Int32.ofInt (m10 : Int))), (11, .int (Int32.ofInt is))]) (st' := []) 3 rfl ?_
        refine xr_loc (L := [(5, .int (Int32.ofInt (m5 : Int))), (6, .int (Int32.ofInt ea)), (7, .int (Int32.ofInt so)), (8, .int (Int32.ofInt 1)), (9, .int (Int32.ofInt an)), (4, .int (Int32.ofInt (m4 : Int))), (0, .ref 165), (1, .int (Int32.ofInt (r : Int))), (2, .int (Int32.ofInt (pe : Int))), (3, .int (Int32.ofInt (pa : Int))), (10, .int (Int32.ofInt (m10 : Int))), (11, .int (Int32.ofInt is))]) (show [5, 6, 7, 8, 9, 4, 0, 1, 2, 3, 10, 11].Nodup by decide) ⟨rfl, rfl, rfl, rfl, rfl, rfl, rfl, rfl, rfl, rfl, rfl, rfl, trivial⟩ ?_
        exact hK 1 (by unfold xbv; omega)
      · refine xr_steps (pc' := 131) (L' := [(5, .int (Int32.ofInt (m5 : Int))), (6, .int (Int32.ofInt ea)), (7, .int (Int32.ofInt so)), (8, .int (Int32.ofInt lo)), (9, .int (Int32.ofInt an)), (4, .int (Int32.ofInt (m4 : Int))), (0, .ref 165), (1, .int (Int32.ofInt (r : Int))), (2, .int (Int32.ofInt (pe : Int))), (3, .int (Int32.ofInt (pa : Int))), (10, .int (Int32.ofInt (m10 : Int))), (11, .int (Int32.ofInt is))]) (st' := [.ref 165]) 1 rfl ?_
        refine xr_getf (v := .ref 166) rfl (ym_165 hA) rfl ?_
        refine xr_steps (pc' := 136) (L' := [(5, .int (Int32.ofInt (m5 : Int))), (6, .int (Int32.ofInt ea)), (7, .int (Int32.ofInt so)), (8, .int (Int32.ofInt lo)), (9, .int (Int32.ofInt an)), (4, .int (Int32.ofInt (m4 : Int))), (0, .ref 165), (1, .int (Int32.ofInt (r : Int))), (2, .int (Int32.ofInt (pe : Int))), (3, .int (Int32.ofInt (pa : Int))), (10, .int (Int32.ofInt (m10 : Int))), (11, .int (Int32.ofInt is))]) (st' := [.int (Int32.ofInt (m5 : Int)), .ref 166]) 1 rfl ?_
        refine ym_caload (e := t 166 (m5 : Int).toNat) hA rfl rfl (by decide) (by omega) (by omega) rfl ?_
        rw [show (m5 : Int).toNat = m5 by omega]
        refine xr_steps (pc' := 139) (L' := [(5, .int (Int32.ofInt (m5 : Int))), (6, .int (Int32.ofInt ea)), (7, .int (Int32.ofInt so)), (8, .int (Int32.ofInt lo)), (9, .int (Int32.ofInt an)), (4, .int (Int32.ofInt (m4 : Int))), (0, .ref 165), (1, .int (Int32.ofInt (r : Int))), (2, .int (Int32.ofInt (pe : Int))), (3, .int (Int32.ofInt (pa : Int))), (10, .int (Int32.ofInt (m10 : Int))), (11, .int (Int32.ofInt is))]) (st' := [.int (Int32.ofInt 60), .int (Int32.ofInt (t 166 m5))]) 1 rfl ?_
        refine xr_icmp_ne rfl (by omega) (by omega) (fun z34 => ?_) (fun z34 => ?_)
        · refine xr_steps (pc' := 149) (L' := [(8, .int (Int32.ofInt 0)), (5, .int (Int32.ofInt (m5 : Int))), (6, .int (Int32.ofInt ea)), (7, .int (Int32.ofInt so)), (9, .int (Int32.ofInt an)), (4, .int (Int32.ofInt (m4 : Int))), (0, .ref 165), (1, .int (Int32.ofInt (r : Int))), (2, .int (Int32.ofInt (pe : Int))), (3, .int (Int32.ofInt (pa : Int))), (10, .int (Int32.ofInt (m10 : Int))), (11, .int (Int32.ofInt is))]) (st' := []) 2 rfl ?_
          refine xr_loc (L := [(5, .int (Int32.ofInt (m5 : Int))), (6, .int (Int32.ofInt ea)), (7, .int (Int32.ofInt so)), (8, .int (Int32.ofInt 0)), (9, .int (Int32.ofInt an)), (4, .int (Int32.ofInt (m4 : Int))), (0, .ref 165), (1, .int (Int32.ofInt (r : Int))), (2, .int (Int32.ofInt (pe : Int))), (3, .int (Int32.ofInt (pa : Int))), (10, .int (Int32.ofInt (m10 : Int))), (11, .int (Int32.ofInt is))]) (show [5, 6, 7, 8, 9, 4, 0, 1, 2, 3, 10, 11].Nodup by decide) ⟨rfl, rfl, rfl, rfl, rfl, rfl, rfl, rfl, rfl, rfl, rfl, rfl, trivial⟩ ?_
          exact hK 0 (by unfold xbv; omega)
        · refine xr_steps (pc' := 149) (L' := [(8, .int (Int32.ofInt 1)), (5, .int (Int32.ofInt (m5 : Int))), (6, .int (Int32.ofInt ea)), (7, .int (Int32.ofInt so)), (9, .int (Int32.ofInt an)), (4, .int (Int32.ofInt (m4 : Int))), (0, .ref 165), (1, .int (Int32.ofInt (r : Int))), (2, .int (Int32.ofInt (pe : Int))), (3, .int (Int32.ofInt (pa : Int))), (10, .int (Int32.ofInt (m10 : Int))), (11, .int (Int32.ofInt is))]) (st' := []) 3 rfl ?_
          refine xr_loc (L := [(5, .int (Int32.ofInt (m5 : Int))), (6, .int (Int32.ofInt ea)), (7, .int (Int32.ofInt so)), (8, .int (Int32.ofInt 1)), (9, .int (Int32.ofInt an)), (4, .int (Int32.ofInt (m4 : Int))), (0, .ref 165), (1, .int (Int32.ofInt (r : Int))), (2, .int (Int32.ofInt (pe : Int))), (3, .int (Int32.ofInt (pa : Int))), (10, .int (Int32.ofInt (m10 : Int))), (11, .int (Int32.ofInt is))]) (show [5, 6, 7, 8, 9, 4, 0, 1, 2, 3, 10, 11].Nodup by decide) ⟨rfl, rfl, rfl, rfl, rfl, rfl, rfl, rfl, rfl, rfl, rfl, rfl, trivial⟩ ?_
          exact hK 1 (by unfold xbv; omega)
theorem mo_246d (hA : 194 ≤ A.1) (hb : (ea = 0 ∨ ea = 1) ∧ (so = 0 ∨ so = 1) ∧ (lo = 0 ∨ lo = 1) ∧ (an = 0 ∨ an = 1) ∧ (is = 0 ∨ is = 1)) (hE : ∀ j : Nat, 0 ≤ t 166 j ∧ t 166 j ≤ 127) (h5 : m5 < 3712 ∧ m10 < 3712 ∧ m4 < 3712) (hK : ∀ v : Int, xbv v (an = 1 ∨ (m10 < m4 ∧ t 166 m10 = 124)) → xr_ok (xt_G w) d 246 180 [(5, .int (Int32.ofInt (m5 : Int))), (6, .int (Int32.ofInt ea)), (7, .int (Int32.ofInt so)), (8, .int (Int32.ofInt lo)), (9, .int (Int32.ofInt v)), (4, .int (Int32.ofInt (m4 : Int))), (0, .ref 165), (1, .int (Int32.ofInt (r : Int))), (2, .int (Int32.ofInt (pe : Int))), (3, .int (Int32.ofInt (pa : Int))), (10, .int (Int32.ofInt (m10 : Int))), (11, .int (Int32.ofInt is))] [] (ym A s t) Q) : xr_ok (xt_G w) d 246 149 [(5, .int (Int32.ofInt (m5 : Int))), (6, .int (Int32.ofInt ea)), (7, .int (Int32.ofInt so)), (8, .int (Int32.ofInt lo)), (9, .int (Int32.ofInt an)), (4, .int (Int32.ofInt (m4 : Int))), (0, .ref 165), (1, .int (Int32.ofInt (r : Int))), (2, .int (Int32.ofInt (pe : Int))), (3, .int (Int32.ofInt (pa : Int))), (10, .int (Int32.ofInt (m10 : Int))), (11, .int (Int32.ofInt is))] [] (ym A s t) Q := by
  have hE10 := hE m10
  refine xr_steps (pc' := 151) (L' := [(5, .int (Int32.ofInt (m5 : Int))), (6, .int (Int32.ofInt ea)), (7, .int (Int32.ofInt so)), (8, .int (Int32.ofInt lo)), (9, .int (Int32.ofInt an)), (4, .int (Int32.ofInt (m4 : Int))), (0, .ref 165), (1, .int (Int32.ofInt (r : Int))), (2, .int (Int32.ofInt (pe : Int))), (3, .int (Int32.ofInt (pa : Int))), (10, .int (Int32.ofInt (m10 : Int))), (11, .int (Int32.ofInt is))]) (st' := [.int (Int32.ofInt an)]) 1 rfl ?_
  refine xr_if_ne rfl (by omega) (fun z31 => ?_) (fun z31 => ?_)
  · refine xr_steps (pc' := 180) (L' := [(9, .int (Int32.ofInt 1)), (5, .int (Int32.ofInt (m5 : Int))), (6, .int (Int32.ofInt ea)), (7, .int (Int32.ofInt so)), (8, .int (Int32.ofInt lo)), (4, .int (Int32.ofInt (m4 : Int))), (0, .ref 165), (1, .int (Int32.ofInt (r : Int))), (2, .int (Int32.ofInt (pe : Int))), (3, .int (Int32.ofInt (pa : Int))), (10, .int (Int32.ofInt (m10 : Int))), (11, .int (Int32.ofInt is))]) (st' := []) 3 rfl ?_
    refine xr_loc (L := [(5, .int (Int32.ofInt (m5 : Int))), (6, .int (Int32.ofInt ea)), (7, .int (Int32.ofInt so)), (8, .int (Int32.ofInt lo)), (9, .int (Int32.ofInt 1)), (4, .int (Int32.ofInt (m4 : Int))), (0, .ref 165), (1, .int (Int32.ofInt (r : Int))), (2, .int (Int32.ofInt (pe : Int))), (3, .int (Int32.ofInt (pa : Int))), (10, .int (Int32.ofInt (m10 : Int))), (11, .int (Int32.ofInt is))]) (show [5, 6, 7, 8, 9, 4, 0, 1, 2, 3, 10, 11].Nodup by decide) ⟨rfl, rfl, rfl, rfl, rfl, rfl, rfl, rfl, rfl, rfl, rfl, rfl, trivial⟩ ?_
    exact hK 1 (by unfold xbv; omega)
  · refine xr_steps (pc' := 158) (L' := [(5, .int (Int32.ofInt (m5 : Int))), (6, .int (Int32.ofInt ea)), (7, .int (Int32.ofInt so)), (8, .int (Int32.ofInt lo)), (9, .int (Int32.ofInt an)), (4, .int (Int32.ofInt (m4 : Int))), (0, .ref 165), (1, .int (Int32.ofInt (r : Int))), (2, .int (Int32.ofInt (pe : Int))), (3, .int (Int32.ofInt (pa : Int))), (10, .int (Int32.ofInt (m10 : Int))), (11, .int (Int32.ofInt is))]) (st' := [.int (Int32.ofInt (m4 : Int)), .int (Int32.ofInt (m10 : Int))]) 2 rfl ?_
    refine xr_icmp_ge rfl (by omega) (by omega) (fun z32 => ?_) (fun z32 => ?_)
    · refine xr_steps (pc' := 180) (L' := [(9, .int (Int32.ofInt 0)), (5, .int (Int32.ofInt (m5 : Int))), (6, .int (Int32.ofInt ea)), (7, .int (Int32.ofInt so)), (8, .int (Int32.ofInt lo)), (4, .int (Int32.ofInt (m4 : Int))), (0, .ref 165), (1, .int (Int32.ofInt (r : Int))), (2, .int (Int32.ofInt (pe : Int))), (3, .int (Int32.ofInt (pa : Int))), (10, .int (Int32.ofInt (m10 : Int))), (11, .int (Int32.ofInt is))]) (st' := []) 2 rfl ?_
      refine xr_loc (L := [(5, .int (Int32.ofInt (m5 : Int))), (6, .int (Int32.ofInt ea)), (7, .int (Int32.ofInt so)), (8, .int (Int32.ofInt lo)), (9, .int (Int32.ofInt 0)), (4, .int (Int32.ofInt (m4 : Int))), (0, .ref 165), (1, .int (Int32.ofInt (r : Int))), (2, .int (Int32.ofInt (pe : Int))), (3, .int (Int32.ofInt (pa : Int))), (10, .int (Int32.ofInt (m10 : Int))), (11, .int (Int32.ofInt is))]) (show [5, 6, 7, 8, 9, 4, 0, 1, 2, 3, 10, 11].Nodup by decide) ⟨rfl, rfl, rfl, rfl, rfl, rfl, rfl, rfl, rfl, rfl, rfl, rfl, trivial⟩ ?_
      exact hK 0 (by unfold xbv; omega)
    · refine xr_steps (pc' := 162) (L' := [(5, .int (Int32.ofInt (m5 : Int))), (6, .int (Int32.ofInt ea)), (7, .int (Int32.ofInt so)), (8, .int (Int32.ofInt lo)), (9, .int (Int32.ofInt an)), (4, .int (Int32.ofInt (m4 : Int))), (0, .ref 165), (1, .int (Int32.ofInt (r : Int))), (2, .int (Int32.ofInt (pe : Int))), (3, .int (Int32.ofInt (pa : Int))), (10, .int (Int32.ofInt (m10 : Int))), (11, .int (Int32.ofInt is))]) (st' := [.ref 165]) 1 rfl ?_
      refine xr_getf (v := .ref 166) rfl (ym_165 hA) rfl ?_
      refine xr_steps (pc' := 167) (L' := [(5, .int (Int32.ofInt (m5 : Int))), (6, .int (Int32.ofInt ea)), (7, .int (Int32.ofInt so)), (8, .int (Int32.ofInt lo)), (9, .int (Int32.ofInt an)), (4, .int (Int32.ofInt (m4 : Int))), (0, .ref 165), (1, .int (Int32.ofInt (r : Int))), (2, .int (Int32.ofInt (pe : Int))), (3, .int (Int32.ofInt (pa : Int))), (10, .int (Int32.ofInt (m10 : Int))), (11, .int (Int32.ofInt is))]) (st' := [.int (Int32.ofInt (m10 : Int)), .ref 166]) 1 rfl ?_
      refine ym_caload (e := t 166 (m10 : Int).toNat) hA rfl rfl (by decide) (by omega) (by omega) rfl ?_
      rw [show (m10 : Int).toNat = m10 by omega]
      refine xr_steps (pc' := 170) (L' := [(5, .int (Int32.ofInt (m5 : Int))), (6, .int (Int32.ofInt ea)), (7, .int (Int32.ofInt so)), (8, .int (Int32.ofInt lo)), (9, .int (Int32.ofInt an)), (4, .int (Int32.ofInt (m4 : Int))), (0, .ref 165), (1, .int (Int32.ofInt (r : Int))), (2, .int (Int32.ofInt (pe : Int))), (3, .int (Int32.ofInt (pa : Int))), (10, .int (Int32.ofInt (m10 : Int))), (11, .int (Int32.ofInt is))]) (st' := [.int (Int32.ofInt 124), .int (Int32.ofInt (t 166 m10))]) 1 rfl ?_
      refine xr_icmp_ne rfl (by omega) (by omega) (fun z33 => ?_) (fun z33 => ?_)
      · refine xr_steps (pc' := 180) (L' := [(9, .int (Int32.ofInt 0)), (5, .int (Int32.ofInt (m5 : Int))), (6, .int (Int32.ofInt ea)), (7, .int (Int32.ofInt so)), (8, .int (Int32.ofInt lo)), (4, .int (Int32.ofInt (m4 : Int))), (0, .ref 165), (1, .int (Int32.ofInt (r : Int))), (2, .int (Int32.ofInt (pe : Int))), (3, .int (Int32.ofInt (pa : Int))), (10, .int (Int32.ofInt (m10 : Int))), (11, .int (Int32.ofInt is))]) (st' := []) 2 rfl ?_
        refine xr_loc (L := [(5, .int (Int32.ofInt (m5 : Int))), (6, .int (Int32.ofInt ea)), (7, .int (Int32.ofInt so)), (8, .int (Int32.ofInt lo)), (9, .int (Int32.ofInt 0)), (4, .int (Int32.ofInt (m4 : Int))), (0, .ref 165), (1, .int (Int32.ofInt (r : Int))), (2, .int (Int32.ofInt (pe : Int))), (3, .int (Int32.ofInt (pa : Int))), (10, .int (Int32.ofInt (m10 : Int))), (11, .int (Int32.ofInt is))]) (show [5, 6, 7, 8, 9, 4, 0, 1, 2, 3, 10, 11].Nodup by decide) ⟨rfl, rfl, rfl, rfl, rfl, rfl, rfl, rfl, rfl, rfl, rfl, rfl, trivial⟩ ?_
        exact hK 0 (by unfold xbv; omega)
      · refine xr_steps (pc' := 180) (L' := [(9, .int (Int32.ofInt 1)), (5, .int (Int32.ofInt (m5 : Int))), (6, .int (Int32.ofInt ea)), (7, .int (Int32.ofInt so)), (8, .int (Int32.ofInt lo)), (4, .int (Int32.ofInt (m4 : Int))), (0, .ref 165), (1, .int (Int32.ofInt (r : Int))), (2, .int (Int32.ofInt (pe : Int))), (3, .int (Int32.ofInt (pa : Int))), (10, .int (Int32.ofInt (m10 : Int))), (11, .int (Int32.ofInt is))]) (st' := []) 3 rfl ?_
        refine xr_loc (L := [(5, .int (Int32.ofInt (m5 : Int))), (6, .int (Int32.ofInt ea)), (7, .int (Int32.ofInt so)), (8, .int (Int32.ofInt lo)), (9, .int (Int32.ofInt 1)), (4, .int (Int32.ofInt (m4 : Int))), (0, .ref 165), (1, .int (Int32.ofInt (r : Int))), (2, .int (Int32.ofInt (pe : Int))), (3, .int (Int32.ofInt (pa : Int))), (10, .int (Int32.ofInt (m10 : Int))), (11, .int (Int32.ofInt is))]) (show [5, 6, 7, 8, 9, 4, 0, 1, 2, 3, 10, 11].Nodup by decide) ⟨rfl, rfl, rfl, rfl, rfl, rfl, rfl, rfl, rfl, rfl, rfl, rfl, trivial⟩ ?_
        exact hK 1 (by unfold xbv; omega)
theorem mo_246e (hA : 194 ≤ A.1) (hb : (ea = 0 ∨ ea = 1) ∧ (so = 0 ∨ so = 1) ∧ (lo = 0 ∨ lo = 1) ∧ (an = 0 ∨ an = 1)) (hK : ∀ v : Int, ((v = 0 ∧ ¬ ((an = 1 ∧ so = 1) ∨ (an = 0 ∧ ea = 1))) ∨ (v = 3 ∧ ((an = 1 ∧ so = 1) ∨ (an = 0 ∧ ea = 1)) ∧ lo = 1) ∨ (v = 1 ∧ ((an = 1 ∧ so = 1) ∨ (an = 0 ∧ ea = 1)) ∧ lo = 0)) → Q (.inl (some (.int (Int32.ofInt v)))) (ym A s t)) : xr_ok (xt_G w) d 246 189 [(5, .int (Int32.ofInt (m5 : Int))), (6, .int (Int32.ofInt ea)), (7, .int (Int32.ofInt so)), (8, .int (Int32.ofInt lo)), (9, .int (Int32.ofInt an)), (4, .int (Int32.ofInt (m4 : Int))), (0, .ref 165), (1, .int (Int32.ofInt (r : Int))), (2, .int (Int32.ofInt (pe : Int))), (3, .int (Int32.ofInt (pa : Int)))] [] (ym A s t) Q := by
  refine xr_steps (pc' := 191) (L' := [(5, .int (Int32.ofInt (m5 : Int))), (6, .int (Int32.ofInt ea)), (7, .int (Int32.ofInt so)), (8, .int (Int32.ofInt lo)), (9, .int (Int32.ofInt an)), (4, .int (Int32.ofInt (m4 : Int))), (0, .ref 165), (1, .int (Int32.ofInt (r : Int))), (2, .int (Int32.ofInt (pe : Int))), (3, .int (Int32.ofInt (pa : Int)))]) (st' := [.int (Int32.ofInt an)]) 1 rfl ?_
  refine xr_if_eq rfl (by omega) (fun z31 => ?_) (fun z31 => ?_)
  · refine xr_steps (pc' := 204) (L' := [(5, .int (Int32.ofInt (m5 : Int))), (6, .int (Int32.ofInt ea)), (7, .int (Int32.ofInt so)), (8, .int (Int32.ofInt lo)), (9, .int (Int32.ofInt an)), (4, .int (Int32.ofInt (m4 : Int))), (0, .ref 165), (1, .int (Int32.ofInt (r : Int))), (2, .int (Int32.ofInt (pe : Int))), (3, .int (Int32.ofInt (pa : Int)))]) (st' := [.int (Int32.ofInt ea)]) 1 rfl ?_
    refine xr_if_ne rfl (by omega) (fun z32 => ?_) (fun z32 => ?_)
    · refine xr_steps (pc' := 213) (L' := [(5, .int (Int32.ofInt (m5 : Int))), (6, .int (Int32.ofInt ea)), (7, .int (Int32.ofInt so)), (8, .int (Int32.ofInt lo)), (9, .int (Int32.ofInt an)), (4, .int (Int32.ofInt (m4 : Int))), (0, .ref 165), (1, .int (Int32.ofInt (r : Int))), (2, .int (Int32.ofInt (pe : Int))), (3, .int (Int32.ofInt (pa : Int)))]) (st' := [.int (Int32.ofInt lo)]) 1 rfl ?_
      refine xr_if_eq rfl (by omega) (fun z33 => ?_) (fun z33 => ?_)
      · refine xr_steps (pc' := 221) (L' := [(5, .int (Int32.ofInt (m5 : Int))), (6, .int (Int32.ofInt ea)), (7, .int (Int32.ofInt so)), (8, .int (Int32.ofInt lo)), (9, .int (Int32.ofInt an)), (4, .int (Int32.ofInt (m4 : Int))), (0, .ref 165), (1, .int (Int32.ofInt (r : Int))), (2, .int (Int32.ofInt (pe : Int))), (3, .int (Int32.ofInt (pa : Int)))]) (st' := [.int (Int32.ofInt 1)]) 1 rfl ?_
        exact xr_retI2 rfl rfl (hK _ (by omega))
      · refine xr_steps (pc' := 221) (L' := [(5, .int (Int32.ofInt (m5 : Int))), (6, .int (Int32.ofInt ea)), (7, .int (Int32.ofInt so)), (8, .int (Int32.ofInt lo)), (9, .int (Int32.ofInt an)), (4, .int (Int32.ofInt (m4 : Int))), (0, .ref 165), (1, .int (Int32.ofInt (r : Int))), (2, .int (Int32.ofInt (pe : Int))), (3, .int (Int32.ofInt (pa : Int)))]) (st' := [.int (Int32.ofInt 3)]) 2 rfl ?_
        exact xr_retI2 rfl rfl (hK _ (by omega))
    · refine xr_steps (pc' := 221) (L' := [(5, .int (Int32.ofInt (m5 : Int))), (6, .int (Int32.ofInt ea)), (7, .int (Int32.ofInt so)), (8, .int (Int32.ofInt lo)), (9, .int (Int32.ofInt an)), (4, .int (Int32.ofInt (m4 : Int))), (0, .ref 165), (1, .int (Int32.ofInt (r : Int))), (2, .int (Int32.ofInt (pe : Int))), (3, .int (Int32.ofInt (pa : Int)))]) (st' := [.int (Int32.ofInt 0)]) 2 rfl ?_
      exact xr_retI2 rfl rfl (hK _ (by omega))
  · refine xr_steps (pc' := 196) (L' := [(5, .int (Int32.ofInt (m5 : Int))), (6, .int (Int32.ofInt ea)), (7, .int (Int32.ofInt so)), (8, .int (Int32.ofInt lo)), (9, .int (Int32.ofInt an)), (4, .int (Int32.ofInt (m4 : Int))), (0, .ref 165), (1, .int (Int32.ofInt (r : Int))), (2, .int (Int32.ofInt (pe : Int))), (3, .int (Int32.ofInt (pa : Int)))]) (st' := [.int (Int32.ofInt so)]) 1 rfl ?_
    refine xr_if_eq rfl (by omega) (fun z34 => ?_) (fun z34 => ?_)
    · refine xr_steps (pc' := 221) (L' := [(5, .int (Int32.ofInt (m5 : Int))), (6, .int (Int32.ofInt ea)), (7, .int (Int32.ofInt so)), (8, .int (Int32.ofInt lo)), (9, .int (Int32.ofInt an)), (4, .int (Int32.ofInt (m4 : Int))), (0, .ref 165), (1, .int (Int32.ofInt (r : Int))), (2, .int (Int32.ofInt (pe : Int))), (3, .int (Int32.ofInt (pa : Int)))]) (st' := [.int (Int32.ofInt 0)]) 2 rfl ?_
      exact xr_retI2 rfl rfl (hK _ (by omega))
    · refine xr_steps (pc' := 213) (L' := [(5, .int (Int32.ofInt (m5 : Int))), (6, .int (Int32.ofInt ea)), (7, .int (Int32.ofInt so)), (8, .int (Int32.ofInt lo)), (9, .int (Int32.ofInt an)), (4, .int (Int32.ofInt (m4 : Int))), (0, .ref 165), (1, .int (Int32.ofInt (r : Int))), (2, .int (Int32.ofInt (pe : Int))), (3, .int (Int32.ofInt (pa : Int)))]) (st' := [.int (Int32.ofInt lo)]) 2 rfl ?_
      refine xr_if_eq rfl (by omega) (fun z35 => ?_) (fun z35 => ?_)
      · refine xr_steps (pc' := 221) (L' := [(5, .int (Int32.ofInt (m5 : Int))), (6, .int (Int32.ofInt ea)), (7, .int (Int32.ofInt so)), (8, .int (Int32.ofInt lo)), (9, .int (Int32.ofInt an)), (4, .int (Int32.ofInt (m4 : Int))), (0, .ref 165), (1, .int (Int32.ofInt (r : Int))), (2, .int (Int32.ofInt (pe : Int))), (3, .int (Int32.ofInt (pa : Int)))]) (st' := [.int (Int32.ofInt 1)]) 1 rfl ?_
        exact xr_retI2 rfl rfl (hK _ (by omega))
      · refine xr_steps (pc' := 221) (L' := [(5, .int (Int32.ofInt (m5 : Int))), (6, .int (Int32.ofInt ea)), (7, .int (Int32.ofInt so)), (8, .int (Int32.ofInt lo)), (9, .int (Int32.ofInt an)), (4, .int (Int32.ofInt (m4 : Int))), (0, .ref 165), (1, .int (Int32.ofInt (r : Int))), (2, .int (Int32.ofInt (pe : Int))), (3, .int (Int32.ofInt (pa : Int)))]) (st' := [.int (Int32.ofInt 3)]) 2 rfl ?_
        exact xr_retI2 rfl rfl (hK _ (by omega))
end OU
theorem xmq_cons {n : Nat} {e : Nat → Int} {sp : Int} {k p : Nat} {ms : List (Int × Int × List Int)} (h : xmq n e sp k p = some ms) : ∃ (mm : Int × Int × List Int) (q k' : Nat) (rest : List (Int × Int × List Int)), ms = mm :: rest ∧ xms e p = some (mm, q) ∧ ((rest = [] ∧ q = n ∧ ¬ e q = sp) ∨ (e q = sp ∧ xmq n e sp k' (q + 1) = some rest)) := by
  cases k with
  | zero => cases h
  | succ k =>
    rw [xmq] at h
    cases h1 : xms e p with
    | none => rw [h1] at h; cases h
    | some z =>
      obtain ⟨mm, q⟩ := z
      rw [h1] at h
      have h2 : (if e q = sp then (match xmq n e sp k (q + 1) with
        | none => none
        | some l => some (mm :: l)) else if q = n then some [mm] else none) = some ms := h
      by_cases h3 : e q = sp
      · rw [if_pos h3] at h2
        cases h4 : xmq n e sp k (q + 1) with
        | none => rw [h4] at h2; cases h2
        | some l =>
          rw [h4] at h2
          cases h2
          exact ⟨mm, q, k, l, rfl, rfl, Or.inr ⟨h3, h4⟩⟩
      · rw [if_neg h3] at h2
        by_cases h4 : q = n
        · rw [if_pos h4] at h2
          cases h2
          exact ⟨mm, q, 0, [], rfl, rfl, Or.inl ⟨rfl, h4, h3⟩⟩
        · rw [if_neg h4] at h2
          cases h2
theorem xit_ne {e : Nat → Int} : ∀ (k p j : Nat), p ≤ j → j < xit e k p → ¬ e j = 47 := by
  intro k
  induction k with
  | zero => intro p j h1 h2; have h3 : j < p := h2; omega
  | succ k ih =>
    intro p j h1 h2
    rw [xit] at h2
    by_cases hc : e p = 46 ∨ (97 ≤ e p ∧ e p ≤ 122)
    · rw [if_pos hc] at h2
      by_cases h4 : e (p + 1) = 42 ∨ e (p + 1) = 43
      · rw [if_pos h4] at h2
        by_cases e1 : j = p
        · rw [e1]; omega
        · by_cases e2 : j = p + 1
          · rw [e2]; omega
          · exact ih (p + 2) j (by omega) h2
      · rw [if_neg h4] at h2
        by_cases e1 : j = p
        · rw [e1]; omega
        · exact ih (p + 1) j (by omega) h2
    · rw [if_neg hc] at h2
      omega
theorem xms_chars {e : Nat → Int} {p q : Nat} {mm : Int × Int × List Int} (h : xms e p = some (mm, q)) : (e p = 47 → p + 2 ≤ q ∧ e (q - 1) = 47 ∧ ∀ j : Nat, p + 1 ≤ j → j < q - 1 → ¬ e j = 47) ∧ (¬ e p = 47 → ∀ j : Nat, p < j → j < q → ¬ e j = 38 ∧ ¬ e j = 124) := by
  unfold xms at h
  split at h
  · cases h
    exact ⟨fun h => by omega, fun _ j h1 h2 => by omega⟩
  split at h
  · rename_i h0 h1
    unfold xmb at h
    split at h
    · rename_i h2
      cases h
      refine ⟨fun h => by omega, fun _ j h3 h4 => ?_⟩
      obtain rfl : j = p + 1 := by omega
      omega
    · cases h
  split at h
  · rename_i h0 h1 h2
    unfold xmp at h
    split at h
    · cases h
      refine ⟨fun h => by omega, fun _ j h3 h4 => ?_⟩
      have := yn_get e 97 122 6 (p + 1) (j - (p + 1)) (by omega)
      rw [show p + 1 + (j - (p + 1)) = j by omega] at this
      omega
    · cases h
  split at h
  · unfold xmi at h
    split at h
    · rename_i h3
      cases h
      refine ⟨fun _ => ⟨by omega, by rw [Nat.add_sub_cancel]; exact h3.2, fun j h4 h5 => ?_⟩, fun h => by omega⟩
      rw [Nat.add_sub_cancel] at h5
      exact xit_ne 8 (p + 1) j h4 h5
    · cases h
  · cases h
section OV
variable {w : Value} {d : Nat} {A : xb_H} {s : Nat → Int} {r n m pe pa ze za : Nat} {sp : Int} {e u : xv (m + 1)} {Q : xb_R → xb_H → Prop}
/-- what an outcome v says: ea, so, lo, an of the matchers before ms -/
def xGD (m : Nat) (e u : xv (m + 1)) (sp : Int) (ms : List (Int × Int × List Int)) (ea so an : Int) : Prop := ((an = 1 ∨ (sp = 124 ∧ 2 ≤ ms.length)) ∧ (so = 1 ∨ ∃ x ∈ ms, xMH m x e u)) ∨ (¬ (an = 1 ∨ (sp = 124 ∧ 2 ≤ ms.length)) ∧ ea = 1 ∧ ∀ x ∈ ms, xMH m x e u)
def xOC (m : Nat) (e u : xv (m + 1)) (sp : Int) (ms : List (Int × Int × List Int)) (ea so lo an v : Int) : Prop := (v = 0 ∧ ¬ xGD m e u sp ms ea so an) ∨ (v = 3 ∧ xGD m e u sp ms ea so an ∧ (lo = 1 ∨ ∃ x ∈ ms, xlo x)) ∨ (v = 1 ∧ xGD m e u sp ms ea so an ∧ ¬ (lo = 1 ∨ ∃ x ∈ ms, xlo x))
theorem xGD_nil {ea so an : Int} (ha : an = 0 ∨ an = 1) : xGD m e u sp [] ea so an ↔ ((an = 1 ∧ so = 1) ∨ (an = 0 ∧ ea = 1)) := by
  unfold xGD
  rw [List.length_nil]
  constructor
  · rintro (⟨h1, h2⟩ | ⟨h1, h2, -⟩)
    · rcases h2 with h2 | ⟨x, hx, -⟩
      · exact Or.inl ⟨by omega, h2⟩
      · exact absurd hx List.not_mem_nil
    · exact Or.inr ⟨by omega, h2⟩
  · rintro (⟨h1, h2⟩ | ⟨h1, h2⟩)
    · exact Or.inl ⟨Or.inl h1, Or.inl h2⟩
    · exact Or.inr ⟨by omega, h2, fun x hx => absurd hx List.not_mem_nil⟩
theorem xOC_nil {ea so lo an v : Int} (hv : (v = 0 ∧ ¬ ((an = 1 ∧ so = 1) ∨ (an = 0 ∧ ea = 1))) ∨ (v = 3 ∧ ((an = 1 ∧ so = 1) ∨ (an = 0 ∧ ea = 1)) ∧ lo = 1) ∨ (v = 1 ∧ ((an = 1 ∧ so = 1) ∨ (an = 0 ∧ ea = 1)) ∧ lo = 0)) (ha : an = 0 ∨ an = 1) : xOC m e u sp [] ea so lo an v := by
  unfold xOC
  rw [xGD_nil ha]
  have hl : (lo = 1 ∨ ∃ x ∈ ([] : List (Int × Int × List Int)), xlo x) ↔ lo = 1 := ⟨fun h => h.elim id (fun ⟨x, hx, _⟩ => absurd hx List.not_mem_nil), Or.inl⟩
  rw [hl]
  omega
theorem xOC_l {lo lo2 : Int} {mm : Int × Int × List Int} {rest : List (Int × Int × List Int)} (h8 : (lo2 = 1 ∧ (lo = 1 ∨ mm.1 = 116 ∨ mm.1 = 62 ∨ mm.1 = 60)) ∨ (lo2 = 0 ∧ ¬ (lo = 1 ∨ mm.1 = 116 ∨ mm.1 = 62 ∨ mm.1 = 60))) : (lo2 = 1 ∨ ∃ x ∈ rest, xlo x) ↔ (lo = 1 ∨ ∃ x ∈ mm :: rest, xlo x) := by
  constructor
  · rintro (h | ⟨x, hx, h⟩)
    · rcases h8 with ⟨-, h8 | h8⟩ | h8
      · exact Or.inl h8
      · exact Or.inr ⟨mm, List.mem_cons_self, h8⟩
      · omega
    · exact Or.inr ⟨x, List.mem_cons_of_mem _ hx, h⟩
  · rintro (h | ⟨x, hx, h⟩)
    · rcases h8 with h8 | h8
      · exact Or.inl h8.1
      · exact absurd (Or.inl h) h8.2
    · rcases List.mem_cons.mp hx with rfl | hx
      · rcases h8 with h8 | h8
        · exact Or.inl h8.1
        · exact absurd (Or.inr h) h8.2
      · exact Or.inr ⟨x, hx, h⟩
theorem xOC_s {so is so2 : Int} {mm : Int × Int × List Int} {rest : List (Int × Int × List Int)} (hM : is = 1 ↔ xMH m mm e u) (h7 : (so2 = 1 ∧ (so = 1 ∨ is = 1)) ∨ (so2 = 0 ∧ ¬ (so = 1 ∨ is = 1))) : (so2 = 1 ∨ ∃ x ∈ rest, xMH m x e u) ↔ (so = 1 ∨ ∃ x ∈ mm :: rest, xMH m x e u) := by
  constructor
  · rintro (h | ⟨x, hx, h⟩)
    · rcases h7 with ⟨-, h7 | h7⟩ | h7
      · exact Or.inl h7
      · exact Or.inr ⟨mm, List.mem_cons_self, hM.1 h7⟩
      · omega
    · exact Or.inr ⟨x, List.mem_cons_of_mem _ hx, h⟩
  · rintro (h | ⟨x, hx, h⟩)
    · rcases h7 with h7 | h7
      · exact Or.inl h7.1
      · exact absurd (Or.inl h) h7.2
    · rcases List.mem_cons.mp hx with rfl | hx
      · rcases h7 with h7 | h7
        · exact Or.inl h7.1
        · exact absurd (Or.inr (hM.2 h)) h7.2
      · exact Or.inr ⟨x, hx, h⟩
theorem xOC_e {ea is ea2 : Int} {mm : Int × Int × List Int} {rest : List (Int × Int × List Int)} (hM : is = 1 ↔ xMH m mm e u) (h6 : (ea2 = 1 ∧ (ea = 1 ∧ is = 1)) ∨ (ea2 = 0 ∧ ¬ (ea = 1 ∧ is = 1))) : (ea2 = 1 ∧ ∀ x ∈ rest, xMH m x e u) ↔ (ea = 1 ∧ ∀ x ∈ mm :: rest, xMH m x e u) := by
  constructor
  · rintro ⟨h1, h2⟩
    rcases h6 with ⟨-, h6, h7⟩ | h6
    · refine ⟨h6, fun x hx => ?_⟩
      rcases List.mem_cons.mp hx with rfl | hx
      · exact hM.1 h7
      · exact h2 x hx
    · omega
  · rintro ⟨h1, h2⟩
    rcases h6 with h6 | h6
    · exact ⟨h6.1, fun x hx => h2 x (List.mem_cons_of_mem _ hx)⟩
    · exact absurd ⟨h1, hM.2 (h2 mm List.mem_cons_self)⟩ h6.2
theorem xOC_a {an an2 : Int} {mm : Int × Int × List Int} {rest : List (Int × Int × List Int)} {AA : Prop} (h9 : (an2 = 1 ∧ (an = 1 ∨ AA)) ∨ (an2 = 0 ∧ ¬ (an = 1 ∨ AA))) (hA : AA ↔ (¬ rest = [] ∧ sp = 124)) : (an2 = 1 ∨ (sp = 124 ∧ 2 ≤ rest.length)) ↔ (an = 1 ∨ (sp = 124 ∧ 2 ≤ (mm :: rest).length)) := by
  rw [List.length_cons]
  have hr : (¬ rest = []) ↔ 1 ≤ rest.length := by
    cases rest with
    | nil => exact ⟨fun h => absurd rfl h, fun h => by rw [List.length_nil] at h; omega⟩
    | cons a l => exact ⟨fun _ => by rw [List.length_cons]; omega, fun _ h => by cases h⟩
  rw [hr] at hA
  constructor
  · rintro (h | h)
    · rcases h9 with ⟨-, h9 | h9⟩ | h9
      · exact Or.inl h9
      · exact Or.inr ⟨(hA.1 h9).2, by have := (hA.1 h9).1; omega⟩
      · omega
    · exact Or.inr ⟨h.1, by omega⟩
  · rintro (h | h)
    · rcases h9 with h9 | h9
      · exact Or.inl h9.1
      · exact absurd (Or.inl h) h9.2
    · rcases h9 with h9 | h9
      · exact Or.inl h9.1
      · exact absurd (Or.inr (hA.2 ⟨by omega, h.1⟩)) h9.2
theorem xOC_cons {ea so lo an v is ea2 so2 lo2 an2 : Int} {mm : Int × Int × List Int} {rest : List (Int × Int × List Int)} {AA : Prop} (his : xbv is (xMH m mm e u)) (h6 : xbv ea2 (ea = 1 ∧ is = 1)) (h7 : xbv so2 (so = 1 ∨ is = 1)) (h8 : xbv lo2 (lo = 1 ∨ mm.1 = 116 ∨ mm.1 = 62 ∨ mm.1 = 60)) (h9 : xbv an2 (an = 1 ∨ AA)) (hA : AA ↔ (¬ rest = [] ∧ sp = 124)) (hv : xOC m e u sp rest ea2 so2 lo2 an2 v) : xOC m e u sp (mm :: rest) ea so lo an v := by
  have hM : is = 1 ↔ xMH m mm e u := by
    rcases his with h | h
    · exact ⟨fun _ => h.2, fun _ => h.1⟩
    · exact ⟨fun h2 => by omega, fun h2 => absurd h2 h.2⟩
  have hg : xGD m e u sp rest ea2 so2 an2 ↔ xGD m e u sp (mm :: rest) ea so an := by
    unfold xGD
    rw [xOC_a h9 hA, xOC_s hM h7, xOC_e hM h6]
  unfold xOC at *
  rw [hg, xOC_l h8] at hv
  exact hv
theorem xBH_of {E : Nat → Int} {b n p q k' : Nat} {mm : Int × Int × List Int} {rest : List (Int × Int × List Int)} (hn : n ≤ 100) (h : xms (ye n (fun k => E (b + k))) p = some (mm, q)) (hsp : sp = 38 ∨ sp = 124) (hrest : (rest = [] ∧ q = n ∧ ¬ ye n (fun k => E (b + k)) q = sp) ∨ (ye n (fun k => E (b + k)) q = sp ∧ xmq n (ye n (fun k => E (b + k))) sp k' (q + 1) = some rest)) : xBH E (b + p) (b + n) (b + q) := by
  have hq := xms_le h
  have hlt := xms_lt h
  have hy : ∀ j : Nat, j < n → ye n (fun k => E (b + k)) j = E (b + j) := fun j hj => by unfold ye; rw [if_pos hj]
  have hc := xms_chars h
  have hp := hy p (by omega)
  by_cases h47 : E (b + p) = 47
  · obtain ⟨h1, h2, h3⟩ := hc.1 (by rw [hp]; exact h47)
    rw [hy (q - 1) (by omega)] at h2
    refine Or.inl ⟨h47, by omega, by omega, by rw [show b + q - 1 = b + (q - 1) by omega]; exact h2, fun j h4 h5 => ?_⟩
    have := h3 (j - b) (by omega) (by omega)
    rw [hy (j - b) (by omega), show b + (j - b) = j by omega] at this
    exact this
  · have h1 := hc.2 (by rw [hp]; exact h47)
    refine Or.inr ⟨h47, by omega, by omega, fun j h4 h5 => ?_, ?_⟩
    · have := h1 (j - b) (by omega) (by omega)
      rw [hy (j - b) (by omega), show b + (j - b) = j by omega] at this
      exact this
    · rcases hrest with ⟨-, h2, -⟩ | ⟨h2, -⟩
      · exact Or.inl (by omega)
      · have hqn : q < n := ye_in (f := fun k => E (b + k)) (by omega)
        rw [hy q hqn] at h2
        exact Or.inr (by omega)
theorem mo_246l {t0 : Nat → Nat → Int} (hA : 194 ≤ A.1) (hE : ∀ j : Nat, 0 ≤ t0 166 j ∧ t0 166 j ≤ 127) (hr : r < 32) (hn : n ≤ 100) (hm : m ≤ 5) (hsp : sp = 38 ∨ sp = 124) (he : xV (t0 166) (m + 1) pe e ze) (hu : xV (t0 166) (m + 1) pa u za) (hze : ze ≤ pe + 100 ∧ ze < 3711) (hza : za ≤ pa + 100 ∧ za < 3711) : ∀ (ms : List (Int × Int × List Int)) (t : Nat → Nat → Int) (p : Nat) (ea so lo an : Int), t 166 = t0 166 → (ea = 0 ∨ ea = 1) → (so = 0 ∨ so = 1) → (lo = 0 ∨ lo = 1) → (an = 0 ∨ an = 1) → ((ms = [] ∧ p = n + 1) ∨ ∃ k, xmq n (ye n (fun k => t0 166 (510 + 100 * r + k))) sp k p = some ms) → p ≤ n + 1 → (∀ (v : Int) (t' : Nat → Nat → Int), xOC m e u sp ms ea so lo an v → xhm t t' → Q (.inl (some (.int (Int32.ofInt v)))) (ym A s t')) → xr_ok (xt_G w) (d + 1 + 1 + 1 + 1 + 1 + 1 + 1) 246 38 [(5, .int (Int32.ofInt ((510 + 100 * r + p : Nat) : Int))), (6, .int (Int32.ofInt ea)), (7, .int (Int32.ofInt so)), (8, .int (Int32.ofInt lo)), (9, .int (Int32.ofInt an)), (4, .int (Int32.ofInt ((510 + 100 * r + n : Nat) : Int))), (0, .ref 165), (1, .int (Int32.ofInt (r : Int))), (2, .int (Int32.ofInt (pe : Int))), (3, .int (Int32.ofInt (pa : Int)))] [] (ym A s t) Q := by
  intro ms
  induction ms with
  | nil =>
    intro t p ea so lo an e166 hea hso hlo han hst hp hQ
    have hpn : p = n + 1 := by
      rcases hst with h | ⟨k, h⟩
      · exact h.2
      · obtain ⟨mm, q, k', rest, h2, -⟩ := xmq_cons h
        cases h2
    refine xr_steps (pc' := 42) (L' := [(5, .int (Int32.ofInt ((510 + 100 * r + p : Nat) : Int))), (6, .int (Int32.ofInt ea)), (7, .int (Int32.ofInt so)), (8, .int (Int32.ofInt lo)), (9, .int (Int32.ofInt an)), (4, .int (Int32.ofInt ((510 + 100 * r + n : Nat) : Int))), (0, .ref 165), (1, .int (Int32.ofInt (r : Int))), (2, .int (Int32.ofInt (pe : Int))), (3, .int (Int32.ofInt (pa : Int)))]) (st' := [.int (Int32.ofInt ((510 + 100 * r + n : Nat) : Int)), .int (Int32.ofInt ((510 + 100 * r + p : Nat) : Int))]) 2 rfl ?_
    refine xr_icmp_ge rfl (by omega) (by omega) (fun z31 => ?_) (fun z31 => ?_)
    · refine mo_246e hA ⟨hea, hso, hlo, han⟩ (fun v hv => hQ v t ?_ (xhm_refl t))
      exact xOC_nil hv han
    · exfalso; omega
  | cons mm0 rest0 ih =>
    intro t p ea so lo an e166 hea hso hlo han hst hp hQ
    obtain ⟨k, hmq⟩ : ∃ k, xmq n (ye n (fun k => t0 166 (510 + 100 * r + k))) sp k p = some (mm0 :: rest0) := by
      rcases hst with h | h
      · cases h.1
      · exact h
    obtain ⟨mm, q, k', rest, hmr, hms, hrest⟩ := xmq_cons hmq
    cases hmr
    have hq1 := xms_le hms
    have hq2 := xms_lt hms
    refine xr_steps (pc' := 42) (L' := [(5, .int (Int32.ofInt ((510 + 100 * r + p : Nat) : Int))), (6, .int (Int32.ofInt ea)), (7, .int (Int32.ofInt so)), (8, .int (Int32.ofInt lo)), (9, .int (Int32.ofInt an)), (4, .int (Int32.ofInt ((510 + 100 * r + n : Nat) : Int))), (0, .ref 165), (1, .int (Int32.ofInt (r : Int))), (2, .int (Int32.ofInt (pe : Int))), (3, .int (Int32.ofInt (pa : Int)))]) (st' := [.int (Int32.ofInt ((510 + 100 * r + n : Nat) : Int)), .int (Int32.ofInt ((510 + 100 * r + p : Nat) : Int))]) 2 rfl ?_
    refine xr_icmp_ge rfl (by omega) (by omega) (fun z31 => ?_) (fun z31 => ?_)
    · exfalso; omega
    · refine xr_steps (pc' := 50) (L' := [(5, .int (Int32.ofInt ((510 + 100 * r + p : Nat) : Int))), (6, .int (Int32.ofInt ea)), (7, .int (Int32.ofInt so)), (8, .int (Int32.ofInt lo)), (9, .int (Int32.ofInt an)), (4, .int (Int32.ofInt ((510 + 100 * r + n : Nat) : Int))), (0, .ref 165), (1, .int (Int32.ofInt (r : Int))), (2, .int (Int32.ofInt (pe : Int))), (3, .int (Int32.ofInt (pa : Int)))]) (st' := [.int (Int32.ofInt ((510 + 100 * r + n : Nat) : Int)), .int (Int32.ofInt ((510 + 100 * r + p : Nat) : Int)), .ref 165]) 3 rfl ?_
      skip
      skip
      skip
      have hmt := xms_MT (E := t0 166) (b := 510 + 100 * r) (by omega) hms
      have hbh := xBH_of (by omega) hms hsp hrest
      refine xr_call (q := (.invokevirtual 202, 3, 247, 3)) (av := [.ref 165, .int (Int32.ofInt ((510 + 100 * r + p : Nat) : Int)), .int (Int32.ofInt ((510 + 100 * r + n : Nat) : Int))]) (rest := []) rfl rfl (by decide) rfl (ym_rcv hA rfl) (Nat.le_of_ble_eq_true rfl) (mo_247 (t := t) (en := 510 + 100 * r + n) (mp := 510 + 100 * r + p) (q := 510 + 100 * r + q) hA (by rw [e166]; exact hE) (by omega) (by rw [e166]; exact hbh)) ?_
      rintro _ _ ⟨rfl, eA⟩
      rw [eA]
      clear eA
      refine xr_steps (pc' := 62) (L' := [(10, .int (Int32.ofInt ((510 + 100 * r + q : Nat) : Int))), (5, .int (Int32.ofInt ((510 + 100 * r + p : Nat) : Int))), (6, .int (Int32.ofInt ea)), (7, .int (Int32.ofInt so)), (8, .int (Int32.ofInt lo)), (9, .int (Int32.ofInt an)), (4, .int (Int32.ofInt ((510 + 100 * r + n : Nat) : Int))), (0, .ref 165), (1, .int (Int32.ofInt (r : Int))), (2, .int (Int32.ofInt (pe : Int))), (3, .int (Int32.ofInt (pa : Int)))]) (st' := [.int (Int32.ofInt (pa : Int)), .int (Int32.ofInt (pe : Int)), .int (Int32.ofInt ((510 + 100 * r + q : Nat) : Int)), .int (Int32.ofInt ((510 + 100 * r + p : Nat) : Int)), .ref 165]) 6 rfl ?_
      refine xr_call (q := (.invokevirtual 205, 3, 248, 5)) (av := [.ref 165, .int (Int32.ofInt ((510 + 100 * r + p : Nat) : Int)), .int (Int32.ofInt ((510 + 100 * r + q : Nat) : Int)), .int (Int32.ofInt (pe : Int)), .int (Int32.ofInt (pa : Int))]) (rest := []) rfl rfl (by decide) rfl (ym_rcv hA rfl) (Nat.le_of_ble_eq_true rfl) (mo_248 (t := t) (e := e) (u := u) hA (by rw [e166]; exact hE) hm (by rw [e166]; exact hmt) (by rw [e166]; exact he) (by rw [e166]; exact hu) hze hza) ?_
      rintro _ _ ⟨is, T1, ⟨rfl, eA, hhm⟩, his⟩
      rw [eA]
      clear eA
      have his2 : xbv is (xMH m mm0 e u) := his
      clear his
      have his01 := xb01 his2
      have e1 : T1 166 = t0 166 := (hhm 166 (by omega)).trans e166
      refine xr_steps (pc' := 67) (L' := [(11, .int (Int32.ofInt is)), (10, .int (Int32.ofInt ((510 + 100 * r + q : Nat) : Int))), (5, .int (Int32.ofInt ((510 + 100 * r + p : Nat) : Int))), (6, .int (Int32.ofInt ea)), (7, .int (Int32.ofInt so)), (8, .int (Int32.ofInt lo)), (9, .int (Int32.ofInt an)), (4, .int (Int32.ofInt ((510 + 100 * r + n : Nat) : Int))), (0, .ref 165), (1, .int (Int32.ofInt (r : Int))), (2, .int (Int32.ofInt (pe : Int))), (3, .int (Int32.ofInt (pa : Int)))]) (st' := []) 1 rfl ?_
      refine xr_loc (L := [(5, .int (Int32.ofInt ((510 + 100 * r + p : Nat) : Int))), (6, .int (Int32.ofInt ea)), (7, .int (Int32.ofInt so)), (8, .int (Int32.ofInt lo)), (9, .int (Int32.ofInt an)), (4, .int (Int32.ofInt ((510 + 100 * r + n : Nat) : Int))), (0, .ref 165), (1, .int (Int32.ofInt (r : Int))), (2, .int (Int32.ofInt (pe : Int))), (3, .int (Int32.ofInt (pa : Int))), (10, .int (Int32.ofInt ((510 + 100 * r + q : Nat) : Int))), (11, .int (Int32.ofInt is))]) (show [5, 6, 7, 8, 9, 4, 0, 1, 2, 3, 10, 11].Nodup by decide) ⟨rfl, rfl, rfl, rfl, rfl, rfl, rfl, rfl, rfl, rfl, rfl, rfl, trivial⟩ ?_
      have hbnd : 510 + 100 * r + p < 3712 ∧ 510 + 100 * r + q < 3712 ∧ 510 + 100 * r + n < 3712 := by omega
      refine mo_246a hA ⟨hea, hso, hlo, han, his01⟩ (fun ea2 h6 => ?_)
      refine mo_246b hA ⟨xb01 h6, hso, hlo, han, his01⟩ (fun so2 h7 => ?_)
      refine mo_246c hA ⟨xb01 h6, xb01 h7, hlo, han, his01⟩ (by rw [e1]; exact hE) hbnd (fun lo2 h8 => ?_)
      refine mo_246d hA ⟨xb01 h6, xb01 h7, xb01 h8, han, his01⟩ (by rw [e1]; exact hE) hbnd (fun an2 h9 => ?_)
      refine xr_steps (pc' := 183) (L' := [(5, .int (Int32.ofInt ((510 + 100 * r + p : Nat) : Int))), (6, .int (Int32.ofInt ea2)), (7, .int (Int32.ofInt so2)), (8, .int (Int32.ofInt lo2)), (9, .int (Int32.ofInt an2)), (4, .int (Int32.ofInt ((510 + 100 * r + n : Nat) : Int))), (0, .ref 165), (1, .int (Int32.ofInt (r : Int))), (2, .int (Int32.ofInt (pe : Int))), (3, .int (Int32.ofInt (pa : Int))), (10, .int (Int32.ofInt ((510 + 100 * r + q : Nat) : Int))), (11, .int (Int32.ofInt is))]) (st' := [.int (Int32.ofInt 1), .int (Int32.ofInt ((510 + 100 * r + q : Nat) : Int))]) 2 rfl ?_
      refine xr_iadd rfl ?_
      refine xr_steps (pc' := 38) (L' := [(5, .int (Int32.ofInt (((510 + 100 * r + q : Nat) : Int) + 1))), (6, .int (Int32.ofInt ea2)), (7, .int (Int32.ofInt so2)), (8, .int (Int32.ofInt lo2)), (9, .int (Int32.ofInt an2)), (4, .int (Int32.ofInt ((510 + 100 * r + n : Nat) : Int))), (0, .ref 165), (1, .int (Int32.ofInt (r : Int))), (2, .int (Int32.ofInt (pe : Int))), (3, .int (Int32.ofInt (pa : Int))), (10, .int (Int32.ofInt ((510 + 100 * r + q : Nat) : Int))), (11, .int (Int32.ofInt is))]) (st' := []) 2 rfl ?_
      refine xr_loc (L := [(5, .int (Int32.ofInt (((510 + 100 * r + q : Nat) : Int) + 1))), (6, .int (Int32.ofInt ea2)), (7, .int (Int32.ofInt so2)), (8, .int (Int32.ofInt lo2)), (9, .int (Int32.ofInt an2)), (4, .int (Int32.ofInt ((510 + 100 * r + n : Nat) : Int))), (0, .ref 165), (1, .int (Int32.ofInt (r : Int))), (2, .int (Int32.ofInt (pe : Int))), (3, .int (Int32.ofInt (pa : Int)))]) (show [5, 6, 7, 8, 9, 4, 0, 1, 2, 3].Nodup by decide) ⟨rfl, rfl, rfl, rfl, rfl, rfl, rfl, rfl, rfl, rfl, trivial⟩ ?_
      rw [show ((510 + 100 * r + q : Nat) : Int) + 1 = ((510 + 100 * r + (q + 1) : Nat) : Int) by omega]
      have hy : ∀ j : Nat, j < n → ye n (fun k => t0 166 (510 + 100 * r + k)) j = t0 166 (510 + 100 * r + j) := fun j hj => by unfold ye; rw [if_pos hj]
      have hmm1 : t0 166 (510 + 100 * r + p) = mm0.1 := hmt.1
      rw [e1, hmm1] at h8
      rw [e1] at h9
      have hanq : (510 + 100 * r + q < 510 + 100 * r + n ∧ t0 166 (510 + 100 * r + q) = 124) ↔ (¬ rest0 = [] ∧ sp = 124) := by
        rcases hrest with ⟨g1, g2, g3⟩ | ⟨g1, g2⟩
        · exact ⟨fun h => absurd h.1 (by omega), fun h => absurd g1 h.1⟩
        · have hqn : q < n := ye_in (f := fun k => t0 166 (510 + 100 * r + k)) (by omega)
          obtain ⟨mm2, q2, k2, rest2, g3, -⟩ := xmq_cons g2
          rw [← hy q hqn, g1]
          exact ⟨fun h => ⟨by rw [g3]; exact List.cons_ne_nil _ _, h.2⟩, fun h => ⟨by omega, h.2⟩⟩
      refine ih T1 (q + 1) ea2 so2 lo2 an2 e1 (xb01 h6) (xb01 h7) (xb01 h8) (xb01 h9) (by rcases hrest with ⟨g1, g2, -⟩ | ⟨g1, g2⟩; exact Or.inl ⟨g1, by omega⟩; exact Or.inr ⟨k', g2⟩) (by omega) (fun v t' hv hx => hQ v t' ?_ (xhm_trans hhm hx))
      exact xOC_cons his2 h6 h7 h8 h9 hanq hv
end OV
