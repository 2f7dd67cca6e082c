/-! The desk and the reference side by side -/
section SB
variable {A A' : xb_H} {R : Nat → Nat} {v nv : Nat} {vv : Nat → Nat} {xa : Nat → Nat × Nat × Nat} {ir : Value} {l T : List Int} {ins : List xI} {hd : Nat → Int} {ev : List Int} {ms : List (Int × List Int)} {M : List Nat} {p q : Nat} {s s' : Nat → Int} {t t' : Nat → Nat → Int}
theorem yDK_out (h : yDK A R v nv vv xa ir l T ins hd ev ms) (hf : yfr A A' M p q) (hM : ∀ y ∈ M, 165 ≤ y ∧ y < 194) : yDK A' R v nv vv xa ir l T ins hd ev ms := by
  obtain ⟨⟨a1, a2, a3⟩, h64, ⟨b1, b2, b3, b4, b5⟩, ⟨⟨ia, c1, c2⟩, c3⟩, hin, hse, hcs, hvv⟩ := h
  have n1 := hf.1
  have hn : ∀ y, y < 165 ∨ 194 ≤ y → ¬ y ∈ M := fun y hy hm => by have := hM y hm; omega
  refine ⟨⟨by omega, fun y hy => a2 y (by omega), yk1_fr a3 hf (fun y hy => by have := hM y hy; omega)⟩, yfr_get hf h64 (hn 64 (by omega)), ⟨ybl_fr b1 hf (hn 65 (by omega)) (hn v (by omega)), b2, b3, b4, b5⟩, ⟨⟨ia, yfr_get hf c1 (hn 67 (by omega)), c2⟩, c3⟩, fun i I hI => yIN_fr (hin i I hI) hf (fun y hy => by have := hM y hy; omega), yse_fr hse hf (fun y hy => by have := hM y hy; omega), ycs_fr hcs hf (fun y hy => ?_), hvv⟩
  have h1 := hM y hy
  refine ⟨by omega, by omega, fun k hk e => ?_⟩
  have := (hcs.2.2.2.1.2.2.1 k hk).2
  omega
theorem yfr_ym (A : xb_H) (s : Nat → Int) (t : Nat → Nat → Int) : yfr A (ym A s t) (List.range' 165 28) 0 0 := by
  refine ⟨⟨Nat.le_refl _, Nat.le_refl _⟩, ⟨Nat.le_refl _, Nat.le_refl _⟩, fun x hx hn => ym_get_else ?_⟩
  rw [List.mem_range'_1] at hn
  omega
theorem yDK_ym (h : yDK A R v nv vv xa ir l T ins hd ev ms) (s : Nat → Int) (t : Nat → Nat → Int) : yDK (ym A s t) R v nv vv xa ir l T ins hd ev ms := by
  refine yDK_out h (yfr_ym A s t) (fun y hy => ?_)
  rw [List.mem_range'_1] at hy
  omega
theorem ym_of {A : xb_H} (h1 : xb_get A 165 = some (.inr (10, ym_F s))) (h2 : ∀ x, 166 ≤ x → x < 193 → xb_get A x = some (ym_c t x)) : A = ym A s t := by
  have key : ∀ x o, xb_get A x = some o → A.2.2 x = some o := by
    intro x o h
    unfold xb_get at h
    split at h
    · exact h
    · cases h
  refine Prod.ext rfl (Prod.ext rfl (funext fun x => ?_))
  show A.2.2 x = if x = 165 then some (.inr (10, ym_F s)) else if 166 ≤ x ∧ x < 193 then some (ym_c t x) else A.2.2 x
  by_cases e1 : x = 165
  · rw [if_pos e1, e1]; exact key _ _ h1
  · rw [if_neg e1]
    by_cases e2 : 166 ≤ x ∧ x < 193
    · rw [if_pos e2]; exact key _ _ (h2 x e2.1 e2.2)
    · rw [if_neg e2]
theorem yKE_ym (e : A = ym A s t) (hA : 194 ≤ A.1) (h : yKE A A' p q) : A' = ym A' s t := by
  refine ym_of (h.2.2 165 _ (by omega) ?_) (fun x h1 h2 => h.2.2 x _ (by omega) ?_)
  · rw [e]; exact ym_165 hA
  · rw [e]; exact ym_get hA h1 h2
theorem xJR_s (h : xJR s t T ins hd ev ms) (e : s' 2 = s 2 ∧ s' 3 = s 3 ∧ s' 11 = s 11 ∧ s' 13 = s 13) : xJR s' t T ins hd ev ms := by
  unfold xJR at h ⊢
  rw [e.1, e.2.1, e.2.2.1, e.2.2.2]
  exact h
theorem xJR_0 (h : xJR s t T ins hd ev ms) (c : Int) : xJR (va_up s 0 c) t T ins hd ev ms := xJR_s h ⟨ya_up_ne _ _ (by omega), ya_up_ne _ _ (by omega), ya_up_ne _ _ (by omega), ya_up_ne _ _ (by omega)⟩
theorem xIR_eq2 {i : Nat} {I : xI} (h : xIR t i I) (ht : ∀ x : Nat, 166 ≤ x → x ≤ 172 → t' x = t x) : xIR t' i I := by
  unfold xIR xRL xBR at h ⊢
  rw [ht 166 (by omega) (by omega), ht 167 (by omega) (by omega), ht 168 (by omega) (by omega), ht 169 (by omega) (by omega), ht 170 (by omega) (by omega), ht 171 (by omega) (by omega), ht 172 (by omega) (by omega)]
  exact h
/-- a handler is set -/
theorem xJR_hd {c : Nat} {z : Int} (h : xJR s t T ins hd ev ms) (hc : c < 6) (hz : 0 ≤ z ∧ z ≤ 3) : xJR s (va_up t 173 (va_up (t 173) c z)) T ins (va_up hd c z) ev ms := by
  have hx : ∀ x : Nat, ¬ x = 173 → (va_up t 173 (va_up (t 173) c z)) x = t x := fun x hx => ya_up_ne _ _ hx
  obtain ⟨a, b, c1, c2, c3, c4, c5, c6, c7⟩ := h
  refine ⟨by rw [hx 166 (by omega)]; exact a, b, fun i I hI => xIR_eq2 (c1 i I hI) (fun x _ _ => hx x (by omega)), by rw [hx 168 (by omega), hx 169 (by omega), hx 171 (by omega)]; exact c2, fun j hj => ?_, by rw [hx 174 (by omega)]; exact c4, by rw [hx 175 (by omega), hx 176 (by omega), hx 177 (by omega)]; exact c5, by rw [hx 172 (by omega)]; exact c6, by rw [hx 176 (by omega)]; exact c7⟩
  rw [ya_up_same]
  by_cases e : j = c
  · rw [e, ya_up_same, ya_up_same]; exact ⟨rfl, hz⟩
  · rw [ya_up_ne _ _ e, ya_up_ne _ _ e]; exact c3 j hj
/-- the text is another one -/
theorem xJR_txt {T' : List Int} (h : xJR s t T ins hd ev ms) (hs : s' 2 = (T'.length : Int) ∧ s' 3 = s 3 ∧ s' 11 = s 11 ∧ s' 13 = s 13) (hT : T'.length ≤ 100) (ht : ∀ x : Nat, 167 ≤ x → x ≤ 177 → t' x = t x) (h6 : ∀ j : Nat, j < 400 ∨ 510 ≤ j → t' 166 j = t 166 j) (hE : ∀ j : Nat, 0 ≤ t' 166 j ∧ t' 166 j ≤ 127) (hr : ∀ j : Nat, j < T'.length → t' 166 (400 + j) = T'.getD j 0 ∧ 32 ≤ T'.getD j 0 ∧ T'.getD j 0 ≤ 126) : xJR s' t' T' ins hd ev ms := by
  have h2 := xJR_take (s' := va_up s 2 0) (t' := t') h ⟨ya_up_same _ _ _, ya_up_ne _ _ (by omega), ya_up_ne _ _ (by omega), ya_up_ne _ _ (by omega)⟩ ht h6 hE
  obtain ⟨a, ⟨b1, b2⟩, c1, c2, c3, ⟨d1, d2⟩, ⟨f1, f2⟩, c6, c7⟩ := h2
  rw [ya_up_ne _ _ (by omega)] at b1 d1 f1
  exact ⟨⟨hs.1, hT, hE, hr⟩, ⟨by rw [hs.2.1]; exact b1, b2⟩, c1, c2, c3, ⟨by rw [hs.2.2.1]; exact d1, d2⟩, ⟨by rw [hs.2.2.2]; exact f1, f2⟩, c6, c7⟩
theorem xJR_write {L : List Int} (h : xJR s t T ins hd ev ms) (hL : ∀ c ∈ L, 32 ≤ c ∧ c ≤ 126) (hT : T.length + L.length ≤ 100) : xJR (va_up (va_up s 0 0) 2 (s 2 + L.length)) (va_up t 166 (ya_app (t 166) (400 + s 2).toNat L)) (T ++ L) ins hd ev ms := by
  have h1 := h.1
  have e : (400 + s 2).toNat = 400 + T.length := by omega
  have g1 : ∀ j : Nat, j < 400 + T.length ∨ 400 + T.length + L.length ≤ j → ya_app (t 166) (400 + T.length) L j = t 166 j := fun j hj => by rw [ya_app_get, if_neg (by omega)]
  have g2 : ∀ j : Nat, j < L.length → ya_app (t 166) (400 + T.length) L (400 + T.length + j) = L.getD j 0 := fun j hj => by rw [ya_app_get, if_pos (by omega), Nat.add_sub_cancel_left]
  rw [e]
  have hLr : ∀ j : Nat, j < L.length → 32 ≤ L.getD j 0 ∧ L.getD j 0 ≤ 126 := fun j hj => by
    rw [List.getD_eq_getElem?_getD, List.getElem?_eq_getElem hj]
    exact hL _ (List.getElem_mem _)
  have hlen : (T ++ L).length = T.length + L.length := List.length_append
  refine xJR_txt h ⟨?_, ?_, ?_, ?_⟩ (by omega) (fun x hx _ => ya_up_ne _ _ (by omega)) (fun j hj => ?_) (fun j => ?_) (fun j hj => ?_)
  · rw [ya_up_same, hlen]; omega
  · rw [ya_up_ne _ _ (by omega), ya_up_ne _ _ (by omega)]
  · rw [ya_up_ne _ _ (by omega), ya_up_ne _ _ (by omega)]
  · rw [ya_up_ne _ _ (by omega), ya_up_ne _ _ (by omega)]
  · rw [ya_up_same]; exact g1 j (by omega)
  · rw [ya_up_same]
    by_cases hj : j < 400 + T.length ∨ 400 + T.length + L.length ≤ j
    · rw [g1 j hj]; exact h1.2.2.1 j
    · have := g2 (j - (400 + T.length)) (by omega)
      rw [show 400 + T.length + (j - (400 + T.length)) = j by omega] at this
      rw [this]
      have := hLr (j - (400 + T.length)) (by omega)
      omega
  · rw [ya_up_same, xl_app T L j (by omega)]
    by_cases hj2 : j < T.length
    · rw [if_pos hj2, g1 (400 + j) (by omega)]; exact h1.2.2.2 j hj2
    · rw [if_neg hj2]
      have := g2 (j - T.length) (by omega)
      rw [show 400 + T.length + (j - T.length) = 400 + j by omega] at this
      rw [this]
      exact ⟨rfl, hLr _ (by omega)⟩
/-- one more interaction -/
theorem xJR_make {x : Int} (h : xJR s t T ins hd ev ms) (hx : 0 ≤ x ∧ x ≤ 1) (hl : ins.length ≤ 3) : xJR (va_up (va_up s 0 0) 3 (s 3 + 1)) (va_up t 167 (va_up (t 167) (s 3).toNat x)) T (ins ++ [xI0 x]) hd ev ms := by
  have e3 : (s 3).toNat = ins.length := by have := h.2.1.1; omega
  rw [e3]
  have ht : ∀ y : Nat, ¬ y = 167 → (va_up t 167 (va_up (t 167) ins.length x)) y = t y := fun y hy => ya_up_ne _ _ hy
  have hlen : (ins ++ [xI0 x]).length = ins.length + 1 := by rw [List.length_append, List.length_singleton]
  obtain ⟨a, ⟨b1, b2⟩, c1, c2, c3, c4, c5, c6, c7⟩ := h
  refine ⟨by rw [ht 166 (by omega), ya_up_ne _ _ (by omega), ya_up_ne _ _ (by omega)]; exact a, ⟨by rw [ya_up_same, hlen]; omega, by omega⟩, fun i I hI => ?_, fun i h1 h2 => ?_, by rw [ht 173 (by omega)]; exact c3, by rw [ht 174 (by omega), ya_up_ne _ _ (by omega), ya_up_ne _ _ (by omega)]; exact c4, by rw [ht 175 (by omega), ht 176 (by omega), ht 177 (by omega), ya_up_ne _ _ (by omega), ya_up_ne _ _ (by omega)]; exact c5, by rw [ht 172 (by omega)]; exact c6, by rw [ht 176 (by omega)]; exact c7⟩
  · by_cases e : i = ins.length
    · rw [e, List.getElem?_append_right (Nat.le_refl _), Nat.sub_self] at hI
      cases hI
      have hz := c2 ins.length (Nat.le_refl _) (by omega)
      rw [e]
      refine ⟨by rw [ya_up_same, ya_up_same]; rfl, ⟨by rw [ht 169 (by omega)]; exact hz.2.1, Nat.zero_le _, fun j r hr => (by cases hr)⟩, ⟨by rw [ht 171 (by omega)]; exact hz.2.2, Nat.zero_le _, fun j hj => absurd hj (Nat.not_lt_zero _)⟩, fun _ => by rw [ht 168 (by omega)]; exact hz.1, fun u hu => (by cases hu), ?_, fun c hc => absurd hc List.not_mem_nil⟩
      show x = 0 ∨ x = 1
      omega
    · have hi : i < ins.length := by
        have := (List.getElem?_eq_some_iff.mp hI).1
        omega
      rw [List.getElem?_append_left hi] at hI
      exact xIR_keep (by omega) (c1 i I hI) (by rw [ya_up_same, ya_up_ne _ _ e]) (by rw [ht 168 (by omega)]) (by rw [ht 169 (by omega)]) (fun j _ => by rw [ht 170 (by omega)]) (by rw [ht 171 (by omega)]) (fun j _ => by rw [ht 172 (by omega)]) (fun j _ => by rw [ht 166 (by omega)]) (fun j _ _ => by rw [ht 166 (by omega)])
  · rw [ht 168 (by omega), ht 169 (by omega), ht 171 (by omega)]
    exact c2 i (by omega) h2
/-- one more state is needed -/
theorem xJR_needs {i : Nat} {z : Int} {I I' : xI} (hI' : I' = (I.1, I.2.1, I.2.2.1 ++ [z], I.2.2.2)) (h : xJR s t T ins hd ev ms) (hI : ins[i]? = some I) (hz : 0 ≤ z ∧ z ≤ 5) (hl : I.2.2.1.length < 3) : xJR (va_up s 0 0) (va_up (va_up t 172 (va_up (t 172) (3 * (i : Int) + t 171 i).toNat z)) 171 (va_up (t 171) i (t 171 i + 1))) T (ins.set i I') hd ev ms := by
  have h0 := xJR_0 h 0
  obtain ⟨a, ⟨b1, b2⟩, c1, c2, c3, c4, c5, c6, c7⟩ := h0
  have hil := (List.getElem?_eq_some_iff.mp hI).1
  have hIR := c1 i I hI
  obtain ⟨i1, i2, ⟨i3, i4, i5⟩, i6, i7, i8, i9⟩ := hIR
  rw [i3, show (3 * (i : Int) + (I.2.2.1.length : Int)).toNat = 3 * i + I.2.2.1.length by omega]
  obtain ⟨t', ht'⟩ : ∃ t', va_up (va_up t 172 (va_up (t 172) (3 * i + I.2.2.1.length) z)) 171 (va_up (t 171) i ((I.2.2.1.length : Int) + 1)) = t' := ⟨_, rfl⟩
  have r2 : t' 172 = va_up (t 172) (3 * i + I.2.2.1.length) z := by rw [← ht', ya_up_ne _ _ (by omega), ya_up_same]
  have r1 : t' 171 = va_up (t 171) i ((I.2.2.1.length : Int) + 1) := by rw [← ht', ya_up_same]
  have hx : ∀ x : Nat, ¬ x = 171 → ¬ x = 172 → t' x = t x := fun x e1 e2 => by rw [← ht', ya_up_ne _ _ e1, ya_up_ne _ _ e2]
  rw [ht']
  refine ⟨by rw [hx 166 (by omega) (by omega)]; exact a, ⟨by rw [List.length_set]; exact b1, by rw [List.length_set]; exact b2⟩, fun j J hJ => ?_, fun j h1 h2 => ?_, by rw [hx 173 (by omega) (by omega)]; exact c3, by rw [hx 174 (by omega) (by omega)]; exact c4, by rw [hx 175 (by omega) (by omega), hx 176 (by omega) (by omega), hx 177 (by omega) (by omega)]; exact c5, fun j hj => ?_, by rw [hx 176 (by omega) (by omega)]; exact c7⟩
  · by_cases e : j = i
    · rw [e, List.getElem?_set_self hil] at hJ
      cases hJ
      rw [e, hI']
      have hlen : (I.2.2.1 ++ [z]).length = I.2.2.1.length + 1 := by rw [List.length_append, List.length_singleton]
      refine ⟨by rw [hx 167 (by omega) (by omega)]; exact i1, ⟨by rw [hx 169 (by omega) (by omega)]; exact i2.1, i2.2.1, fun k r hr => xRL_eq (i2.2.2 k r hr) (hx 166 (by omega) (by omega)) (hx 170 (by omega) (by omega))⟩, ⟨?_, ?_, fun k hk => ?_⟩, fun hn => by rw [hx 168 (by omega) (by omega)]; exact i6 hn, fun u hu => ?_, i8, fun c hc => ?_⟩
      · rw [r1, ya_up_same]
        show _ = (((I.2.2.1 ++ [z]).length : Nat) : Int)
        rw [hlen]
        omega
      · show (I.2.2.1 ++ [z]).length ≤ 3
        omega
      · have hk2 : k < (I.2.2.1 ++ [z]).length := hk
        show t' 172 (3 * i + k) = (I.2.2.1 ++ [z]).getD k 0
        rw [r2, xl_snoc I.2.2.1 z k hk2]
        by_cases ek : k = I.2.2.1.length
        · rw [if_pos ek, ek, ya_up_same]
        · rw [if_neg ek, ya_up_ne _ _ (by omega)]
          exact i5 k (by omega)
      · have hb := i7 u hu
        exact xBR_keep (by omega) hb (by rw [hx 168 (by omega) (by omega)]) (fun k _ => by rw [hx 166 (by omega) (by omega)])
      · rcases List.mem_append.mp (show c ∈ I.2.2.1 ++ [z] from hc) with hc | hc
        · exact i9 c hc
        · rw [List.mem_singleton] at hc
          rw [hc]
          exact hz
    · rw [List.getElem?_set_ne (fun h => e h.symm)] at hJ
      have hj := (List.getElem?_eq_some_iff.mp hJ).1
      exact xIR_keep (by omega) (c1 j J hJ) (by rw [hx 167 (by omega) (by omega)]) (by rw [hx 168 (by omega) (by omega)]) (by rw [hx 169 (by omega) (by omega)]) (fun k _ => by rw [hx 170 (by omega) (by omega)]) (by rw [r1, ya_up_ne _ _ e]) (fun k hk => by rw [r2, ya_up_ne _ _ (by omega)]) (fun k _ => by rw [hx 166 (by omega) (by omega)]) (fun k _ _ => by rw [hx 166 (by omega) (by omega)])
  · rw [List.length_set] at h1
    rw [hx 168 (by omega) (by omega), hx 169 (by omega) (by omega), r1, ya_up_ne _ _ (by omega)]
    exact c2 j h1 h2
  · rw [r2]
    by_cases e : j = 3 * i + I.2.2.1.length
    · rw [e, ya_up_same]; exact hz
    · rw [ya_up_ne _ _ e]; exact c6 j hj
end SB
/-! Both answer alike -/
theorem xRT_uni {T ps ps' : List Int} {mt mt' : List (Int × Int × List Int)} {sp sp' : Int} (h : xRT T ps mt sp) (h' : xRT T ps' mt' sp') : ps = ps' ∧ mt = mt' ∧ sp = sp' := by
  obtain ⟨q, -, e2, -, e4, e5⟩ := h
  obtain ⟨q', -, f2, -, f4, f5⟩ := h'
  have e := e2.symm.trans f2
  cases e
  have hs : sp = sp' := e4.trans f4.symm
  subst hs
  have e := e5.symm.trans f5
  cases e
  exact ⟨rfl, rfl, rfl⟩
theorem xat_i {α : Type} {ins : List α} {i i' : Nat} {I I' : α} (hi : (i : Int) = (i' : Int)) (h : ins[i]? = some I) (h' : ins[i']? = some I') : i = i' ∧ I = I' := by
  have e : i = i' := by omega
  subst e
  exact ⟨rfl, Option.some.inj (h.symm.trans h')⟩
theorem xat_lt {α : Type} {ins : List α} {i : Nat} {I : α} (h : ins[i]? = some I) : 0 ≤ (i : Int) ∧ (i : Int) < (ins.length : Int) := by
  have := (List.getElem?_eq_some_iff.mp h).1
  omega
/-- what comes out of a call that may throw: r, or what is thrown -/
def xOU (o : xb_R) (c r : Int) : Prop := (o = .inl (some (.int (Int32.ofInt r))) ∧ c = 0) ∨ (o = .inr 0 ∧ c = 2) ∨ (o = .inr 1 ∧ c = 1)
theorem xBD_BO {T : List Int} {ins ins' : List xI} {k : Int} {o : xb_R} (h : xBD T ins k o ins') : ∃ c r : Int, xOU o c r ∧ ∀ (c' r' : Int) (ins2 : List xI), xBO T ins k c' r' ins2 → ins2 = ins' ∧ c' = c ∧ (c = 0 → r' = r) := by
  rcases h with ⟨hn, ho, hi⟩ | ⟨i, I, t, hk, hI, ht, h⟩
  · refine ⟨1, 0, Or.inr (Or.inr ⟨ho, rfl⟩), fun c' r' ins2 h' => ?_⟩
    rcases h' with ⟨-, e1, e2⟩ | ⟨i, I, t, hk, hI, ht, -⟩
    · exact ⟨e2.trans hi.symm, e1, fun h => absurd h (by decide)⟩
    · have := xat_lt hI
      exact absurd ⟨by omega, by omega, t, ht⟩ hn
  · have hlt := xat_lt hI
    have hyes : 0 ≤ k ∧ k < (ins.length : Int) ∧ ∃ t : xv 6, xpv (xe T) 6 0 = some (t, T.length) := ⟨by omega, by omega, t, ht⟩
    have key : ∀ (c' r' : Int) (ins2 : List xI), xBO T ins k c' r' ins2 → ((I.2.2.2 = none ∧ (c' = 0 ∧ r' = (xsz 6 t : Nat)) ∧ ins2 = ins.set i (I.1, I.2.1, I.2.2.1, some t)) ∨ ∃ u : xv 6, I.2.2.2 = some u ∧ ((xeq 6 u t ∧ (c' = 0 ∧ r' = (xsz 6 t : Nat)) ∧ ins2 = ins) ∨ (¬ xeq 6 u t ∧ c' = 2 ∧ ins2 = ins))) := by
      intro c' r' ins2 h'
      rcases h' with ⟨hn, -⟩ | ⟨i', I', t', hk', hI', ht', h'⟩
      · exact absurd hyes hn
      · obtain ⟨rfl, rfl⟩ := xat_i (hk.symm.trans hk') hI hI'
        have e := ht.symm.trans ht'
        cases e
        exact h'
    rcases h with ⟨e1, e2, e3⟩ | ⟨u, e1, ⟨e2, e3, e4⟩ | ⟨e2, e3, e4⟩⟩
    · refine ⟨0, (xsz 6 t : Nat), Or.inl ⟨e2, rfl⟩, fun c' r' ins2 h' => ?_⟩
      rcases key _ _ _ h' with ⟨-, ⟨g1, g2⟩, g3⟩ | ⟨u, g1, -⟩
      · exact ⟨g3.trans e3.symm, g1, fun _ => g2⟩
      · rw [e1] at g1; cases g1
    · refine ⟨0, (xsz 6 t : Nat), Or.inl ⟨e3, rfl⟩, fun c' r' ins2 h' => ?_⟩
      rcases key _ _ _ h' with ⟨g1, -⟩ | ⟨u', g1, ⟨-, ⟨g2, g3⟩, g4⟩ | ⟨g2, -⟩⟩
      · rw [e1] at g1; cases g1
      · exact ⟨g4.trans e4.symm, g2, fun _ => g3⟩
      · rw [e1] at g1; cases g1; exact absurd e2 g2
    · refine ⟨2, 0, Or.inr (Or.inl ⟨e3, rfl⟩), fun c' r' ins2 h' => ?_⟩
      rcases key _ _ _ h' with ⟨g1, -⟩ | ⟨u', g1, ⟨g2, -⟩ | ⟨-, g2, g3⟩⟩
      · rw [e1] at g1; cases g1
      · rw [e1] at g1; cases g1; exact absurd g2 e2
      · exact ⟨g3.trans e4.symm, g2, fun h => absurd h (by decide)⟩
theorem xRD_RO {T : List Int} {ins ins' : List xI} {k : Int} {o : xb_R} (h : xRD T ins k o ins') : ∃ c r : Int, xOU o c r ∧ ∀ (c' r' : Int) (ins2 : List xI), xRO T ins k c' r' ins2 → ins2 = ins' ∧ c' = c ∧ (c = 0 → r' = r) := by
  rcases h with ⟨hn, ho, hi⟩ | ⟨i, I, ps, mt, sp, hk, hI, ht, h⟩
  · refine ⟨1, 0, Or.inr (Or.inr ⟨ho, rfl⟩), fun c' r' ins2 h' => ?_⟩
    rcases h' with ⟨-, e1, e2⟩ | ⟨i, I, ps, mt, sp, hk, hI, ht, -⟩
    · exact ⟨e2.trans hi.symm, e1, fun h => absurd h (by decide)⟩
    · have := xat_lt hI
      exact absurd ⟨by omega, by omega, ps, mt, sp, ht⟩ hn
  · have hlt := xat_lt hI
    have hyes : 0 ≤ k ∧ k < (ins.length : Int) ∧ ∃ (ps : List Int) (mt : List (Int × Int × List Int)) (sp : Int), xRT T ps mt sp := ⟨by omega, by omega, ps, mt, sp, ht⟩
    have key : ∀ (c' r' : Int) (ins2 : List xI), xRO T ins k c' r' ins2 → ((I.2.1.length < 8 ∧ (c' = 0 ∧ r' = (I.2.1.length : Int)) ∧ ins2 = ins.set i (I.1, I.2.1 ++ [(ps, mt, sp)], I.2.2)) ∨ (¬ I.2.1.length < 8 ∧ c' = 2 ∧ ins2 = ins)) := by
      intro c' r' ins2 h'
      rcases h' with ⟨hn, -⟩ | ⟨i', I', ps', mt', sp', hk', hI', ht', h'⟩
      · exact absurd hyes hn
      · obtain ⟨rfl, rfl⟩ := xat_i (hk.symm.trans hk') hI hI'
        obtain ⟨rfl, rfl, rfl⟩ := xRT_uni ht ht'
        exact h'
    rcases h with ⟨e1, e2, e3⟩ | ⟨e1, e2, e3⟩
    · refine ⟨0, (I.2.1.length : Int), Or.inl ⟨e2, rfl⟩, fun c' r' ins2 h' => ?_⟩
      rcases key _ _ _ h' with ⟨-, ⟨g1, g2⟩, g3⟩ | ⟨g1, -⟩
      · exact ⟨g3.trans e3.symm, g1, fun _ => g2⟩
      · exact absurd e1 g1
    · refine ⟨2, 0, Or.inr (Or.inl ⟨e2, rfl⟩), fun c' r' ins2 h' => ?_⟩
      rcases key _ _ _ h' with ⟨g1, -⟩ | ⟨-, g2, g3⟩
      · exact absurd g1 e1
      · exact ⟨g3.trans e3.symm, g2, fun h => absurd h (by decide)⟩
theorem xVD_VO {sl : List Int → Bool} {H : (n : Nat) → xv (n + 1) → xv (n + 1) → List Int → Nat} {T : List Int} {ins : List xI} {hd : Nat → Int} {ev ev' : List Int} {ms ms' : List (Int × List Int)} {k : Int} {o : xb_R} (h : xVD sl H T ins hd ev ms k o ev' ms') : ∃ c r : Int, xOU o c r ∧ ∀ (c' r' : Int) (ev2 : List Int) (ms2 : List (Int × List Int)), xVO sl H T ins hd ev ms k c' r' ev2 ms2 → ev2 = ev' ∧ ms2 = ms' ∧ c' = c ∧ (c = 0 → r' = r) := by
  rcases h with ⟨hn, ho, hi, hj⟩ | ⟨i, I, u, hk, hI, ht, h⟩
  · refine ⟨1, 0, Or.inr (Or.inr ⟨ho, rfl⟩), fun c' r' ev2 ms2 h' => ?_⟩
    rcases h' with ⟨-, e1, e2, e3⟩ | ⟨i, I, t, hk, hI, ht, -⟩
    · exact ⟨e2.trans hi.symm, e3.trans hj.symm, e1, fun h => absurd h (by decide)⟩
    · have := xat_lt hI
      exact absurd ⟨by omega, by omega, t, ht⟩ hn
  · have hlt := xat_lt hI
    have hyes : 0 ≤ k ∧ k < (ins.length : Int) ∧ ∃ t : xv 6, xpv (xe T) 6 0 = some (t, T.length) := ⟨by omega, by omega, u, ht⟩
    have key : ∀ (c' r' : Int) (ev2 : List Int) (ms2 : List (Int × List Int)), xVO sl H T ins hd ev ms k c' r' ev2 ms2 → ((I.2.2.2 = none ∧ c' = 2 ∧ ev2 = ev ∧ ms2 = ms) ∨ ∃ t : xv 6, I.2.2.2 = some t ∧ ev2 = ev ++ xsu hd I.2.2.1 ++ xtd hd (I.2.2.1.take (xsc hd I.2.2.1)) ∧ ((xsc hd I.2.2.1 = I.2.2.1.length ∧ ms2 = xcm sl H I.1 6 t u [] ∧ c' = 0 ∧ r' = ((xcm sl H I.1 6 t u []).length : Int)) ∨ (¬ xsc hd I.2.2.1 = I.2.2.1.length ∧ ms2 = ms ∧ c' = 0 ∧ r' = -3))) := by
      intro c' r' ev2 ms2 h'
      rcases h' with ⟨hn, -⟩ | ⟨i', I', t', hk', hI', ht', h'⟩
      · exact absurd hyes hn
      · obtain ⟨rfl, rfl⟩ := xat_i (hk.symm.trans hk') hI hI'
        have e := ht.symm.trans ht'
        cases e
        exact h'
    rcases h with ⟨e1, e2, e3, e4⟩ | ⟨t, e1, e2, ⟨e3, e4, e5⟩ | ⟨e3, e4, e5⟩⟩
    · refine ⟨2, 0, Or.inr (Or.inl ⟨e2, rfl⟩), fun c' r' ev2 ms2 h' => ?_⟩
      rcases key _ _ _ _ h' with ⟨-, g1, g2, g3⟩ | ⟨t, g1, -⟩
      · exact ⟨g2.trans e3.symm, g3.trans e4.symm, g1, fun h => absurd h (by decide)⟩
      · rw [e1] at g1; cases g1
    · refine ⟨0, ((xcm sl H I.1 6 t u []).length : Int), Or.inl ⟨e5, rfl⟩, fun c' r' ev2 ms2 h' => ?_⟩
      rcases key _ _ _ _ h' with ⟨g1, -⟩ | ⟨t', g1, g2, ⟨g3, g4, g5, g6⟩ | ⟨g3, -⟩⟩
      · rw [e1] at g1; cases g1
      · rw [e1] at g1; cases g1
        exact ⟨g2.trans e2.symm, g4.trans e4.symm, g5, fun _ => g6⟩
      · exact absurd e3 g3
    · refine ⟨0, -3, Or.inl ⟨e5, rfl⟩, fun c' r' ev2 ms2 h' => ?_⟩
      rcases key _ _ _ _ h' with ⟨g1, -⟩ | ⟨t', g1, g2, ⟨g3, -⟩ | ⟨g3, g4, g5, g6⟩⟩
      · rw [e1] at g1; cases g1
      · exact absurd g3 e3
      · exact ⟨g2.trans e2.symm, g4.trans e4.symm, g5, fun _ => g6⟩
/-! The turns of the law -/
/-- what holds behind m calls -/
def yJ (n : Nat) (xs : Nat → Int32) (m : Nat) (A : xb_H) : Prop := ∃ (R : Nat → Nat) (v nv : Nat) (vv : Nat → Nat) (xa : Nat → Nat × Nat × Nat) (ir : Value) (l T : List Int) (ins : List xI) (hd : Nat → Int) (ev : List Int) (ms : List (Int × List Int)) (s : Nat → Int) (t : Nat → Nat → Int), (yDK A R v nv vv xa ir l T ins hd ev ms ∧ A = ym A s t ∧ xJR s t T ins hd ev ms) ∧ (xb_get A 20 = some (.inl (.int, n, .inl xs)) ∧ ∃ f : Nat → Int64, xb_get A 193 = some (.inl (.long, 1, .inr (.inl f)))) ∧ ms.length ≤ 100000 ∧ ev.length ≤ 6 * m ∧ A.1 ≤ 194 + 950 * m ∧ A.2.1 ≤ 14431 + 13100 * m
section JJ
variable {w : Value} {n m : Nat} {xs : Nat → Int32} {A A1 : xb_H} {R : Nat → Nat} {v nv : Nat} {vv : Nat → Nat} {xa : Nat → Nat × Nat × Nat} {ir : Value} {l T : List Int} {ins : List xI} {hd : Nat → Int} {ev : List Int} {ms : List (Int × List Int)} {s s' : Nat → Int} {t t' : Nat → Nat → Int}
theorem yJ_mk (hD : yDK A1 R v nv vv xa ir l T ins hd ev ms) (hc : xb_get A1 20 = some (.inl (.int, n, .inl xs)) ∧ ∃ f : Nat → Int64, xb_get A1 193 = some (.inl (.long, 1, .inr (.inl f)))) (hb : A1.1 ≤ 194 + 950 * (m + 1) ∧ A1.2.1 ≤ 14431 + 13100 * (m + 1)) (hR : xJR s' t' T ins hd ev ms) (hms : ms.length ≤ 100000) (hev : ev.length ≤ 6 * (m + 1)) : yJ n xs (m + 1) (ym A1 s' t') := by
  obtain ⟨h20, f, h193⟩ := hc
  refine ⟨R, v, nv, vv, xa, ir, l, T, ins, hd, ev, ms, s', t', ⟨yDK_ym hD s' t', ym_ym.symm, hR⟩, ⟨?_, f, ?_⟩, hms, hev, hb⟩
  · rw [ym_get_else (by omega)]; exact h20
  · rw [ym_get_else (by omega)]; exact h193
theorem yJ_st (h : yJ n xs m A) : yl_st A n xs := by
  obtain ⟨R, v, nv, vv, xa, ir, l, T, ins, hd, ev, ms, s, t, ⟨hD, hA, hR⟩, ⟨h20, -⟩, -⟩ := h
  refine ⟨h20, ⟨_, hD.2.1⟩, ⟨ym_F s, ?_⟩⟩
  rw [hA]
  exact ym_165 hD.1.1
/-- behind the class's call -/
theorem yJ_ke (hD : yDK A R v nv vv xa ir l T ins hd ev ms) (hA : A = ym A s t) (hc : xb_get A 20 = some (.inl (.int, n, .inl xs)) ∧ ∃ f : Nat → Int64, xb_get A 193 = some (.inl (.long, 1, .inr (.inl f)))) (hb : A.1 ≤ 194 + 950 * m ∧ A.2.1 ≤ 14431 + 13100 * m) (hk : yKE A A1 950 13100) (h64 : ∃ fs, xb_get A1 64 = some (.inr (0, fs))) : A1 = ym A1 s t ∧ 194 ≤ A1.1 ∧ yl_st A1 n xs ∧ (xb_get A1 20 = some (.inl (.int, n, .inl xs)) ∧ ∃ f : Nat → Int64, xb_get A1 193 = some (.inl (.long, 1, .inr (.inl f)))) ∧ (A1.1 ≤ 194 + 950 * (m + 1) ∧ A1.2.1 ≤ 14431 + 13100 * (m + 1)) := by
  have h1 := yKE_ym hA hD.1.1 hk
  obtain ⟨h20, f, h193⟩ := hc
  have g20 := hk.2.2 20 _ (by omega) h20
  have g193 := hk.2.2 193 _ (by omega) h193
  have ha := hD.1.1
  have h11 := hk.1
  have h12 := hk.2.1
  refine ⟨h1, by omega, ⟨g20, h64, ⟨ym_F s, ?_⟩⟩, ⟨g20, f, g193⟩, by omega, by omega⟩
  rw [h1]
  exact ym_165 (by omega)
theorem yP_0 {x : Int64} (h : yJ n xs m A) : yl_pair w 11 205 [.long x] A n xs (yJ n xs (m + 1)) := by
  obtain ⟨R, v, nv, vv, xa, ir, l, T, ins, hd, ev, ms, s, t, ⟨hD, hA, hR⟩, hc, hms, hev, hb⟩ := h
  obtain ⟨b, hbb⟩ := mo_bool (xw_fit x (T.length : Int))
  unfold yl_pair
  refine xr_conseq (md_11 (d := 970) hD hbb) ?_
  rintro o A1 ⟨v0, h1, h2, R', v', nv', hD1, hk⟩
  obtain ⟨k1, k2, k3, k4, k5⟩ := yJ_ke hD hA hc hb (yKE_mono hk (by omega) (by omega)) ⟨_, hD1.2.1⟩
  refine ⟨v0, h1, Int32.ofInt b, h2, k3, xr_heap k1 ?_⟩
  have hs2 := hR.1
  refine xr_conseq (mo_205 (d := 1000) (b := b) k2 (by omega) (by rw [hs2.1]; exact hbb)) ?_
  rintro o2 A2 ⟨u, q1, q2, q3⟩
  refine ⟨u, q1, q2, ?_⟩
  rcases hbb with ⟨rfl, hf⟩ | ⟨rfl, hf⟩
  · rw [if_pos rfl] at q3 hD1
    rw [q3]
    obtain ⟨mm, e1, e2⟩ := hf
    obtain ⟨f1, f2, f3⟩ := xw_scan_chars x 8 0 mm e1
    exact yJ_mk hD1 k4 k5 (xJR_write hR f2 (by omega)) hms (by omega)
  · rw [if_neg (by decide)] at q3 hD1
    rw [q3]
    exact yJ_mk hD1 k4 k5 (xJR_0 hR 0) hms (by omega)
theorem yP_8 (h : yJ n xs m A) : yl_pair w 91 256 [] A n xs (yJ n xs (m + 1)) := by
  obtain ⟨R, v, nv, vv, xa, ir, l, T, ins, hd, ev, ms, s, t, ⟨hD, hA, hR⟩, hc, hms, hev, hb⟩ := h
  unfold yl_pair
  refine xr_conseq (md_91 (d := 970) hD hms) ?_
  rintro o A1 ⟨v0, h1, h2, h3⟩
  rw [h3]
  obtain ⟨k1, k2, k3, k4, k5⟩ := yJ_ke hD hA hc hb (yKE_refl A 950 13100) ⟨_, hD.2.1⟩
  refine ⟨v0, h1, _, h2, k3, xr_heap k1 ?_⟩
  have h13 := hR.2.2.2.2.2.2.1.1
  have hx : xmn ms ≤ 30 := Nat.min_le_left _ _
  refine xr_conseq (mo_256 (d := 1000) k2 (by omega)) ?_
  rintro o2 A2 ⟨u, q1, q2, q3⟩
  refine ⟨u, q1, by rw [q2, h13], ?_⟩
  rw [q3]
  exact yJ_mk hD k4 k5 (xJR_0 hR 0) hms (by omega)
theorem yP_9 {k : Int} (hk : -2147483648 ≤ k ∧ k ≤ 2147483647) (h : yJ n xs m A) : yl_pair w 93 257 [.int (Int32.ofInt k)] A n xs (yJ n xs (m + 1)) := by
  obtain ⟨R, v, nv, vv, xa, ir, l, T, ins, hd, ev, ms, s, t, ⟨hD, hA, hR⟩, hc, hms, hev, hb⟩ := h
  unfold yl_pair
  refine xr_conseq (md_93 (d := 970) hD hk hms) ?_
  rintro o A1 ⟨v0, h1, r, ⟨h2, h3⟩, hr⟩
  rw [h3]
  obtain ⟨k1, k2, k3, k4, k5⟩ := yJ_ke hD hA hc hb (yKE_refl A 950 13100) ⟨_, hD.2.1⟩
  refine ⟨v0, h1, _, h2, k3, xr_heap k1 ?_⟩
  have h13 := hR.2.2.2.2.2.2.1
  have hx : xmn ms ≤ 30 := Nat.min_le_left _ _
  refine xr_conseq (mo_257 (d := 1000) k2 hk (by omega)) ?_
  rintro o2 A2 ⟨u, q1, q2, q3⟩
  refine ⟨u, q1, ?_, ?_⟩
  · rw [q2]
    congr 3
    rcases hr with ⟨g1, g2⟩ | ⟨g1, e, g2, g3⟩
    · rw [if_neg (by rw [h13.1]; exact g1), g2]
    · rw [if_pos (by rw [h13.1]; exact g1), (h13.2 k.toNat e (by omega) g2).1, g3]
  · rw [q3]
    exact yJ_mk hD k4 k5 (xJR_0 hR 0) hms (by omega)
theorem yP_10 {k z : Int} (hw : w = .null ∨ w = .ref 19) (hk : -2147483648 ≤ k ∧ k ≤ 2147483647) (hz : -2147483648 ≤ z ∧ z ≤ 2147483647) (h : yJ n xs m A) : yl_pair w 96 258 [.int (Int32.ofInt k), .int (Int32.ofInt z)] A n xs (yJ n xs (m + 1)) := by
  obtain ⟨R, v, nv, vv, xa, ir, l, T, ins, hd, ev, ms, s, t, ⟨hD, hA, hR⟩, hc, hms, hev, hb⟩ := h
  unfold yl_pair
  refine xr_conseq (md_96 (d := 970) hw hD hk hz hms) ?_
  rintro o A1 ⟨v0, h1, r, ⟨h2, h3⟩, hr⟩
  rw [h3]
  obtain ⟨k1, k2, k3, k4, k5⟩ := yJ_ke hD hA hc hb (yKE_refl A 950 13100) ⟨_, hD.2.1⟩
  refine ⟨v0, h1, _, h2, k3, xr_heap k1 ?_⟩
  have h13 := hR.2.2.2.2.2.2.1
  have hx : xmn ms ≤ 30 := Nat.min_le_left _ _
  refine xr_conseq (mo_258 (d := 1000) k2 hk hz (by omega) hR.2.2.2.2.2.2.2.2) ?_
  rintro o2 A2 ⟨u, q1, q2, q3⟩
  refine ⟨u, q1, ?_, ?_⟩
  · rw [q2]
    congr 3
    rcases hr with ⟨g1, g2⟩ | ⟨g1, e, g2, g3⟩
    · rw [if_neg (fun h => g1 (by rw [h13.1] at h; exact h.1)), g2]
    · obtain ⟨-, f2, f3⟩ := h13.2 k.toNat e (by omega) g2
      rw [f2, h13.1, g3]
      by_cases hzz : 0 ≤ z ∧ z < ((36 :: xwP e.2).length : Int)
      · rw [if_pos ⟨g1, hzz⟩, if_pos hzz, show (24 * k + z).toNat = 24 * k.toNat + z.toNat by omega]
        exact f3 z.toNat (by omega)
      · rw [if_neg (fun h => hzz h.2), if_neg hzz]
  · rw [q3]
    exact yJ_mk hD k4 k5 (xJR_0 hR 0) hms (by omega)
theorem yP_11 {k : Int} (hk : -2147483648 ≤ k ∧ k ≤ 2147483647) (h : yJ n xs m A) (hm : m ≤ 511) : yl_pair w 100 259 [.int (Int32.ofInt k)] A n xs (yJ n xs (m + 1)) := by
  obtain ⟨R, v, nv, vv, xa, ir, l, T, ins, hd, ev, ms, s, t, ⟨hD, hA, hR⟩, hc, hms, hev, hb⟩ := h
  have h11 := hR.2.2.2.2.2.1
  have hr : ∃ r : Int, ((k = -1 ∧ r = (ev.length : Int)) ∨ (¬ k = -1 ∧ (0 ≤ k ∧ k < (ev.length : Int)) ∧ r = ev.getD k.toNat 0) ∨ (¬ k = -1 ∧ ¬ (0 ≤ k ∧ k < (ev.length : Int)) ∧ r = -1)) ∧ (if k = -1 then s 11 else if 0 ≤ k ∧ k < s 11 then t 174 k.toNat else -1) = r := by
    by_cases e1 : k = -1
    · exact ⟨_, Or.inl ⟨e1, rfl⟩, by rw [if_pos e1]; exact h11.1⟩
    · by_cases e2 : 0 ≤ k ∧ k < (ev.length : Int)
      · exact ⟨_, Or.inr (Or.inl ⟨e1, e2, rfl⟩), by rw [if_neg e1, h11.1, if_pos e2]; exact h11.2.2 k.toNat (by omega)⟩
      · exact ⟨_, Or.inr (Or.inr ⟨e1, e2, rfl⟩), by rw [if_neg e1, h11.1, if_neg e2]⟩
  obtain ⟨r, hr1, hr2⟩ := hr
  unfold yl_pair
  refine xr_conseq (md_100 (d := 970) hD hk hr1) ?_
  rintro o A1 ⟨v0, h1, h2, h3⟩
  rw [h3]
  obtain ⟨k1, k2, k3, k4, k5⟩ := yJ_ke hD hA hc hb (yKE_refl A 950 13100) ⟨_, hD.2.1⟩
  refine ⟨v0, h1, _, h2, k3, xr_heap k1 ?_⟩
  refine xr_conseq (mo_259 (d := 1000) k2 hk (by omega)) ?_
  rintro o2 A2 ⟨u, q1, q2, q3⟩
  refine ⟨u, q1, by rw [q2, hr2], ?_⟩
  rw [q3]
  exact yJ_mk hD k4 k5 (xJR_0 hR 0) hms (by omega)
theorem yP_5 {k z : Int} (hk : -2147483648 ≤ k ∧ k ≤ 2147483647) (hz : -2147483648 ≤ z ∧ z ≤ 2147483647) (h : yJ n xs m A) : yl_pair w 43 226 [.int (Int32.ofInt k), .int (Int32.ofInt z)] A n xs (yJ n xs (m + 1)) := by
  obtain ⟨R, v, nv, vv, xa, ir, l, T, ins, hd, ev, ms, s, t, ⟨hD, hA, hR⟩, hc, hms, hev, hb⟩ := h
  obtain ⟨b, hbb⟩ := mo_bool ((0 ≤ k ∧ k ≤ 5) ∧ 0 ≤ z ∧ z ≤ 3)
  unfold yl_pair
  refine xr_conseq (md_43 (d := 970) hD hk hz hbb) ?_
  rintro o A1 ⟨v0, h1, h2, hD1, hke⟩
  obtain ⟨k1, k2, k3, k4, k5⟩ := yJ_ke hD hA hc hb (yKE_mono hke (by omega) (by omega)) ⟨_, hD1.2.1⟩
  refine ⟨v0, h1, Int32.ofInt b, h2, k3, xr_heap k1 ?_⟩
  refine xr_conseq (mo_226 (d := 1000) (b := b) k2 hk hz hbb) ?_
  rintro o2 A2 ⟨u, q1, q2, q3⟩
  refine ⟨u, q1, q2, ?_⟩
  rcases hbb with ⟨rfl, hf⟩ | ⟨rfl, hf⟩
  · rw [if_pos rfl] at q3 hD1
    rw [q3]
    exact yJ_mk hD1 k4 k5 (xJR_hd (xJR_0 hR 0) (by omega) hf.2) hms (by omega)
  · rw [if_neg (by decide)] at q3 hD1
    rw [q3]
    exact yJ_mk hD1 k4 k5 (xJR_0 hR 0) hms (by omega)
theorem xSD_uni {k b b' : Int} (h : xSD T ins k b) (h' : xSD T ins k b') : b = b' := by
  rcases h with ⟨hn, h⟩ | ⟨i, I, l, hk, hI, hl, h⟩
  · rcases h' with ⟨-, h'⟩ | ⟨i, I, l, hk, hI, hl, -⟩
    · rw [h, h']
    · have := xat_lt hI
      exact absurd ⟨by omega, by omega, l, hl⟩ hn
  · have hlt := xat_lt hI
    rcases h' with ⟨hn, -⟩ | ⟨i', I', l', hk', hI', hl', h'⟩
    · exact absurd ⟨by omega, by omega, l, hl⟩ hn
    · obtain ⟨rfl, rfl⟩ := xat_i (hk.symm.trans hk') hI hI'
      have e := hl.2.symm.trans hl'.2
      cases e
      exact xBS_uni _ _ _ _ _ h h'
theorem yP_6 {k : Int} (hw : w = .null ∨ w = .ref 19) (hk : -2147483648 ≤ k ∧ k ≤ 2147483647) (h : yJ n xs m A) : yl_pair w 45 232 [.int (Int32.ofInt k)] A n xs (yJ n xs (m + 1)) := by
  obtain ⟨R, v, nv, vv, xa, ir, l, T, ins, hd, ev, ms, s, t, ⟨hD, hA, hR⟩, hc, hms, hev, hb⟩ := h
  unfold yl_pair
  refine xr_conseq (md_45 (d := 970) hw hD hk) ?_
  rintro o A1 ⟨v0, h1, b, h2, hsd, hD1, hke⟩
  obtain ⟨k1, k2, k3, k4, k5⟩ := yJ_ke hD hA hc hb (yKE_mono hke (by omega) (by omega)) ⟨_, hD1.2.1⟩
  refine ⟨v0, h1, Int32.ofInt b, h2, k3, xr_heap k1 ?_⟩
  refine xr_conseq (mo_232 (d := 996) k2 hR hk) ?_
  rintro o2 A2 ⟨u, q1, r, s', t', q2, q3, q4, q5⟩
  refine ⟨u, q1, by rw [q2, xSD_uni hsd q5], ?_⟩
  rw [q3]
  exact yJ_mk hD1 k4 k5 q4 hms (by omega)
theorem xND_cn {k z b : Int} {ins' : List xI} (h : xND ins k z b ins') (hR : xJR s t T ins hd ev ms) : (b = 1 ∧ mo_cn s t k z) ∨ (b = 0 ∧ ¬ mo_cn s t k z) := by
  have h3 := hR.2.1.1
  have hl4 := hR.2.1.2
  have key : ∀ (i : Nat) (I : xI), ins[i]? = some I → (mo_cn s t (i : Int) z ↔ ((0 ≤ z ∧ z ≤ 5) ∧ I.2.2.1.length < 3 ∧ ¬ z ∈ I.2.2.1)) := by
    intro i I hI
    have hlt := xat_lt hI
    obtain ⟨-, -, ⟨i3, i4, i5⟩, -⟩ := hR.2.2.1 i I hI
    unfold mo_cn
    rw [Int.toNat_natCast, i3, show (3 * (i : Int) + 0).toNat = 3 * i + 0 by omega, show (3 * (i : Int) + (0 + 1)).toNat = 3 * i + 1 by omega]
    obtain ⟨ns, hns⟩ : ∃ ns, I.2.2.1 = ns := ⟨_, rfl⟩
    rw [hns] at i3 i4 i5 ⊢
    match ns with
    | [] =>
      rw [List.length_nil]
      exact ⟨fun h => ⟨h.2.1, by omega, List.not_mem_nil⟩, fun h => ⟨by omega, h.1, by omega, fun h => by omega, fun h => by omega⟩⟩
    | [a] =>
      have e0 := i5 0 (Nat.succ_pos _)
      rw [e0]
      show _ ↔ _ ∧ 1 < 3 ∧ ¬ z ∈ [a]
      rw [List.mem_singleton]
      show (_ ∧ _ ∧ ((1 : Nat) : Int) ≤ 2 ∧ ¬ (0 < ((1 : Nat) : Int) ∧ a = z) ∧ ¬ (1 < ((1 : Nat) : Int) ∧ _)) ↔ _
      exact ⟨fun h => ⟨h.2.1, by omega, fun e => h.2.2.2.1 ⟨by omega, e.symm⟩⟩, fun h => ⟨by omega, h.1, by omega, fun e => h.2.2 e.2.symm, fun e => by omega⟩⟩
    | [a, c] =>
      have e0 := i5 0 (Nat.succ_pos _)
      have e1 := i5 1 (Nat.succ_lt_succ (Nat.succ_pos _))
      rw [e0, e1]
      show (_ ∧ _ ∧ ((2 : Nat) : Int) ≤ 2 ∧ ¬ (0 < ((2 : Nat) : Int) ∧ a = z) ∧ ¬ (1 < ((2 : Nat) : Int) ∧ c = z)) ↔ _ ∧ 2 < 3 ∧ ¬ z ∈ [a, c]
      rw [List.mem_cons, List.mem_singleton]
      exact ⟨fun h => ⟨h.2.1, by omega, fun e => e.elim (fun e => h.2.2.2.1 ⟨by omega, e.symm⟩) (fun e => h.2.2.2.2 ⟨by omega, e.symm⟩)⟩, fun h => ⟨by omega, h.1, by omega, fun e => h.2.2 (Or.inl e.2.symm), fun e => h.2.2 (Or.inr e.2.symm)⟩⟩
    | a :: c :: e :: r =>
      rw [List.length_cons, List.length_cons, List.length_cons]
      exact ⟨fun h => by omega, fun h => by omega⟩
  rcases h with ⟨rfl, -, hn⟩ | ⟨i, I, rfl, rfl, hI, hz, hl, -⟩
  · refine Or.inr ⟨rfl, fun hcn => hn ?_⟩
    have h1 := hcn.1
    obtain ⟨i, hi⟩ : ∃ i : Nat, k = (i : Int) := ⟨k.toNat, by omega⟩
    obtain ⟨I, hI⟩ : ∃ I, ins[i]? = some I := ⟨_, List.getElem?_eq_getElem (show i < ins.length by omega)⟩
    rw [hi] at hcn
    exact ⟨i, I, hi, hI, (key i I hI).mp hcn⟩
  · exact Or.inl ⟨rfl, (key i I hI).mpr ⟨hz, hl⟩⟩
theorem yP_4 {k z : Int} (hk : -2147483648 ≤ k ∧ k ≤ 2147483647) (hz : -2147483648 ≤ z ∧ z ≤ 2147483647) (h : yJ n xs m A) : yl_pair w 38 225 [.int (Int32.ofInt k), .int (Int32.ofInt z)] A n xs (yJ n xs (m + 1)) := by
  obtain ⟨R, v, nv, vv, xa, ir, l, T, ins, hd, ev, ms, s, t, ⟨hD, hA, hR⟩, hc, hms, hev, hb⟩ := h
  unfold yl_pair
  refine xr_conseq (md_38 (d := 970) hD hk hz) ?_
  rintro o A1 ⟨v0, h1, b, ins', h2, hnd, hD1, hke⟩
  obtain ⟨k1, k2, k3, k4, k5⟩ := yJ_ke hD hA hc hb (yKE_mono hke (by omega) (by omega)) ⟨_, hD1.2.1⟩
  refine ⟨v0, h1, Int32.ofInt b, h2, k3, xr_heap k1 ?_⟩
  have h3 := hR.2.1
  have hnc : ∀ j : Nat, j < 4 → 0 ≤ t 171 j ∧ t 171 j ≤ 3 := by
    intro j hj
    by_cases hjl : j < ins.length
    · obtain ⟨-, -, ⟨i3, i4, -⟩, -⟩ := hR.2.2.1 j _ (List.getElem?_eq_getElem hjl)
      omega
    · have := hR.2.2.2.1 j (by omega) hj
      omega
  refine xr_conseq (mo_225 (d := 999) (b := b) k2 hk hz (by omega) hnc hR.2.2.2.2.2.2.2.1 (xND_cn hnd hR)) ?_
  rintro o2 A2 ⟨u, q1, q2, q3⟩
  refine ⟨u, q1, q2, ?_⟩
  rcases hnd with ⟨rfl, rfl, -⟩ | ⟨i, I, rfl, rfl, hI, hz5, hl, rfl⟩
  · rw [if_neg (by decide)] at q3
    rw [q3]
    exact yJ_mk hD1 k4 k5 (xJR_0 hR 0) hms (by omega)
  · rw [if_pos rfl, Int.toNat_natCast] at q3
    rw [q3]
    exact yJ_mk hD1 k4 k5 (xJR_needs rfl hR hI hz5 hl.1) hms (by omega)
end JJ
/-! The turns that may throw -/
theorem xBS_ex (ps : List (List Int)) (l : List Int) : ∀ i : Nat, ∃ b : Int, xBS ps l i b := by
  intro i
  induction i with
  | zero => exact ⟨-1, rfl⟩
  | succ i ih =>
    obtain ⟨b0, h0⟩ := ih
    by_cases c : xft (ps.getD i []) l ∧ (b0 = -1 ∨ xork (ps.getD i []) (ps.getD b0.toNat []))
    · exact ⟨(i : Int), b0, h0, Or.inl ⟨c, rfl⟩⟩
    · exact ⟨b0, b0, h0, Or.inr ⟨c, rfl⟩⟩
theorem xSL_ex (rs : List (List Int × List (Int × Int × List Int) × Int)) : ∃ sl : List Int → Bool, xSL rs sl := by
  have hb : ∀ l : List Int, ∃ y : Bool, ∃ b : Int, xBS (rs.map fun r => r.1) l rs.length b ∧ (y = true ↔ ¬ b = -1) := by
    intro l
    obtain ⟨b, h⟩ := xBS_ex (rs.map fun r => r.1) l rs.length
    exact ⟨decide (¬ b = -1), b, h, decide_eq_true_iff⟩
  exact ⟨fun l => Classical.choose (hb l), fun l => Classical.choose_spec (hb l)⟩
theorem xHO_ex (rs : List (List Int × List (Int × Int × List Int) × Int)) : ∃ H : (n : Nat) → xv (n + 1) → xv (n + 1) → List Int → Nat, xHO rs H := by
  have hex : ∀ (n : Nat) (t u : xv (n + 1)) (l : List Int), ∃ h : Nat, ∀ b : Int, xBS (rs.map fun r => r.1) l rs.length b → (b = -1 → (h = 0 ∨ h = 1) ∧ (h = 1 ↔ (xv_k t = xv_k u ∧ xv_l t = xv_l u))) ∧ ∀ r, 0 ≤ b → rs[b.toNat]? = some r → (h = 0 ∨ h = 1 ∨ h = 3) ∧ (¬ h = 0 ↔ xRH n r.2.1 r.2.2 t u) ∧ (¬ h = 0 → (h = 3 ↔ ∃ m ∈ r.2.1, xlo m)) := by
    intro n t u l
    obtain ⟨b, hb⟩ := xBS_ex (rs.map fun r => r.1) l rs.length
    by_cases e : b = -1
    · by_cases c : xv_k t = xv_k u ∧ xv_l t = xv_l u
      · refine ⟨1, fun b' hb' => ?_⟩
        obtain rfl := xBS_uni _ _ _ _ _ hb hb'
        exact ⟨fun _ => ⟨Or.inr rfl, fun _ => c, fun _ => rfl⟩, fun r h0 => by omega⟩
      · refine ⟨0, fun b' hb' => ?_⟩
        obtain rfl := xBS_uni _ _ _ _ _ hb hb'
        exact ⟨fun _ => ⟨Or.inl rfl, fun h => absurd h (by decide), fun h => absurd h c⟩, fun r h0 => by omega⟩
    · cases hr : rs[b.toNat]? with
      | none =>
        refine ⟨0, fun b' hb' => ?_⟩
        obtain rfl := xBS_uni _ _ _ _ _ hb hb'
        exact ⟨fun h => absurd h e, fun r _ h => by rw [hr] at h; cases h⟩
      | some r0 =>
        by_cases c1 : xRH n r0.2.1 r0.2.2 t u
        · by_cases c2 : ∃ m ∈ r0.2.1, xlo m
          · refine ⟨3, fun b' hb' => ?_⟩
            obtain rfl := xBS_uni _ _ _ _ _ hb hb'
            refine ⟨fun h => absurd h e, fun r _ h => ?_⟩
            rw [hr] at h
            cases h
            exact ⟨Or.inr (Or.inr rfl), ⟨fun _ => c1, fun _ => by decide⟩, fun _ => ⟨fun _ => c2, fun _ => rfl⟩⟩
          · refine ⟨1, fun b' hb' => ?_⟩
            obtain rfl := xBS_uni _ _ _ _ _ hb hb'
            refine ⟨fun h => absurd h e, fun r _ h => ?_⟩
            rw [hr] at h
            cases h
            exact ⟨Or.inr (Or.inl rfl), ⟨fun _ => c1, fun _ => by decide⟩, fun _ => ⟨fun h => absurd h (by decide), fun h => absurd h c2⟩⟩
        · refine ⟨0, fun b' hb' => ?_⟩
          obtain rfl := xBS_uni _ _ _ _ _ hb hb'
          refine ⟨fun h => absurd h e, fun r _ h => ?_⟩
          rw [hr] at h
          cases h
          exact ⟨Or.inl rfl, ⟨fun h => absurd rfl h, fun h => absurd h c1⟩, fun h => absurd rfl h⟩
  exact ⟨fun n t u l => Classical.choose (hex n t u l), fun n t u l b hb => Classical.choose_spec (hex n t u l) b hb⟩
theorem xO_ex (ins : List xI) (k : Int) : ∃ (sl : List Int → Bool) (H : (n : Nat) → xv (n + 1) → xv (n + 1) → List Int → Nat), ∀ (i : Nat) (I : xI), k = (i : Int) → ins[i]? = some I → xSL I.2.1 sl ∧ xHO I.2.1 H := by
  cases hg : ins[k.toNat]? with
  | none =>
    refine ⟨fun _ => false, fun _ _ _ _ => 0, fun i I e hI => ?_⟩
    rw [e, Int.toNat_natCast, hI] at hg
    cases hg
  | some I0 =>
    obtain ⟨sl, h1⟩ := xSL_ex I0.2.1
    obtain ⟨H, h2⟩ := xHO_ex I0.2.1
    refine ⟨sl, H, fun i I e hI => ?_⟩
    rw [e, Int.toNat_natCast, hI] at hg
    cases hg
    exact ⟨h1, h2⟩
theorem yg_int (x : Int32) : ∃ k : Int, (-2147483648 ≤ k ∧ k ≤ 2147483647) ∧ x = Int32.ofInt k := by
  refine ⟨x.toInt, ⟨?_, ?_⟩, (Int32.ofInt_toInt x).symm⟩
  · exact Int32.le_toInt x
  · have := Int32.toInt_lt x
    omega
section JT
variable {w : Value} {n m : Nat} {xs : Nat → Int32} {A A1 : xb_H} {R : Nat → Nat} {v nv : Nat} {vv : Nat → Nat} {xa : Nat → Nat × Nat × Nat} {ir : Value} {l T : List Int} {ins : List xI} {hd : Nat → Int} {ev : List Int} {ms : List (Int × List Int)} {s s' : Nat → Int} {t t' : Nat → Nat → Int}
theorem yT_mk {two : Bool} {ymm : Nat} {x : Int32} {o : xb_R} {c r : Int} (hD1 : yDK A1 R v nv vv xa ir l T ins hd ev ms) (k1 : A1 = ym A1 s t) (k2 : 194 ≤ A1.1) (k3 : yl_st A1 n xs) (k4 : xb_get A1 20 = some (.inl (.int, n, .inl xs)) ∧ ∃ f : Nat → Int64, xb_get A1 193 = some (.inl (.long, 1, .inr (.inl f)))) (k5 : A1.1 ≤ 194 + 950 * (m + 1) ∧ A1.2.1 ≤ 14431 + 13100 * (m + 1)) (hms : ms.length ≤ 100000) (hev : ev.length ≤ 6 * (m + 1)) (ho : (o = .inl (some (.int (Int32.ofInt r))) ∧ c = 0) ∨ (o = .inr 0 ∧ c = (if two = true then 2 else 1)) ∨ (o = .inr 1 ∧ two = true ∧ c = 1)) (hm : ∀ A' : xb_H, 194 ≤ A'.1 → xr_ok (xt_G w) xl_d ymm 0 (lv_args 0 [.ref 165, .int x]) [] (ym A' s t) (fun o2 A2 => ∃ u, o2 = .inl u ∧ ∃ (r' : Int) (s' : Nat → Int) (t' : Nat → Nat → Int), (u = some (.int (Int32.ofInt r')) ∧ A2 = ym A' s' t') ∧ xJR s' t' T ins hd ev ms ∧ s' 0 = c ∧ (c = 0 → r' = r))) : ∃ v A', xp_res two 193 o A1 v A' ∧ yl_K w ymm x n xs (yJ n xs (m + 1)) v A' := by
  have k4' := k4
  obtain ⟨h20, f, h193⟩ := k4
  rcases ho with ⟨ho, hc⟩ | ⟨ho, hc⟩ | ⟨ho, h2, hc⟩
  · obtain ⟨O, eO⟩ : ∃ O : xb_O, O = .inl (.long, 1, .inr (.inl (va_up f 0 (Int32.ofInt r).toInt64))) := ⟨_, rfl⟩
    obtain ⟨A3, e3⟩ : ∃ A3, xb_set A1 193 O = A3 := ⟨_, rfl⟩
    have g193 : xb_get A3 193 = some O := xr_mv e3 (xb_get_set_same h193)
    have g20 : xb_get A3 20 = some (.inl (.int, n, .inl xs)) := xr_mv e3 (xb_get_set_ne h193 h20 (by decide))
    have fr : yfr A1 A3 [193] 0 0 := yfr_mv e3 (yfr_set h193 (by decide) 0 0)
    have hD3 := yDK_out hD1 fr (fun y hy => by rw [List.mem_singleton] at hy; omega)
    have e1 : A3 = ym A3 s t := by
      have h := ym_set_else (A := A1) (s := s) (t := t) (x := 193) (o := O) (Or.inr (Nat.le_refl _))
      rw [← k1, e3] at h
      exact h
    have n3 : 194 ≤ A3.1 := hD3.1.1
    have f1 := fr.1
    have f2 := fr.2.1
    rw [eO] at g193 e3
    refine ⟨0, A3, Or.inl ⟨Int32.ofInt r, 1, f, ho, h193, by omega, by decide, rfl, e3.symm⟩, ⟨g20, ⟨_, hD3.2.1⟩, ⟨ym_F s, by rw [e1]; exact ym_165 n3⟩⟩, xr_heap e1 (xr_conseq (hm A3 n3) ?_)⟩
    rintro o2 A2 ⟨u, q1, r', s', t', ⟨q2, q3⟩, q4, q5, q6⟩
    refine ⟨u, q1, Int32.ofInt r', q2, ⟨ym_F s', by rw [q3]; exact ym_165 n3, ?_⟩, fun _ => ⟨va_up f 0 (Int32.ofInt r).toInt64, by rw [q3, ym_get_else (by omega)]; exact g193, ?_⟩, ?_⟩
    · show some (Value.int (Int32.ofInt (s' 0))) = some (Value.int 0)
      rw [q5, hc]
      rfl
    · rw [ya_up_same, q6 hc]
    · rw [q3]
      exact yJ_mk hD3 ⟨g20, _, g193⟩ (by omega) q4 hms hev
  · refine ⟨Int32.ofInt (if two = true then 2 else 1), A1, Or.inr (Or.inl ⟨ho, rfl, rfl⟩), k3, xr_heap k1 (xr_conseq (hm A1 k2) ?_)⟩
    rintro o2 A2 ⟨u, q1, r', s', t', ⟨q2, q3⟩, q4, q5, q6⟩
    refine ⟨u, q1, Int32.ofInt r', q2, ⟨ym_F s', by rw [q3]; exact ym_165 k2, ?_⟩, fun hv => absurd hv (by cases two <;> decide), by rw [q3]; exact yJ_mk hD1 k4' k5 q4 hms hev⟩
    show some (Value.int (Int32.ofInt (s' 0))) = _
    rw [q5, hc]
  · refine ⟨Int32.ofInt 1, A1, Or.inr (Or.inr ⟨ho, h2, rfl, rfl⟩), k3, xr_heap k1 (xr_conseq (hm A1 k2) ?_)⟩
    rintro o2 A2 ⟨u, q1, r', s', t', ⟨q2, q3⟩, q4, q5, q6⟩
    refine ⟨u, q1, Int32.ofInt r', q2, ⟨ym_F s', by rw [q3]; exact ym_165 k2, ?_⟩, fun hv => absurd hv (by decide), by rw [q3]; exact yJ_mk hD1 k4' k5 q4 hms hev⟩
    show some (Value.int (Int32.ofInt (s' 0))) = _
    rw [q5, hc]
theorem xOU_two {o : xb_R} {c r : Int} (h : xOU o c r) : (o = .inl (some (.int (Int32.ofInt r))) ∧ c = 0) ∨ (o = .inr 0 ∧ c = (if true = true then 2 else 1)) ∨ (o = .inr 1 ∧ true = true ∧ c = 1) := by
  rcases h with h | h | ⟨h1, h2⟩
  · exact Or.inl h
  · exact Or.inr (Or.inl h)
  · exact Or.inr (Or.inr ⟨h1, rfl, h2⟩)
theorem yP_2 {k : Int} (hw : w = .null ∨ w = .ref 19) (hk : -2147483648 ≤ k ∧ k ≤ 2147483647) (h : yJ n xs m A) : yl_pairT w true 109 207 (Int32.ofInt k) A n xs (yJ n xs (m + 1)) := by
  obtain ⟨R, v, nv, vv, xa, ir, l, T, ins, hd, ev, ms, s, t, ⟨hD, hA, hR⟩, hc, hms, hev, hb⟩ := h
  unfold yl_pairT
  refine xr_conseq (md_109 (d := 970) hw hD hk) ?_
  rintro o A1 ⟨ins', hbd, hD1, hke⟩
  obtain ⟨k1, k2, k3, k4, k5⟩ := yJ_ke hD hA hc hb (yKE_mono hke (by omega) (by omega)) ⟨_, hD1.2.1⟩
  obtain ⟨c, r, ho, hcp⟩ := xBD_BO hbd
  refine yT_mk (c := c) (r := r) hD1 k1 k2 k3 k4 k5 hms (by omega) (xOU_two ho) (fun A' hA' => xr_conseq (mo_207 (d := 994) hA' hR hk) ?_)
  rintro o2 A2 ⟨u, q1, r', s', t', ins2, q2, q3, q4, q5⟩
  obtain ⟨e1, e2, e3⟩ := hcp _ _ _ q5
  rw [e1] at q4
  exact ⟨u, q1, r', s', t', ⟨q2, q3⟩, q4, e2, e3⟩
theorem yP_3 {k : Int} (hw : w = .null ∨ w = .ref 19) (hk : -2147483648 ≤ k ∧ k ≤ 2147483647) (h : yJ n xs m A) : yl_pairT w true 152 227 (Int32.ofInt k) A n xs (yJ n xs (m + 1)) := by
  obtain ⟨R, v, nv, vv, xa, ir, l, T, ins, hd, ev, ms, s, t, ⟨hD, hA, hR⟩, hc, hms, hev, hb⟩ := h
  unfold yl_pairT
  refine xr_conseq (md_152 (d := 970) hw hD hk) ?_
  rintro o A1 ⟨ins', hbd, hD1, hke⟩
  obtain ⟨k1, k2, k3, k4, k5⟩ := yJ_ke hD hA hc hb (yKE_mono hke (by omega) (by omega)) ⟨_, hD1.2.1⟩
  obtain ⟨c, r, ho, hcp⟩ := xRD_RO hbd
  refine yT_mk (c := c) (r := r) hD1 k1 k2 k3 k4 k5 hms (by omega) (xOU_two ho) (fun A' hA' => xr_conseq (mo_227 (d := 994) hA' hR hk) ?_)
  rintro o2 A2 ⟨u, q1, r', s', t', ins2, q2, q3, q4, q5⟩
  obtain ⟨e1, e2, e3⟩ := hcp _ _ _ q5
  rw [e1] at q4
  exact ⟨u, q1, r', s', t', ⟨q2, q3⟩, q4, e2, e3⟩
theorem yP_1 {x : Int} (hx : 0 ≤ x ∧ x ≤ 1) (h : yJ n xs m A) : yl_pairT w false 103 206 (Int32.ofInt x) A n xs (yJ n xs (m + 1)) := by
  obtain ⟨R, v, nv, vv, xa, ir, l, T, ins, hd, ev, ms, s, t, ⟨hD, hA, hR⟩, hc, hms, hev, hb⟩ := h
  have h3 := hR.2.1
  unfold yl_pairT
  by_cases hl : ins.length ≤ 3
  · refine xr_conseq (md_103 (d := 970) hD hl hx) ?_
    rintro o A1 ⟨ho, R', xa', hD1, hke⟩
    obtain ⟨k1, k2, k3, k4, k5⟩ := yJ_ke hD hA hc hb (yKE_mono hke (by omega) (by omega)) ⟨_, hD1.2.1⟩
    refine yT_mk (c := 0) (r := (ins.length : Int)) hD1 k1 k2 k3 k4 k5 hms (by omega) (Or.inl ⟨ho, rfl⟩) (fun A' hA' => xr_conseq (mo_206 (d := 1000) hA' hx (by omega)) ?_)
    rintro o2 A2 ⟨u, q1, q2, q3⟩
    exact ⟨u, q1, s 3, _, _, ⟨q2, q3⟩, xJR_make hR hx hl, by rw [ya_up_ne _ _ (by omega), ya_up_same], fun _ => h3.1⟩
  · refine xr_conseq (md_103t (d := 970) hD (by omega)) ?_
    rintro o A1 ⟨ho, hD1, hke⟩
    obtain ⟨k1, k2, k3, k4, k5⟩ := yJ_ke hD hA hc hb (yKE_mono hke (by omega) (by omega)) ⟨_, hD1.2.1⟩
    refine yT_mk (c := 1) (r := 0) hD1 k1 k2 k3 k4 k5 hms (by omega) (Or.inr (Or.inl ⟨ho, rfl⟩)) (fun A' hA' => xr_conseq (mo_206a (d := 1000) hA' hx (by omega)) ?_)
    rintro o2 A2 ⟨u, q1, q2, q3⟩
    exact ⟨u, q1, 0, _, _, ⟨q2, q3⟩, xJR_0 hR 1, ya_up_same _ _ _, fun h => absurd h (by decide)⟩
theorem xcm_100 {sl : List Int → Bool} {H : (n : Nat) → xv (n + 1) → xv (n + 1) → List Int → Nat} {st : Int} {i : Nat} {I : xI} {tt u : xv 6} (hR : xJR s t T ins hd ev ms) (hI : ins[i]? = some I) (ht : I.2.2.2 = some tt) (hu : xpv (xe T) 6 0 = some (u, T.length)) : (xcm sl H st 6 tt u []).length ≤ 1000 := by
  have hbr := (hR.2.2.1 i I hI).2.2.2.2.1 tt ht
  obtain ⟨z, h1, h2⟩ := xBR_V hbr
  have hdk : xdk 6 tt := by obtain ⟨n0, -, -, -, h4⟩ := hbr; exact xpv_dk _ _ _ _ h4
  have hT := hR.1.2.1
  have hV : xV (xe T) 6 0 u (0 + T.length) := xpv_row (E := xe T) (b := 0) (f := fun j => T.getD j 0) (fun j hj => by rw [Nat.zero_add]; unfold xe ye; rw [if_pos hj]) hT (fun _ => by rw [Nat.zero_add]; unfold xe ye; rw [if_neg (by omega)]) hu
  have h5 := xV_ln _ _ _ _ hV
  have h6 := xjc_le (H := H) (st := st) 6 tt u [] hdk (xV_16 _ _ _ _ h1 h2)
  have h7 := xcm_len (sl := sl) (H := H) (st := st) 6 tt u []
  omega
theorem yP_7 {k : Int} (hw : w = .null ∨ w = .ref 19) (hk : -2147483648 ≤ k ∧ k ≤ 2147483647) (h : yJ n xs m A) (hm : m ≤ 511) : yl_pairT w true 163 237 (Int32.ofInt k) A n xs (yJ n xs (m + 1)) := by
  obtain ⟨R, v, nv, vv, xa, ir, l, T, ins, hd, ev, ms, s, t, ⟨hD, hA, hR⟩, hc, hms, hev, hb⟩ := h
  obtain ⟨sl, H, hO⟩ := xO_ex ins k
  unfold yl_pairT
  refine xr_conseq (md_163 (d := 960) (sl := sl) (H := H) hw hD hk (by omega) hO (fun i I tt u _ hI ht hu => by have := xcm_100 (sl := sl) (H := H) (st := I.1) hR hI ht hu; omega)) ?_
  rintro o A1 ⟨R', vv', ir', l', ev', ms', hbd, hD1, hke⟩
  obtain ⟨k1, k2, k3, k4, k5⟩ := yJ_ke hD hA hc hb hke ⟨_, hD1.2.1⟩
  have hbnd : ms'.length ≤ 100000 ∧ ev'.length ≤ 6 * (m + 1) := by
    rcases hbd with ⟨-, -, e1, e2⟩ | ⟨i, I, u, -, hI, hu, ⟨-, -, e1, e2⟩ | ⟨tt, ht, e1, h⟩⟩
    · rw [e1, e2]; omega
    · rw [e1, e2]; omega
    · have h1 := xsu_len hd I.2.2.1
      have h2 := xsc_le hd I.2.2.1
      have h3 := (hR.2.2.1 i I hI).2.2.1.2.1
      have h4 := xcm_100 (sl := sl) (H := H) (st := I.1) hR hI ht hu
      have h5 : ev'.length ≤ 6 * (m + 1) := by
        rw [e1, List.length_append, List.length_append, xtd_len, List.length_take]
        omega
      rcases h with ⟨-, e2, -⟩ | ⟨-, e2, -⟩
      · rw [e2]; omega
      · rw [e2]; omega
  obtain ⟨c, r, ho, hcp⟩ := xVD_VO hbd
  refine yT_mk (c := c) (r := r) hD1 k1 k2 k3 k4 k5 hbnd.1 hbnd.2 (xOU_two ho) (fun A' hA' => xr_conseq (mo_237 (d := 989) (sl := sl) (H := H) hA' hR hk (by omega) hO) ?_)
  rintro o2 A2 ⟨u, q1, r', s', t', ev2, ms2, q2, q3, q4, q5⟩
  obtain ⟨e1, e2, e3, e4⟩ := hcp _ _ _ _ q5
  rw [e1, e2] at q4
  exact ⟨u, q1, r', s', t', ⟨q2, q3⟩, q4, e3, e4⟩
/-- one turn -/
theorem yJ_turn (hw : w = .null ∨ w = .ref 19) (h : yJ n xs m A) (hm : m ≤ 511) (i : Int) : yl_turn w n xs i A (yJ n xs (m + 1)) := by
  intro c hc
  obtain ⟨k, hk, ek⟩ := yg_int (xs (i + 1).toNat)
  obtain ⟨z, hz, ez⟩ := yg_int (xs (i + 2).toNat)
  refine ⟨fun _ => yP_0 h, fun _ => ?_, fun _ => ?_, fun _ => ?_, fun _ => ?_, fun _ => ?_, fun _ => ?_, fun _ => ?_, fun _ => yP_8 h, fun _ => ?_, fun _ => ?_, fun _ => ?_, fun _ => ?_⟩
  · rw [yl_bool]
    exact yP_1 (by split <;> omega) h
  · rw [ek]; exact yP_2 hw hk h
  · rw [ek]; exact yP_3 hw hk h
  · rw [ek, ez]; exact yP_4 hk hz h
  · rw [ek, ez]; exact yP_5 hk hz h
  · rw [ek]; exact yP_6 hw hk h
  · rw [ek]; exact yP_7 hw hk h hm
  · rw [ek]; exact yP_9 hk h
  · rw [ek, ez]; exact yP_10 hw hk hz h
  · rw [ek]; exact yP_11 hk h hm
  · obtain ⟨R, v, nv, vv, xa, ir, l, T, ins, hd, ev, ms, s, t, h1, hc, hms, hev, hb⟩ := h
    exact ⟨R, v, nv, vv, xa, ir, l, T, ins, hd, ev, ms, s, t, h1, hc, hms, by omega, by omega, by omega⟩
end JT
