/-! The reference keeps texts -/
theorem xup2 {α : Type} (t : Nat → α) (x : Nat) (g h : α) : va_up (va_up t x g) x h = va_up t x h := by
  funext j
  unfold va_up
  by_cases e : j = x
  · rw [if_pos e, if_pos e]
  · rw [if_neg e, if_neg e, if_neg e]
theorem xup_id {α : Type} (t : Nat → α) (x : Nat) : va_up t x (t x) = t := by
  funext j
  unfold va_up
  by_cases e : j = x
  · rw [if_pos e, e]
  · rw [if_neg e]
/-- the text of n characters stands at b too -/
def xkp (t : Nat → Nat → Int) (b n : Nat) (g : Nat → Int) : Prop := (∀ j : Nat, j < n → g (b + j) = t 166 (400 + j)) ∧ (n < 100 → g (b + n) = 0) ∧ ∀ j : Nat, j < b ∨ b + n < j ∨ b + 100 ≤ j → g j = t 166 j
theorem mo_224l {w : Value} {d : Nat} {A : xb_H} {s : Nat → Int} {t : Nat → Nat → Int} {b n : Nat} {Q : xb_R → xb_H → Prop} (hA : 194 ≤ A.1) (hE : ∀ j : Nat, 0 ≤ t 166 j ∧ t 166 j ≤ 127) (h2 : s 2 = (n : Int)) (hn : n ≤ 100) (hb : b + 100 ≤ 400 ∨ (501 ≤ b ∧ b + 100 ≤ 3712)) : ∀ (k i : Nat) (g : Nat → Int), i + k = n → (∀ j : Nat, j < i → g (b + j) = t 166 (400 + j)) → (∀ j : Nat, ¬ (b ≤ j ∧ j < b + i) → g j = t 166 j) → (∀ g : Nat → Int, (∀ j : Nat, j < n → g (b + j) = t 166 (400 + j)) → (∀ j : Nat, ¬ (b ≤ j ∧ j < b + n) → g j = t 166 j) → xr_ok (xt_G w) d 224 34 [(2, .int (Int32.ofInt (n : Int))), (0, .ref 165), (1, .int (Int32.ofInt (b : Int)))] [] (ym A s (va_up t 166 g)) Q) → xr_ok (xt_G w) d 224 2 [(2, .int (Int32.ofInt (i : Int))), (0, .ref 165), (1, .int (Int32.ofInt (b : Int)))] [] (ym A s (va_up t 166 g)) Q := by
  intro k
  induction k using Nat.strongRecOn with
  | _ k ih =>
    intro i g hi hg1 hg2 hQ
    have h400 := hg2 (400 + i) (by omega)
    have hEi := hE (400 + i)
    have hv : 0 ≤ (va_up t 166 g) 166 (400 + i) ∧ (va_up t 166 g) 166 (400 + i) ≤ 127 := by rw [ya_up_same]; omega
    refine xr_steps (pc' := 4) (L' := [(2, .int (Int32.ofInt (i : Int))), (0, .ref 165), (1, .int (Int32.ofInt (b : Int)))]) (st' := [.ref 165, .int (Int32.ofInt (i : Int))]) 2 rfl ?_
    refine xr_getf (v := .int (Int32.ofInt (s 2))) rfl (ym_165 hA) rfl ?_
    refine xr_icmp_ge rfl (by omega) (by omega) (fun z31 => ?_) (fun z31 => ?_)
    · obtain rfl : i = n := by omega
      exact hQ g hg1 hg2
    · refine xr_steps (pc' := 11) (L' := [(2, .int (Int32.ofInt (i : Int))), (0, .ref 165), (1, .int (Int32.ofInt (b : Int)))]) (st' := [.ref 165]) 1 rfl ?_
      refine xr_getf (v := .ref 166) rfl (ym_165 hA) rfl ?_
      refine xr_steps (pc' := 16) (L' := [(2, .int (Int32.ofInt (i : Int))), (0, .ref 165), (1, .int (Int32.ofInt (b : Int)))]) (st' := [.int (Int32.ofInt (i : Int)), .int (Int32.ofInt (b : Int)), .ref 166]) 2 rfl ?_
      refine xr_iadd rfl ?_
      refine xr_steps (pc' := 18) (L' := [(2, .int (Int32.ofInt (i : Int))), (0, .ref 165), (1, .int (Int32.ofInt (b : Int)))]) (st' := [.ref 165, .int (Int32.ofInt ((b : Int) + (i : Int))), .ref 166]) 1 rfl ?_
      refine xr_getf (v := .ref 166) rfl (ym_165 hA) rfl ?_
      refine xr_steps (pc' := 25) (L' := [(2, .int (Int32.ofInt (i : Int))), (0, .ref 165), (1, .int (Int32.ofInt (b : Int)))]) (st' := [.int (Int32.ofInt (i : Int)), .int (Int32.ofInt 400), .ref 166, .int (Int32.ofInt ((b : Int) + (i : Int))), .ref 166]) 2 rfl ?_
      refine xr_iadd rfl ?_
      refine ym_caload (e := (va_up t 166 g) 166 (400 + (i : Int)).toNat) hA rfl rfl (by decide) (by omega) (by omega) rfl ?_
      rw [show (400 + (i : Int)).toNat = 400 + i by omega]
      refine ym_castore hA rfl rfl (by decide) (by omega) (by omega) (by omega) ?_
      rw [show ((b : Int) + (i : Int)).toNat = b + i by omega]
      refine xr_iinc (L' := [(2, .int (Int32.ofInt ((i : Int) + 1))), (0, .ref 165), (1, .int (Int32.ofInt (b : Int)))]) rfl rfl rfl ?_
      refine xr_steps (pc' := 2) (L' := [(2, .int (Int32.ofInt ((i : Int) + 1))), (0, .ref 165), (1, .int (Int32.ofInt (b : Int)))]) (st' := []) 1 rfl ?_
      refine xr_loc (L := [(2, .int (Int32.ofInt ((i : Int) + 1))), (0, .ref 165), (1, .int (Int32.ofInt (b : Int)))]) (show [2, 0, 1].Nodup by decide) ⟨rfl, rfl, rfl, trivial⟩ ?_
      rw [show (i : Int) + 1 = ((i + 1 : Nat) : Int) by omega, ya_up_same, xup2]
      refine ih (k - 1) (by omega) (i + 1) (va_up g (b + i) (g (400 + i))) (by omega) (fun j hj => ?_) (fun j hj => ?_) hQ
      · by_cases e : j = i
        · rw [e, ya_up_same]
          exact hg2 (400 + i) (by omega)
        · rw [ya_up_ne _ _ (by omega)]
          exact hg1 j (by omega)
      · rw [ya_up_ne _ _ (by omega)]
        exact hg2 j (by omega)
theorem mo_224 {w : Value} {d : Nat} {A : xb_H} {s : Nat → Int} {t : Nat → Nat → Int} {b n : Nat} (hA : 194 ≤ A.1) (hE : ∀ j : Nat, 0 ≤ t 166 j ∧ t 166 j ≤ 127) (h2 : s 2 = (n : Int)) (hn : n ≤ 100) (hb : b + 100 ≤ 400 ∨ (501 ≤ b ∧ b + 100 ≤ 3712)) : xr_ok (xt_G w) d 224 0 [(0, .ref 165), (1, .int (Int32.ofInt (b : Int)))] [] (ym A s t) (fun o A' => ∃ v0, o = .inl v0 ∧ v0 = none ∧ ∃ g : Nat → Int, A' = ym A s (va_up t 166 g) ∧ xkp t b n g) := by
  refine xr_steps (pc' := 2) (L' := [(2, .int (Int32.ofInt 0)), (0, .ref 165), (1, .int (Int32.ofInt (b : Int)))]) (st' := []) 2 rfl ?_
  have hL : xr_ok (xt_G w) d 224 2 [(2, .int (Int32.ofInt ((0 : Nat) : Int))), (0, .ref 165), (1, .int (Int32.ofInt (b : Int)))] [] (ym A s (va_up t 166 (t 166))) (fun o A' => ∃ v0, o = .inl v0 ∧ v0 = none ∧ ∃ g : Nat → Int, A' = ym A s (va_up t 166 g) ∧ xkp t b n g) := ?_
  · rw [xup_id] at hL; exact hL
  refine mo_224l hA hE h2 hn hb n 0 (t 166) (by omega) (fun j hj => absurd hj (Nat.not_lt_zero _)) (fun j _ => rfl) (fun g hg1 hg2 => ?_)
  refine xr_steps (pc' := 35) (L' := [(2, .int (Int32.ofInt (n : Int))), (0, .ref 165), (1, .int (Int32.ofInt (b : Int)))]) (st' := [.ref 165]) 1 rfl ?_
  refine xr_getf (v := .int (Int32.ofInt (s 2))) rfl (ym_165 hA) rfl ?_
  refine xr_steps (pc' := 40) (L' := [(2, .int (Int32.ofInt (n : Int))), (0, .ref 165), (1, .int (Int32.ofInt (b : Int)))]) (st' := [.int (Int32.ofInt 100), .int (Int32.ofInt (s 2))]) 1 rfl ?_
  refine xr_icmp_ge rfl (by omega) (by omega) (fun z31 => ?_) (fun z31 => ?_)
  · exact xr_retN rfl rfl ⟨_, rfl, rfl, g, rfl, hg1, fun h => absurd h (by omega), fun j hj => hg2 j (by omega)⟩
  · refine xr_steps (pc' := 44) (L' := [(2, .int (Int32.ofInt (n : Int))), (0, .ref 165), (1, .int (Int32.ofInt (b : Int)))]) (st' := [.ref 165]) 1 rfl ?_
    refine xr_getf (v := .ref 166) rfl (ym_165 hA) rfl ?_
    refine xr_steps (pc' := 49) (L' := [(2, .int (Int32.ofInt (n : Int))), (0, .ref 165), (1, .int (Int32.ofInt (b : Int)))]) (st' := [.ref 165, .int (Int32.ofInt (b : Int)), .ref 166]) 2 rfl ?_
    refine xr_getf (v := .int (Int32.ofInt (s 2))) rfl (ym_165 hA) rfl ?_
    refine xr_iadd rfl ?_
    refine xr_steps (pc' := 54) (L' := [(2, .int (Int32.ofInt (n : Int))), (0, .ref 165), (1, .int (Int32.ofInt (b : Int)))]) (st' := [.int (Int32.ofInt 0), .int (Int32.ofInt ((b : Int) + (s 2))), .ref 166]) 1 rfl ?_
    refine ym_castore hA rfl rfl (by decide) (by omega) (by omega) (by omega) ?_
    rw [ya_up_same, xup2, h2]
    rw [show ((b : Int) + (n : Int)).toNat = b + n by omega]
    refine xr_retN rfl rfl ⟨_, rfl, rfl, _, rfl, fun j hj => ?_, fun _ => ya_up_same _ _ _, fun j hj => ?_⟩
    · rw [ya_up_ne _ _ (by omega)]; exact hg1 j hj
    · rw [ya_up_ne _ _ (by omega)]; exact hg2 j (by omega)
/-! What the reference holds -/
/-- the body of the interaction i -/
def xBR (t : Nat → Nat → Int) (i : Nat) (u : xv 6) : Prop := ∃ n : Nat, (0 < n ∧ n ≤ 100) ∧ t 168 i = (n : Int) ∧ (n < 100 → t 166 (100 * i + n) = 0) ∧ xpv (ye n (fun k => t 166 (100 * i + k))) 6 0 = some (u, n)
/-- the rule r of all rules -/
def xRL (t : Nat → Nat → Int) (r : Nat) (R : List Int × List (Int × Int × List Int) × Int) : Prop := ∃ n : Nat, n ≤ 100 ∧ t 170 r = (n : Int) ∧ xRU n (fun k => t 166 (510 + 100 * r + k)) R.1 R.2.1 R.2.2 ∧ ∀ k : Nat, k < n → 32 ≤ t 166 (510 + 100 * r + k) ∧ t 166 (510 + 100 * r + k) ≤ 126
def xIR (t : Nat → Nat → Int) (i : Nat) (I : xI) : Prop := t 167 i = I.1 ∧ (t 169 i = (I.2.1.length : Int) ∧ I.2.1.length ≤ 8 ∧ ∀ (j : Nat) (r : List Int × List (Int × Int × List Int) × Int), I.2.1[j]? = some r → xRL t (8 * i + j) r) ∧ (t 171 i = (I.2.2.1.length : Int) ∧ I.2.2.1.length ≤ 3 ∧ ∀ j : Nat, j < I.2.2.1.length → t 172 (3 * i + j) = I.2.2.1.getD j 0) ∧ (I.2.2.2 = none → t 168 i = 0) ∧ (∀ u, I.2.2.2 = some u → xBR t i u) ∧ (I.1 = 0 ∨ I.1 = 1) ∧ ∀ c ∈ I.2.2.1, 0 ≤ c ∧ c ≤ 5
/-- the reference, as the desk is: T the text, ins the interactions, hd the handlers, ev the events, ms the mismatches found last -/
def xJR (s : Nat → Int) (t : Nat → Nat → Int) (T : List Int) (ins : List xI) (hd : Nat → Int) (ev : List Int) (ms : List (Int × List Int)) : Prop :=
  (s 2 = (T.length : Int) ∧ T.length ≤ 100 ∧ (∀ j : Nat, 0 ≤ t 166 j ∧ t 166 j ≤ 127) ∧ ∀ j : Nat, j < T.length → t 166 (400 + j) = T.getD j 0 ∧ 32 ≤ T.getD j 0 ∧ T.getD j 0 ≤ 126) ∧ (s 3 = (ins.length : Int) ∧ ins.length ≤ 4) ∧ (∀ (i : Nat) (I : xI), ins[i]? = some I → xIR t i I) ∧ (∀ i : Nat, ins.length ≤ i → i < 4 → t 168 i = 0 ∧ t 169 i = 0 ∧ t 171 i = 0) ∧ (∀ j : Nat, j < 6 → t 173 j = hd j ∧ 0 ≤ hd j ∧ hd j ≤ 3) ∧ (s 11 = (ev.length : Int) ∧ ev.length ≤ 3072 ∧ ∀ j : Nat, j < ev.length → t 174 j = ev.getD j 0) ∧ (s 13 = (xmn ms : Int) ∧ ∀ (k : Nat) (e : Int × List Int), k < 30 → ms[k]? = some e → t 175 k = e.1 ∧ t 176 k = ((36 :: xwP e.2).length : Int) ∧ ∀ j : Nat, j < (36 :: xwP e.2).length → t 177 (24 * k + j) = (36 :: xwP e.2).getD j 0) ∧ (∀ j : Nat, j < 12 → 0 ≤ t 172 j ∧ t 172 j ≤ 5) ∧ ∀ j : Nat, j < 30 → 0 ≤ t 176 j ∧ t 176 j ≤ 24
theorem ye_cong {n : Nat} {f g : Nat → Int} (h : ∀ j : Nat, j < n → f j = g j) : ye n f = ye n g := by
  funext j
  unfold ye
  by_cases hj : j < n
  · rw [if_pos hj, if_pos hj, h j hj]
  · rw [if_neg hj, if_neg hj]
section KR
variable {t t' : Nat → Nat → Int}
theorem xBR_keep {i : Nat} {u : xv 6} (hi : i < 4) (h : xBR t i u) (h1 : t' 168 i = t 168 i) (h2 : ∀ j : Nat, j < 100 → t' 166 (100 * i + j) = t 166 (100 * i + j)) : xBR t' i u := by
  obtain ⟨n, e1, e2, e3, e4⟩ := h
  refine ⟨n, e1, by rw [h1]; exact e2, fun hn => by rw [h2 n hn]; exact e3 hn, ?_⟩
  rw [ye_cong (g := fun k => t 166 (100 * i + k)) (fun j hj => h2 j (by omega))]
  exact e4
theorem xRL_keep {r : Nat} {R : List Int × List (Int × Int × List Int) × Int} (h : xRL t r R) (h1 : t' 170 r = t 170 r) (h2 : ∀ j : Nat, j < 100 → t' 166 (510 + 100 * r + j) = t 166 (510 + 100 * r + j)) : xRL t' r R := by
  obtain ⟨n, e1, e2, e3, e4⟩ := h
  refine ⟨n, e1, by rw [h1]; exact e2, ?_, fun k hk => by rw [h2 k (by omega)]; exact e4 k hk⟩
  exact (xRU_e (ye_cong (fun j hj => h2 j (by omega))) _ _ _).2 e3
/-- what an interaction's data are -/
theorem xIR_keep {i : Nat} {I : xI} (hi : i < 4) (h : xIR t i I) (h7 : t' 167 i = t 167 i) (h8 : t' 168 i = t 168 i) (h9 : t' 169 i = t 169 i) (h10 : ∀ j : Nat, j < 8 → t' 170 (8 * i + j) = t 170 (8 * i + j)) (h11 : t' 171 i = t 171 i) (h12 : ∀ j : Nat, j < 3 → t' 172 (3 * i + j) = t 172 (3 * i + j)) (h6 : ∀ j : Nat, j < 100 → t' 166 (100 * i + j) = t 166 (100 * i + j)) (h6r : ∀ j : Nat, 510 + 800 * i ≤ j → j < 1310 + 800 * i → t' 166 j = t 166 j) : xIR t' i I := by
  obtain ⟨a1, ⟨b1, b2, b3⟩, ⟨c1, c2, c3⟩, d1, d2, d3, d4⟩ := h
  refine ⟨by rw [h7]; exact a1, ⟨by rw [h9]; exact b1, b2, fun j r hr => ?_⟩, ⟨by rw [h11]; exact c1, c2, fun j hj => by rw [h12 j (by omega)]; exact c3 j hj⟩, fun e => by rw [h8]; exact d1 e, fun u hu => xBR_keep hi (d2 u hu) h8 h6, d3, d4⟩
  have hj := (List.getElem?_eq_some_iff.mp hr).1
  exact xRL_keep (b3 j r hr) (h10 j (by omega)) (fun k hk => h6r _ (by omega) (by omega))
theorem xpv_100 {f : Nat → Int} {m : Nat} {u : xv m} (h : xpv (ye 100 f) m 0 = some (u, 100)) : ye 100 f 0 = 91 ∨ ye 100 f 0 = 123 := by
  cases m with
  | zero => cases h
  | succ m =>
    by_cases h1 : ye 100 f 0 = 91
    · exact Or.inl h1
    by_cases h2 : ye 100 f 0 = 123
    · exact Or.inr h2
    rw [xpv, if_neg h1, if_neg h2] at h
    cases h3 : xpl (ye 100 f) 0 with
    | none => rw [h3] at h; cases h
    | some z =>
      obtain ⟨kd, ls, q⟩ := z
      rw [h3] at h
      cases h
      have h4 := (xpl_V (b := 0) (E := ye 100 f) (fun j hj => by unfold ye; rw [Nat.zero_add, if_pos hj]) h3 (Or.inr (Or.inr (Or.inr (by unfold ye; rw [if_neg (by omega)]))))).2.2
      obtain ⟨-, ⟨h5, -⟩, -, -, h6⟩ := h4
      rcases h6 with ⟨-, h6, -⟩ | ⟨-, -, h6, -⟩
      · omega
      · omega
/-- a text that is a value is one in the row -/
theorem xpv_row {E : Nat → Int} {b n : Nat} {u : xv 6} {f : Nat → Int} (hE : ∀ j : Nat, j < n → E (b + j) = f j) (hn : n ≤ 100) (h0 : n < 100 → E (b + n) = 0) (h : xpv (ye n f) 6 0 = some (u, n)) : xV E 6 b u (b + n) := by
  have h2 := xpv_V hE 6 0 n u h ?_
  · rw [Nat.add_zero] at h2
    exact h2.2
  · by_cases hl : n < 100
    · exact Or.inl (Or.inr (Or.inr (Or.inr (h0 hl))))
    · obtain rfl : n = 100 := by omega
      exact Or.inr (xpv_100 h)
theorem xBR_V {i : Nat} {u : xv 6} (h : xBR t i u) : ∃ z, xV (t 166) 6 (100 * i) u z ∧ z ≤ 100 * i + 100 := by
  obtain ⟨n, e1, e2, e3, e4⟩ := h
  exact ⟨100 * i + n, xpv_row (fun j _ => rfl) e1.2 e3 e4, by omega⟩
theorem xpv_pos {n : Nat} {f : Nat → Int} {u : xv 6} (h : xpv (ye n f) 6 0 = some (u, n)) (hn : n ≤ 100) : 0 < n := by
  have h2 := xpv_V (b := 0) (E := ye n f) (f := f) (n := n) (fun j hj => by unfold ye; rw [Nat.zero_add, if_pos hj]) 6 0 n u h ?_
  · exact h2.1.1
  · exact Or.inl (Or.inr (Or.inr (Or.inr (by unfold ye; rw [if_neg (by omega)]))))
end KR
section JR
variable {s s' : Nat → Int} {t t' : Nat → Nat → Int} {T : List Int} {ins : List xI} {hd : Nat → Int} {ev : List Int} {ms : List (Int × List Int)}
theorem xJR_tx (h : xJR s t T ins hd ev ms) : xtx s t T.length (fun j => T.getD j 0) := h.1
/-- nothing but the text's part of the row and helpers' rows is changed, and the text is taken -/
theorem xJR_take (h : xJR s t T ins hd ev ms) (hs : s' 2 = 0 ∧ s' 3 = s 3 ∧ s' 11 = s 11 ∧ s' 13 = s 13) (ht : ∀ x : Nat, 167 ≤ x → x ≤ 177 → t' x = t x) (h6 : ∀ j : Nat, j < 400 ∨ 510 ≤ j → t' 166 j = t 166 j) (hE : ∀ j : Nat, 0 ≤ t' 166 j ∧ t' 166 j ≤ 127) : xJR s' t' [] ins hd ev ms := by
  obtain ⟨a, ⟨b, bl⟩, c, d, e, f, g, i, k⟩ := h
  refine ⟨⟨hs.1, Nat.zero_le _, hE, fun j hj => absurd hj (Nat.not_lt_zero _)⟩, ⟨by rw [hs.2.1]; exact b, bl⟩, fun i I hI => ?_, ?_, ?_, ?_, ?_, ?_, ?_⟩
  · have hi := (List.getElem?_eq_some_iff.mp hI).1
    refine xIR_keep (by omega) (c i I hI) (by rw [ht 167 (by omega) (by omega)]) (by rw [ht 168 (by omega) (by omega)]) (by rw [ht 169 (by omega) (by omega)]) (fun j _ => by rw [ht 170 (by omega) (by omega)]) (by rw [ht 171 (by omega) (by omega)]) (fun j _ => by rw [ht 172 (by omega) (by omega)]) (fun j hj => h6 _ (by omega)) (fun j h1 h2 => h6 _ (by omega))
  · rw [ht 168 (by omega) (by omega), ht 169 (by omega) (by omega), ht 171 (by omega) (by omega)]; exact d
  · rw [ht 173 (by omega) (by omega)]; exact e
  · rw [ht 174 (by omega) (by omega), hs.2.2.1]; exact f
  · rw [ht 175 (by omega) (by omega), ht 176 (by omega) (by omega), ht 177 (by omega) (by omega), hs.2.2.2]; exact g
  · rw [ht 172 (by omega) (by omega)]; exact i
  · rw [ht 176 (by omega) (by omega)]; exact k
/-- helpers' rows alone are changed, and what the fields say of nothing that is kept -/
theorem xJR_same (h : xJR s t T ins hd ev ms) (hs : s' 2 = s 2 ∧ s' 3 = s 3 ∧ s' 11 = s 11 ∧ s' 13 = s 13) (ht : ∀ x : Nat, 166 ≤ x → x ≤ 177 → t' x = t x) : xJR s' t' T ins hd ev ms := by
  obtain ⟨a, ⟨b, bl⟩, c, d, e, f, g, i, k⟩ := h
  refine ⟨by rw [ht 166 (by omega) (by omega), hs.1]; exact a, ⟨by rw [hs.2.1]; exact b, bl⟩, fun i I hI => ?_, ?_, ?_, ?_, ?_, ?_, ?_⟩
  · have hi := (List.getElem?_eq_some_iff.mp hI).1
    refine xIR_keep (by omega) (c i I hI) (by rw [ht 167 (by omega) (by omega)]) (by rw [ht 168 (by omega) (by omega)]) (by rw [ht 169 (by omega) (by omega)]) (fun j _ => by rw [ht 170 (by omega) (by omega)]) (by rw [ht 171 (by omega) (by omega)]) (fun j _ => by rw [ht 172 (by omega) (by omega)]) (fun j hj => by rw [ht 166 (by omega) (by omega)]) (fun j h1 h2 => by rw [ht 166 (by omega) (by omega)])
  · rw [ht 168 (by omega) (by omega), ht 169 (by omega) (by omega), ht 171 (by omega) (by omega)]; exact d
  · rw [ht 173 (by omega) (by omega)]; exact e
  · rw [ht 174 (by omega) (by omega), hs.2.2.1]; exact f
  · rw [ht 175 (by omega) (by omega), ht 176 (by omega) (by omega), ht 177 (by omega) (by omega), hs.2.2.2]; exact g
  · rw [ht 172 (by omega) (by omega)]; exact i
  · rw [ht 176 (by omega) (by omega)]; exact k
/-- the interaction i becomes I', and the text is taken: rows 166, 168, 169, 170 are changed for i alone -/
theorem xJR_set {i : Nat} {I I' : xI} (h : xJR s t T ins hd ev ms) (hI : ins[i]? = some I) (hs : s' 2 = 0 ∧ s' 3 = s 3 ∧ s' 11 = s 11 ∧ s' 13 = s 13) (ht : ∀ x : Nat, 167 ≤ x → x ≤ 177 → ¬ x = 168 → ¬ x = 169 → ¬ x = 170 → t' x = t x) (h8 : ∀ j : Nat, ¬ j = i → t' 168 j = t 168 j ∧ t' 169 j = t 169 j) (h10 : ∀ j : Nat, ¬ (8 * i ≤ j ∧ j < 8 * i + 8) → t' 170 j = t 170 j) (h6 : ∀ j : Nat, j < 400 ∨ 510 ≤ j → ¬ (100 * i ≤ j ∧ j < 100 * i + 100) → ¬ (510 + 800 * i ≤ j ∧ j < 1310 + 800 * i) → t' 166 j = t 166 j) (hE : ∀ j : Nat, 0 ≤ t' 166 j ∧ t' 166 j ≤ 127) (hn : xIR t' i I') : xJR s' t' [] (ins.set i I') hd ev ms := by
  obtain ⟨a, ⟨b, bl⟩, c, d, e, f, g, q, k⟩ := h
  have hil := (List.getElem?_eq_some_iff.mp hI).1
  refine ⟨⟨hs.1, Nat.zero_le _, hE, fun j hj => absurd hj (Nat.not_lt_zero _)⟩, ⟨by rw [hs.2.1, List.length_set]; exact b, by rw [List.length_set]; exact bl⟩, fun j J hJ => ?_, ?_, ?_, ?_, ?_, ?_, ?_⟩
  · by_cases ej : j = i
    · rw [ej] at hJ ⊢
      rw [List.getElem?_set_self hil] at hJ
      cases hJ
      exact hn
    · rw [List.getElem?_set_ne (fun h => ej h.symm)] at hJ
      have hj := (List.getElem?_eq_some_iff.mp hJ).1
      exact xIR_keep (by omega) (c j J hJ) (by rw [ht 167 (by omega) (by omega) (by omega) (by omega) (by omega)]) (h8 j ej).1 (h8 j ej).2 (fun k hk => h10 _ (by omega)) (by rw [ht 171 (by omega) (by omega) (by omega) (by omega) (by omega)]) (fun k _ => by rw [ht 172 (by omega) (by omega) (by omega) (by omega) (by omega)]) (fun k hk => h6 _ (by omega) (by omega) (by omega)) (fun k h1 h2 => h6 _ (by omega) (by omega) (by omega))
  · intro j hj h4
    rw [List.length_set] at hj
    have e1 := h8 j (by omega)
    rw [e1.1, e1.2, ht 171 (by omega) (by omega) (by omega) (by omega) (by omega)]
    exact d j hj h4
  · rw [ht 173 (by omega) (by omega) (by omega) (by omega) (by omega)]; exact e
  · rw [ht 174 (by omega) (by omega) (by omega) (by omega) (by omega), hs.2.2.1]; exact f
  · rw [ht 175 (by omega) (by omega) (by omega) (by omega) (by omega), ht 176 (by omega) (by omega) (by omega) (by omega) (by omega), ht 177 (by omega) (by omega) (by omega) (by omega) (by omega), hs.2.2.2]; exact g
  · rw [ht 172 (by omega) (by omega) (by omega) (by omega) (by omega)]; exact q
  · rw [ht 176 (by omega) (by omega) (by omega) (by omega) (by omega)]; exact k
end JR
/-! The reference: body -/
theorem xsz_1 (u : xv 6) : 1 ≤ xsz 6 u := Nat.le_add_right _ _
theorem xIR_none {t : Nat → Nat → Int} {i : Nat} {I : xI} (h : xIR t i I) (h0 : t 168 i ≤ 0) : I.2.2.2 = none := by
  cases hex : I.2.2.2 with
  | none => rfl
  | some u =>
    obtain ⟨n, e1, e2, -⟩ := h.2.2.2.2.1 u hex
    omega
theorem xIR_some {t : Nat → Nat → Int} {i : Nat} {I : xI} (h : xIR t i I) (h0 : ¬ t 168 i ≤ 0) : ∃ u, I.2.2.2 = some u ∧ xBR t i u := by
  cases hex : I.2.2.2 with
  | none => have := h.2.2.2.1 hex; omega
  | some u => exact ⟨u, rfl, h.2.2.2.2.1 u hex⟩
theorem xIR_168 {t : Nat → Nat → Int} {i : Nat} {I : xI} (h : xIR t i I) : 0 ≤ t 168 i ∧ t 168 i ≤ 100 := by
  by_cases h0 : t 168 i ≤ 0
  · have := h.2.2.2.1 (xIR_none h h0)
    omega
  · obtain ⟨u, -, n, e1, e2, -⟩ := xIR_some h h0
    omega
/-- what body answers: c what is thrown, r the answer -/
def xBO (T : List Int) (ins : List xI) (k : Int) (c r : Int) (ins' : List xI) : Prop := (¬ (0 ≤ k ∧ k < (ins.length : Int) ∧ ∃ t : xv 6, xpv (xe T) 6 0 = some (t, T.length)) ∧ c = 1 ∧ ins' = ins) ∨ ∃ (i : Nat) (I : xI) (t : xv 6), k = (i : Int) ∧ ins[i]? = some I ∧ xpv (xe T) 6 0 = some (t, T.length) ∧ ((I.2.2.2 = none ∧ (c = 0 ∧ r = (xsz 6 t : Nat)) ∧ ins' = ins.set i (I.1, I.2.1, I.2.2.1, some t)) ∨ ∃ u : xv 6, I.2.2.2 = some u ∧ ((xeq 6 u t ∧ (c = 0 ∧ r = (xsz 6 t : Nat)) ∧ ins' = ins) ∨ (¬ xeq 6 u t ∧ c = 2 ∧ ins' = ins)))
section BR
variable {s s' : Nat → Int} {t T1 T2 T3 : Nat → Nat → Int} {T : List Int} {ins : List xI} {hd : Nat → Int} {ev : List Int} {ms : List (Int × List Int)}
/-- behind values() and close(): the rows as they were, the text closed -/
def xCL (t T2 : Nat → Nat → Int) (T : List Int) : Prop := (∀ x : Nat, 167 ≤ x → x ≤ 177 → T2 x = t x) ∧ (∀ j : Nat, j < 400 ∨ 510 ≤ j → T2 166 j = t 166 j) ∧ (∀ j : Nat, 0 ≤ T2 166 j ∧ T2 166 j ≤ 127) ∧ (∀ j : Nat, j < T.length → T2 166 (400 + j) = T.getD j 0) ∧ T2 166 (400 + T.length) = 0
theorem xCL_mk (h : xJR s t T ins hd ev ms) (hk : xk0 t T1) : xCL t (va_up T1 166 (va_up (T1 166) (400 + s 2).toNat 0)) T := by
  obtain ⟨⟨h1, h2, h3, h4⟩, -⟩ := h
  have e : (400 + s 2).toNat = 400 + T.length := by omega
  have e6 : T1 166 = t 166 := hk 166 (by omega) (by omega)
  rw [e]
  refine ⟨fun x a b => by rw [ya_up_ne _ _ (by omega)]; exact hk x (by omega) (by omega), fun j hj => ?_, fun j => ?_, fun j hj => ?_, ?_⟩
  · rw [ya_up_same, ya_up_ne _ _ (by omega), e6]
  · rw [ya_up_same, e6]
    by_cases ej : j = 400 + T.length
    · rw [ej, ya_up_same]; omega
    · rw [ya_up_ne _ _ ej]; exact h3 j
  · rw [ya_up_same, ya_up_ne _ _ (by omega), e6]; exact (h4 j hj).1
  · rw [ya_up_same, ya_up_same]
theorem xCL_sm (h : xCL t T2 T) (hs : xsm T2 T3) : xCL t T3 T := by
  obtain ⟨h1, h2, h3, h4, h5⟩ := h
  have e6 : T3 166 = T2 166 := hs 166 (by omega) (by omega)
  exact ⟨fun x a b => by rw [hs x (by omega) (by omega)]; exact h1 x a b, by rw [e6]; exact h2, by rw [e6]; exact h3, by rw [e6]; exact h4, by rw [e6]; exact h5⟩
theorem xCL_V {u : xv 6} (h : xCL t T2 T) (hT : T.length ≤ 100) (hu : xpv (xe T) 6 0 = some (u, T.length)) : xV (T2 166) 6 400 u (400 + T.length) := xpv_row (fun j hj => h.2.2.2.1 j hj) hT (fun _ => h.2.2.2.2) hu
theorem xCL_take (h : xJR s t T ins hd ev ms) (hc : xCL t T2 T) (hs : s' 2 = 0 ∧ s' 3 = s 3 ∧ s' 11 = s 11 ∧ s' 13 = s 13) : xJR s' T2 [] ins hd ev ms := xJR_take h hs hc.1 hc.2.1 hc.2.2.1
theorem xCL_body {i : Nat} {I : xI} {u : xv 6} {g : Nat → Int} (h : xJR s t T ins hd ev ms) (hI : ins[i]? = some I) (hc : xCL t T2 T) (hu : xpv (xe T) 6 0 = some (u, T.length)) (hg : xkp T2 (100 * i) T.length g) (hs : s' 2 = 0 ∧ s' 3 = s 3 ∧ s' 11 = s 11 ∧ s' 13 = s 13) : xJR s' (va_up (va_up T2 166 g) 168 (va_up ((va_up T2 166 g) 168) i (s 2))) [] (ins.set i (I.1, I.2.1, I.2.2.1, some u)) hd ev ms := by
  have hil := (List.getElem?_eq_some_iff.mp hI).1
  have hl4 := h.2.1.2
  have hT := h.1.2.1
  have h2 := h.1.1
  have hIR := h.2.2.1 i I hI
  obtain ⟨c1, c2, c3, c4, c5⟩ := hc
  obtain ⟨g1, g2, g3⟩ := hg
  have e168 : (va_up T2 166 g) 168 = T2 168 := ya_up_ne _ _ (by omega)
  rw [e168, h2]
  have r168 : ∀ j, ¬ j = i → (va_up (va_up T2 166 g) 168 (va_up (T2 168) i (T.length : Int))) 168 j = t 168 j := fun j hj => by rw [ya_up_same, ya_up_ne _ _ hj, c1 168 (by omega) (by omega)]
  have r168i : (va_up (va_up T2 166 g) 168 (va_up (T2 168) i (T.length : Int))) 168 i = (T.length : Int) := by rw [ya_up_same, ya_up_same]
  have r166 : (va_up (va_up T2 166 g) 168 (va_up (T2 168) i (T.length : Int))) 166 = g := by rw [ya_up_ne _ _ (by omega), ya_up_same]
  have rx : ∀ x, 167 ≤ x → x ≤ 177 → ¬ x = 168 → (va_up (va_up T2 166 g) 168 (va_up (T2 168) i (T.length : Int))) x = t x := fun x a b e => by rw [ya_up_ne _ _ e, ya_up_ne _ _ (by omega), c1 x a b]
  generalize (va_up (va_up T2 166 g) 168 (va_up (T2 168) i (T.length : Int))) = t' at r168 r168i r166 rx
  have hgo : ∀ j : Nat, j < 400 ∨ 510 ≤ j → ¬ (100 * i ≤ j ∧ j < 100 * i + 100) → t' 166 j = t 166 j := fun j hj hn => by rw [r166, g3 j (by omega), c2 j hj]
  refine xJR_set h hI hs (fun x a b e1 _ _ => rx x a b e1) (fun j hj => ⟨r168 j hj, by rw [rx 169 (by omega) (by omega) (by omega)]⟩) (fun j _ => by rw [rx 170 (by omega) (by omega) (by omega)]) (fun j hj hn _ => hgo j hj hn) (fun j => ?_) ?_
  · rw [r166]
    by_cases hj : 100 * i ≤ j ∧ j < 100 * i + T.length
    · have := g1 (j - 100 * i) (by omega)
      rw [show 100 * i + (j - 100 * i) = j by omega] at this
      rw [this]
      exact c3 _
    · by_cases hj2 : j = 100 * i + T.length ∧ T.length < 100
      · rw [hj2.1, g2 hj2.2]; omega
      · rw [g3 j (by omega)]; exact c3 j
  · obtain ⟨a1, ⟨b1, b2, b3⟩, ⟨d1, d2, d3⟩, f1, f2, f3, f4⟩ := hIR
    refine ⟨by rw [rx 167 (by omega) (by omega) (by omega)]; exact a1, ⟨by rw [rx 169 (by omega) (by omega) (by omega)]; exact b1, b2, fun j r hr => ?_⟩, ⟨by rw [rx 171 (by omega) (by omega) (by omega)]; exact d1, d2, fun j hj => by rw [rx 172 (by omega) (by omega) (by omega)]; exact d3 j hj⟩, fun e => absurd (show some u = none from e) (fun h => by cases h), fun u' e => ?_, f3, f4⟩
    · have hj := (List.getElem?_eq_some_iff.mp hr).1
      have hj8 : j < 8 := Nat.lt_of_lt_of_le hj b2
      exact xRL_keep (b3 j r hr) (by rw [rx 170 (by omega) (by omega) (by omega)]) (fun k hk => hgo _ (by omega) (by omega))
    · cases (show some u = some u' from e)
      refine ⟨T.length, ⟨xpv_pos hu hT, hT⟩, r168i, fun hn => by rw [r166]; exact g2 hn, ?_⟩
      rw [ye_cong (g := fun j => T.getD j 0) (fun j hj => by rw [r166, g1 j hj]; exact c4 j hj)]
      exact hu
end BR
theorem mo_207 {w : Value} {d : Nat} {A : xb_H} {s : Nat → Int} {t : Nat → Nat → Int} {T : List Int} {ins : List xI} {hd : Nat → Int} {ev : List Int} {ms : List (Int × List Int)} {k : Int} (hA : 194 ≤ A.1) (h : xJR s t T ins hd ev ms) (hk : -2147483648 ≤ k ∧ k ≤ 2147483647) : xr_ok (xt_G w) (d + 1 + 1 + 1 + 1 + 1 + 1) 207 0 [(0, .ref 165), (1, .int (Int32.ofInt k))] [] (ym A s t) (fun o A' => ∃ v0, o = .inl v0 ∧ ∃ (r : Int) (s' : Nat → Int) (t' : Nat → Nat → Int) (ins' : List xI), v0 = some (.int (Int32.ofInt r)) ∧ A' = ym A s' t' ∧ xJR s' t' [] ins' hd ev ms ∧ xBO T ins k (s' 0) r ins') := by
  have hs2 := h.1.1
  have hsT := h.1.2.1
  have hs3 := h.2.1.1
  have hs3l := h.2.1.2
  refine xr_steps (pc' := 1) (L' := [(0, .ref 165), (1, .int (Int32.ofInt k))]) (st' := [.ref 165]) 1 rfl ?_
  refine xr_call (q := (.invokevirtual 146, 3, 208, 1)) (av := [.ref 165]) (rest := []) rfl rfl (by decide) rfl (ym_rcv hA rfl) (Nat.le_of_ble_eq_true rfl) (mo_208 hA (xJR_tx h)) ?_
  rintro _ _ ⟨r, T1, ⟨rfl, eA, hk0⟩, hvs⟩
  rw [eA]
  clear eA
  rcases hvs with ⟨u, hu, rfl⟩ | ⟨hu, rfl⟩
  · have hz1 := xsz_1 u
    have hz2 := xpv_sz (n := T.length) (f := fun j => T.getD j 0) 6 0 _ u hu
    refine xr_steps (pc' := 6) (L' := [(2, .int (Int32.ofInt ((xsz 6 u : Nat) : Int))), (0, .ref 165), (1, .int (Int32.ofInt k))]) (st' := [.ref 165]) 2 rfl ?_
    refine xr_call (q := (.invokevirtual 150, 3, 214, 1)) (av := [.ref 165]) (rest := []) rfl rfl (by decide) rfl (ym_rcv hA rfl) (Nat.le_of_ble_eq_true rfl) (mo_214 hA (by omega)) ?_
    rintro _ _ ⟨rfl, eA⟩
    rw [eA]
    clear eA
    have hCL := xCL_mk h hk0
    obtain ⟨T2, hT2⟩ : ∃ T2, va_up T1 166 (va_up (T1 166) (400 + s 2).toNat 0) = T2 := ⟨_, rfl⟩
    rw [hT2] at hCL ⊢
    refine xr_steps (pc' := 11) (L' := [(2, .int (Int32.ofInt ((xsz 6 u : Nat) : Int))), (0, .ref 165), (1, .int (Int32.ofInt k))]) (st' := [.int (Int32.ofInt k), .ref 165]) 2 rfl ?_
    obtain ⟨b31, hb31⟩ := mo_bool (0 ≤ k ∧ k < s 3)
    refine xr_call (q := (.invokevirtual 153, 3, 215, 2)) (av := [.ref 165, .int (Int32.ofInt k)]) (rest := []) rfl rfl (by decide) rfl (ym_rcv hA rfl) (Nat.le_of_ble_eq_true rfl) (mo_215 hA hk (by omega) hb31) ?_
    rintro _ _ ⟨rfl, eA⟩
    rw [eA]
    clear eA
    rcases hb31 with ⟨rfl, hin⟩ | ⟨rfl, hin⟩
    · obtain ⟨i, rfl⟩ : ∃ i : Nat, k = (i : Int) := ⟨k.toNat, by omega⟩
      obtain ⟨I, hI⟩ : ∃ I, ins[i]? = some I := ⟨_, List.getElem?_eq_getElem (show i < ins.length by omega)⟩
      have hIR := h.2.2.1 i I hI
      have hIR8 := xIR_168 hIR
      have hb168 : T2 168 i = t 168 i := by rw [hCL.1 168 (by omega) (by omega)]
      refine xr_if_eq rfl (by omega) (fun z32 => ?_) (fun z32 => ?_)
      · exfalso; omega
      · refine xr_steps (pc' := 18) (L' := [(2, .int (Int32.ofInt ((xsz 6 u : Nat) : Int))), (0, .ref 165), (1, .int (Int32.ofInt (i : Int)))]) (st' := [.int (Int32.ofInt ((xsz 6 u : Nat) : Int))]) 1 rfl ?_
        refine xr_if_le rfl (by omega) (fun z33 => ?_) (fun z33 => ?_)
        · refine xr_steps (pc' := 28) (L' := [(3, .int (Int32.ofInt 0)), (2, .int (Int32.ofInt ((xsz 6 u : Nat) : Int))), (0, .ref 165), (1, .int (Int32.ofInt (i : Int)))]) (st' := [.int (Int32.ofInt 0)]) 3 rfl ?_
          refine xr_if_eq rfl (by omega) (fun z34 => ?_) (fun z34 => ?_)
          · refine xr_steps (pc' := 49) (L' := [(4, .int (Int32.ofInt 0)), (3, .int (Int32.ofInt 0)), (2, .int (Int32.ofInt ((xsz 6 u : Nat) : Int))), (0, .ref 165), (1, .int (Int32.ofInt (i : Int)))]) (st' := [.int (Int32.ofInt 0), .ref 165]) 4 rfl ?_
            refine xr_if_ne rfl (by omega) (fun z35 => ?_) (fun z35 => ?_)
            · exfalso; omega
            · refine xr_steps (pc' := 80) (L' := [(4, .int (Int32.ofInt 0)), (3, .int (Int32.ofInt 0)), (2, .int (Int32.ofInt ((xsz 6 u : Nat) : Int))), (0, .ref 165), (1, .int (Int32.ofInt (i : Int)))]) (st' := [.int (Int32.ofInt 1), .ref 165]) 2 rfl ?_
              refine ym_putI hA rfl rfl rfl ?_
              refine xr_steps (pc' := 84) (L' := [(4, .int (Int32.ofInt 0)), (3, .int (Int32.ofInt 0)), (2, .int (Int32.ofInt ((xsz 6 u : Nat) : Int))), (0, .ref 165), (1, .int (Int32.ofInt (i : Int)))]) (st' := [.ref 165]) 1 rfl ?_
              refine xr_getf (v := .int (Int32.ofInt 1)) rfl (ym_165 hA) rfl ?_
              refine xr_if_ne rfl (by omega) (fun z36 => ?_) (fun z36 => ?_)
              · refine xr_steps (pc' := 115) (L' := [(4, .int (Int32.ofInt 0)), (3, .int (Int32.ofInt 0)), (2, .int (Int32.ofInt ((xsz 6 u : Nat) : Int))), (0, .ref 165), (1, .int (Int32.ofInt (i : Int)))]) (st' := [.int (Int32.ofInt 0), .ref 165]) 2 rfl ?_
                refine ym_putI hA rfl rfl rfl ?_
                refine xr_steps (pc' := 119) (L' := [(4, .int (Int32.ofInt 0)), (3, .int (Int32.ofInt 0)), (2, .int (Int32.ofInt ((xsz 6 u : Nat) : Int))), (0, .ref 165), (1, .int (Int32.ofInt (i : Int)))]) (st' := [.ref 165]) 1 rfl ?_
                refine xr_getf (v := .int (Int32.ofInt 1)) rfl (ym_165 hA) rfl ?_
                refine xr_if_ne rfl (by omega) (fun z37 => ?_) (fun z37 => ?_)
                · refine xr_steps (pc' := 130) (L' := [(4, .int (Int32.ofInt 0)), (3, .int (Int32.ofInt 0)), (2, .int (Int32.ofInt ((xsz 6 u : Nat) : Int))), (0, .ref 165), (1, .int (Int32.ofInt (i : Int)))]) (st' := [.int (Int32.ofInt 0)]) 1 rfl ?_
                  exfalso; omega
                · exfalso; omega
              · exfalso; omega
          · exfalso; omega
        · refine xr_steps (pc' := 28) (L' := [(3, .int (Int32.ofInt 1)), (2, .int (Int32.ofInt ((xsz 6 u : Nat) : Int))), (0, .ref 165), (1, .int (Int32.ofInt (i : Int)))]) (st' := [.int (Int32.ofInt 1)]) 4 rfl ?_
          refine xr_if_eq rfl (by omega) (fun z38 => ?_) (fun z38 => ?_)
          · exfalso; omega
          · refine xr_steps (pc' := 32) (L' := [(3, .int (Int32.ofInt 1)), (2, .int (Int32.ofInt ((xsz 6 u : Nat) : Int))), (0, .ref 165), (1, .int (Int32.ofInt (i : Int)))]) (st' := [.ref 165]) 1 rfl ?_
            refine xr_getf (v := .ref 168) rfl (ym_165 hA) rfl ?_
            refine xr_steps (pc' := 36) (L' := [(3, .int (Int32.ofInt 1)), (2, .int (Int32.ofInt ((xsz 6 u : Nat) : Int))), (0, .ref 165), (1, .int (Int32.ofInt (i : Int)))]) (st' := [.int (Int32.ofInt (i : Int)), .ref 168]) 1 rfl ?_
            refine ym_iaload (e := T2 168 (i : Int).toNat) hA rfl rfl (by decide) (by omega) (by omega) rfl ?_
            rw [show (i : Int).toNat = i by omega]
            refine xr_if_le rfl (by omega) (fun z39 => ?_) (fun z39 => ?_)
            · refine xr_steps (pc' := 49) (L' := [(4, .int (Int32.ofInt 0)), (3, .int (Int32.ofInt 1)), (2, .int (Int32.ofInt ((xsz 6 u : Nat) : Int))), (0, .ref 165), (1, .int (Int32.ofInt (i : Int)))]) (st' := [.int (Int32.ofInt 1), .ref 165]) 4 rfl ?_
              refine xr_if_ne rfl (by omega) (fun z40 => ?_) (fun z40 => ?_)
              · refine xr_steps (pc' := 58) (L' := [(4, .int (Int32.ofInt 0)), (3, .int (Int32.ofInt 1)), (2, .int (Int32.ofInt ((xsz 6 u : Nat) : Int))), (0, .ref 165), (1, .int (Int32.ofInt (i : Int)))]) (st' := [.int (Int32.ofInt 0), .ref 165]) 1 rfl ?_
                refine xr_if_eq rfl (by omega) (fun z41 => ?_) (fun z41 => ?_)
                · refine xr_steps (pc' := 80) (L' := [(4, .int (Int32.ofInt 0)), (3, .int (Int32.ofInt 1)), (2, .int (Int32.ofInt ((xsz 6 u : Nat) : Int))), (0, .ref 165), (1, .int (Int32.ofInt (i : Int)))]) (st' := [.int (Int32.ofInt 0), .ref 165]) 1 rfl ?_
                  refine ym_putI hA rfl rfl rfl ?_
                  refine xr_steps (pc' := 84) (L' := [(4, .int (Int32.ofInt 0)), (3, .int (Int32.ofInt 1)), (2, .int (Int32.ofInt ((xsz 6 u : Nat) : Int))), (0, .ref 165), (1, .int (Int32.ofInt (i : Int)))]) (st' := [.ref 165]) 1 rfl ?_
                  refine xr_getf (v := .int (Int32.ofInt 0)) rfl (ym_165 hA) rfl ?_
                  refine xr_if_ne rfl (by omega) (fun z42 => ?_) (fun z42 => ?_)
                  · exfalso; omega
                  · refine xr_steps (pc' := 92) (L' := [(4, .int (Int32.ofInt 0)), (3, .int (Int32.ofInt 1)), (2, .int (Int32.ofInt ((xsz 6 u : Nat) : Int))), (0, .ref 165), (1, .int (Int32.ofInt (i : Int)))]) (st' := [.int (Int32.ofInt 0)]) 1 rfl ?_
                    refine xr_if_ne rfl (by omega) (fun z43 => ?_) (fun z43 => ?_)
                    · exfalso; omega
                    · refine xr_steps (pc' := 99) (L' := [(4, .int (Int32.ofInt 0)), (3, .int (Int32.ofInt 1)), (2, .int (Int32.ofInt ((xsz 6 u : Nat) : Int))), (0, .ref 165), (1, .int (Int32.ofInt (i : Int)))]) (st' := [.int (Int32.ofInt (i : Int)), .int (Int32.ofInt 100), .ref 165]) 3 rfl ?_
                      refine xr_imul rfl ?_
                      rw [show 100 * (i : Int) = ((100 * i : Nat) : Int) by omega]
                      refine xr_call (q := (.invokevirtual 160, 3, 224, 2)) (av := [.ref 165, .int (Int32.ofInt ((100 * i : Nat) : Int))]) (rest := []) rfl rfl (by decide) rfl (ym_rcv hA rfl) (Nat.le_of_ble_eq_true rfl) (mo_224 (n := T.length) hA hCL.2.2.1 (by show s 2 = _; omega) h.1.2.1 (by omega)) ?_
                      rintro _ _ ⟨rfl, g, eA, hg⟩
                      rw [eA]
                      clear eA
                      refine xr_steps (pc' := 104) (L' := [(4, .int (Int32.ofInt 0)), (3, .int (Int32.ofInt 1)), (2, .int (Int32.ofInt ((xsz 6 u : Nat) : Int))), (0, .ref 165), (1, .int (Int32.ofInt (i : Int)))]) (st' := [.ref 165]) 1 rfl ?_
                      refine xr_getf (v := .ref 168) rfl (ym_165 hA) rfl ?_
                      refine xr_steps (pc' := 109) (L' := [(4, .int (Int32.ofInt 0)), (3, .int (Int32.ofInt 1)), (2, .int (Int32.ofInt ((xsz 6 u : Nat) : Int))), (0, .ref 165), (1, .int (Int32.ofInt (i : Int)))]) (st' := [.ref 165, .int (Int32.ofInt (i : Int)), .ref 168]) 2 rfl ?_
                      refine xr_getf (v := .int (Int32.ofInt (s 2))) rfl (ym_165 hA) rfl ?_
                      refine ym_iastore hA rfl rfl (by decide) (by omega) (by omega) ?_
                      rw [show (i : Int).toNat = i by omega]
                      refine xr_steps (pc' := 115) (L' := [(4, .int (Int32.ofInt 0)), (3, .int (Int32.ofInt 1)), (2, .int (Int32.ofInt ((xsz 6 u : Nat) : Int))), (0, .ref 165), (1, .int (Int32.ofInt (i : Int)))]) (st' := [.int (Int32.ofInt 0), .ref 165]) 2 rfl ?_
                      refine ym_putI hA rfl rfl rfl ?_
                      refine xr_steps (pc' := 119) (L' := [(4, .int (Int32.ofInt 0)), (3, .int (Int32.ofInt 1)), (2, .int (Int32.ofInt ((xsz 6 u : Nat) : Int))), (0, .ref 165), (1, .int (Int32.ofInt (i : Int)))]) (st' := [.ref 165]) 1 rfl ?_
                      refine xr_getf (v := .int (Int32.ofInt 0)) rfl (ym_165 hA) rfl ?_
                      refine xr_if_ne rfl (by omega) (fun z44 => ?_) (fun z44 => ?_)
                      · exfalso; omega
                      · refine xr_steps (pc' := 130) (L' := [(4, .int (Int32.ofInt 0)), (3, .int (Int32.ofInt 1)), (2, .int (Int32.ofInt ((xsz 6 u : Nat) : Int))), (0, .ref 165), (1, .int (Int32.ofInt (i : Int)))]) (st' := [.int (Int32.ofInt ((xsz 6 u : Nat) : Int))]) 2 rfl ?_
                        refine xr_retI2 rfl rfl ⟨_, rfl, ((xsz 6 u : Nat) : Int), _, _, ins.set i (I.1, I.2.1, I.2.2.1, some u), rfl, rfl, ?_, ?_⟩
                        · exact xCL_body h hI hCL hu hg ⟨by simp [va_up], by simp [va_up], by simp [va_up], by simp [va_up]⟩
                        · exact Or.inr ⟨i, I, u, rfl, hI, hu, Or.inl ⟨xIR_none hIR (by omega), ⟨by simp [va_up], rfl⟩, rfl⟩⟩
                · exfalso; omega
              · exfalso; omega
            · refine xr_steps (pc' := 49) (L' := [(4, .int (Int32.ofInt 1)), (3, .int (Int32.ofInt 1)), (2, .int (Int32.ofInt ((xsz 6 u : Nat) : Int))), (0, .ref 165), (1, .int (Int32.ofInt (i : Int)))]) (st' := [.int (Int32.ofInt 1), .ref 165]) 5 rfl ?_
              refine xr_if_ne rfl (by omega) (fun z45 => ?_) (fun z45 => ?_)
              · refine xr_steps (pc' := 58) (L' := [(4, .int (Int32.ofInt 1)), (3, .int (Int32.ofInt 1)), (2, .int (Int32.ofInt ((xsz 6 u : Nat) : Int))), (0, .ref 165), (1, .int (Int32.ofInt (i : Int)))]) (st' := [.int (Int32.ofInt 1), .ref 165]) 1 rfl ?_
                refine xr_if_eq rfl (by omega) (fun z46 => ?_) (fun z46 => ?_)
                · exfalso; omega
                · refine xr_steps (pc' := 65) (L' := [(4, .int (Int32.ofInt 1)), (3, .int (Int32.ofInt 1)), (2, .int (Int32.ofInt ((xsz 6 u : Nat) : Int))), (0, .ref 165), (1, .int (Int32.ofInt (i : Int)))]) (st' := [.int (Int32.ofInt (i : Int)), .int (Int32.ofInt 100), .ref 165, .ref 165]) 3 rfl ?_
                  refine xr_imul rfl ?_
                  refine xr_steps (pc' := 69) (L' := [(4, .int (Int32.ofInt 1)), (3, .int (Int32.ofInt 1)), (2, .int (Int32.ofInt ((xsz 6 u : Nat) : Int))), (0, .ref 165), (1, .int (Int32.ofInt (i : Int)))]) (st' := [.int (Int32.ofInt 400), .int (Int32.ofInt (100 * (i : Int))), .ref 165, .ref 165]) 1 rfl ?_
                  obtain ⟨u', hex, hbr⟩ := xIR_some hIR (by omega)
                  have hbr2 := xBR_keep (t' := T2) (by omega) hbr (by rw [hCL.1 168 (by omega) (by omega)]) (fun j hj => hCL.2.1 _ (by omega))
                  obtain ⟨z1, hV1, hz1'⟩ := xBR_V hbr2
                  have hV2 := xCL_V hCL h.1.2.1 hu
                  rw [show 100 * (i : Int) = ((100 * i : Nat) : Int) by omega, show Int32.ofInt 400 = Int32.ofInt ((400 : Nat) : Int) from rfl]
                  refine xr_call (q := (.invokevirtual 157, 3, 216, 3)) (av := [.ref 165, .int (Int32.ofInt ((100 * i : Nat) : Int)), .int (Int32.ofInt ((400 : Nat) : Int))]) (rest := [.ref 165]) rfl rfl (by decide) rfl (ym_rcv hA rfl) (Nat.le_of_ble_eq_true rfl) (mo_216 hA hCL.2.2.1 (by omega) hV1 hV2 (by omega) (by omega)) ?_
                  rintro _ _ ⟨b, T3, ⟨rfl, eA, hsm⟩, hb⟩
                  rw [eA]
                  clear eA
                  have hCL3 := xCL_sm hCL hsm
                  rcases hb with ⟨rfl, hq⟩ | ⟨rfl, hq⟩
                  · refine xr_if_ne rfl (by omega) (fun z47 => ?_) (fun z47 => ?_)
                    · refine xr_steps (pc' := 80) (L' := [(4, .int (Int32.ofInt 1)), (3, .int (Int32.ofInt 1)), (2, .int (Int32.ofInt ((xsz 6 u : Nat) : Int))), (0, .ref 165), (1, .int (Int32.ofInt (i : Int)))]) (st' := [.int (Int32.ofInt 0), .ref 165]) 1 rfl ?_
                      refine ym_putI hA rfl rfl rfl ?_
                      refine xr_steps (pc' := 84) (L' := [(4, .int (Int32.ofInt 1)), (3, .int (Int32.ofInt 1)), (2, .int (Int32.ofInt ((xsz 6 u : Nat) : Int))), (0, .ref 165), (1, .int (Int32.ofInt (i : Int)))]) (st' := [.ref 165]) 1 rfl ?_
                      refine xr_getf (v := .int (Int32.ofInt 0)) rfl (ym_165 hA) rfl ?_
                      refine xr_if_ne rfl (by omega) (fun z48 => ?_) (fun z48 => ?_)
                      · exfalso; omega
                      · refine xr_steps (pc' := 92) (L' := [(4, .int (Int32.ofInt 1)), (3, .int (Int32.ofInt 1)), (2, .int (Int32.ofInt ((xsz 6 u : Nat) : Int))), (0, .ref 165), (1, .int (Int32.ofInt (i : Int)))]) (st' := [.int (Int32.ofInt 1)]) 1 rfl ?_
                        refine xr_if_ne rfl (by omega) (fun z49 => ?_) (fun z49 => ?_)
                        · refine xr_steps (pc' := 115) (L' := [(4, .int (Int32.ofInt 1)), (3, .int (Int32.ofInt 1)), (2, .int (Int32.ofInt ((xsz 6 u : Nat) : Int))), (0, .ref 165), (1, .int (Int32.ofInt (i : Int)))]) (st' := [.int (Int32.ofInt 0), .ref 165]) 2 rfl ?_
                          refine ym_putI hA rfl rfl rfl ?_
                          refine xr_steps (pc' := 119) (L' := [(4, .int (Int32.ofInt 1)), (3, .int (Int32.ofInt 1)), (2, .int (Int32.ofInt ((xsz 6 u : Nat) : Int))), (0, .ref 165), (1, .int (Int32.ofInt (i : Int)))]) (st' := [.ref 165]) 1 rfl ?_
                          refine xr_getf (v := .int (Int32.ofInt 0)) rfl (ym_165 hA) rfl ?_
                          refine xr_if_ne rfl (by omega) (fun z50 => ?_) (fun z50 => ?_)
                          · exfalso; omega
                          · refine xr_steps (pc' := 130) (L' := [(4, .int (Int32.ofInt 1)), (3, .int (Int32.ofInt 1)), (2, .int (Int32.ofInt ((xsz 6 u : Nat) : Int))), (0, .ref 165), (1, .int (Int32.ofInt (i : Int)))]) (st' := [.int (Int32.ofInt ((xsz 6 u : Nat) : Int))]) 2 rfl ?_
                            refine xr_retI2 rfl rfl ⟨_, rfl, ((xsz 6 u : Nat) : Int), _, _, ins, rfl, rfl, ?_, ?_⟩
                            · exact xCL_take h hCL3 ⟨by simp [va_up], by simp [va_up], by simp [va_up], by simp [va_up]⟩
                            · exact Or.inr ⟨i, I, u, rfl, hI, hu, Or.inr ⟨u', hex, Or.inl ⟨hq, ⟨by simp [va_up], rfl⟩, rfl⟩⟩⟩
                        · exfalso; omega
                    · exfalso; omega
                  · refine xr_if_ne rfl (by omega) (fun z51 => ?_) (fun z51 => ?_)
                    · exfalso; omega
                    · refine xr_steps (pc' := 80) (L' := [(4, .int (Int32.ofInt 1)), (3, .int (Int32.ofInt 1)), (2, .int (Int32.ofInt ((xsz 6 u : Nat) : Int))), (0, .ref 165), (1, .int (Int32.ofInt (i : Int)))]) (st' := [.int (Int32.ofInt 2), .ref 165]) 2 rfl ?_
                      refine ym_putI hA rfl rfl rfl ?_
                      refine xr_steps (pc' := 84) (L' := [(4, .int (Int32.ofInt 1)), (3, .int (Int32.ofInt 1)), (2, .int (Int32.ofInt ((xsz 6 u : Nat) : Int))), (0, .ref 165), (1, .int (Int32.ofInt (i : Int)))]) (st' := [.ref 165]) 1 rfl ?_
                      refine xr_getf (v := .int (Int32.ofInt 2)) rfl (ym_165 hA) rfl ?_
                      refine xr_if_ne rfl (by omega) (fun z52 => ?_) (fun z52 => ?_)
                      · refine xr_steps (pc' := 115) (L' := [(4, .int (Int32.ofInt 1)), (3, .int (Int32.ofInt 1)), (2, .int (Int32.ofInt ((xsz 6 u : Nat) : Int))), (0, .ref 165), (1, .int (Int32.ofInt (i : Int)))]) (st' := [.int (Int32.ofInt 0), .ref 165]) 2 rfl ?_
                        refine ym_putI hA rfl rfl rfl ?_
                        refine xr_steps (pc' := 119) (L' := [(4, .int (Int32.ofInt 1)), (3, .int (Int32.ofInt 1)), (2, .int (Int32.ofInt ((xsz 6 u : Nat) : Int))), (0, .ref 165), (1, .int (Int32.ofInt (i : Int)))]) (st' := [.ref 165]) 1 rfl ?_
                        refine xr_getf (v := .int (Int32.ofInt 2)) rfl (ym_165 hA) rfl ?_
                        refine xr_if_ne rfl (by omega) (fun z53 => ?_) (fun z53 => ?_)
                        · refine xr_steps (pc' := 130) (L' := [(4, .int (Int32.ofInt 1)), (3, .int (Int32.ofInt 1)), (2, .int (Int32.ofInt ((xsz 6 u : Nat) : Int))), (0, .ref 165), (1, .int (Int32.ofInt (i : Int)))]) (st' := [.int (Int32.ofInt 0)]) 1 rfl ?_
                          refine xr_retI2 rfl rfl ⟨_, rfl, 0, _, _, ins, rfl, rfl, ?_, ?_⟩
                          · exact xCL_take h hCL3 ⟨by simp [va_up], by simp [va_up], by simp [va_up], by simp [va_up]⟩
                          · exact Or.inr ⟨i, I, u, rfl, hI, hu, Or.inr ⟨u', hex, Or.inr ⟨hq, by simp [va_up], rfl⟩⟩⟩
                        · exfalso; omega
                      · exfalso; omega
              · exfalso; omega
    · refine xr_if_eq rfl (by omega) (fun z54 => ?_) (fun z54 => ?_)
      · refine xr_steps (pc' := 28) (L' := [(3, .int (Int32.ofInt 0)), (2, .int (Int32.ofInt ((xsz 6 u : Nat) : Int))), (0, .ref 165), (1, .int (Int32.ofInt k))]) (st' := [.int (Int32.ofInt 0)]) 3 rfl ?_
        refine xr_if_eq rfl (by omega) (fun z55 => ?_) (fun z55 => ?_)
        · refine xr_steps (pc' := 49) (L' := [(4, .int (Int32.ofInt 0)), (3, .int (Int32.ofInt 0)), (2, .int (Int32.ofInt ((xsz 6 u : Nat) : Int))), (0, .ref 165), (1, .int (Int32.ofInt k))]) (st' := [.int (Int32.ofInt 0), .ref 165]) 4 rfl ?_
          refine xr_if_ne rfl (by omega) (fun z56 => ?_) (fun z56 => ?_)
          · exfalso; omega
          · refine xr_steps (pc' := 80) (L' := [(4, .int (Int32.ofInt 0)), (3, .int (Int32.ofInt 0)), (2, .int (Int32.ofInt ((xsz 6 u : Nat) : Int))), (0, .ref 165), (1, .int (Int32.ofInt k))]) (st' := [.int (Int32.ofInt 1), .ref 165]) 2 rfl ?_
            refine ym_putI hA rfl rfl rfl ?_
            refine xr_steps (pc' := 84) (L' := [(4, .int (Int32.ofInt 0)), (3, .int (Int32.ofInt 0)), (2, .int (Int32.ofInt ((xsz 6 u : Nat) : Int))), (0, .ref 165), (1, .int (Int32.ofInt k))]) (st' := [.ref 165]) 1 rfl ?_
            refine xr_getf (v := .int (Int32.ofInt 1)) rfl (ym_165 hA) rfl ?_
            refine xr_if_ne rfl (by omega) (fun z57 => ?_) (fun z57 => ?_)
            · refine xr_steps (pc' := 115) (L' := [(4, .int (Int32.ofInt 0)), (3, .int (Int32.ofInt 0)), (2, .int (Int32.ofInt ((xsz 6 u : Nat) : Int))), (0, .ref 165), (1, .int (Int32.ofInt k))]) (st' := [.int (Int32.ofInt 0), .ref 165]) 2 rfl ?_
              refine ym_putI hA rfl rfl rfl ?_
              refine xr_steps (pc' := 119) (L' := [(4, .int (Int32.ofInt 0)), (3, .int (Int32.ofInt 0)), (2, .int (Int32.ofInt ((xsz 6 u : Nat) : Int))), (0, .ref 165), (1, .int (Int32.ofInt k))]) (st' := [.ref 165]) 1 rfl ?_
              refine xr_getf (v := .int (Int32.ofInt 1)) rfl (ym_165 hA) rfl ?_
              refine xr_if_ne rfl (by omega) (fun z58 => ?_) (fun z58 => ?_)
              · refine xr_steps (pc' := 130) (L' := [(4, .int (Int32.ofInt 0)), (3, .int (Int32.ofInt 0)), (2, .int (Int32.ofInt ((xsz 6 u : Nat) : Int))), (0, .ref 165), (1, .int (Int32.ofInt k))]) (st' := [.int (Int32.ofInt 0)]) 1 rfl ?_
                refine xr_retI2 rfl rfl ⟨_, rfl, 0, _, _, ins, rfl, rfl, ?_, ?_⟩
                · exact xCL_take h hCL ⟨by simp [va_up], by simp [va_up], by simp [va_up], by simp [va_up]⟩
                · exact Or.inl ⟨fun e => hin ⟨e.1, by omega⟩, by simp [va_up], rfl⟩
              · exfalso; omega
            · exfalso; omega
        · exfalso; omega
      · exfalso; omega
  · refine xr_steps (pc' := 6) (L' := [(2, .int (Int32.ofInt (-1))), (0, .ref 165), (1, .int (Int32.ofInt k))]) (st' := [.ref 165]) 2 rfl ?_
    refine xr_call (q := (.invokevirtual 150, 3, 214, 1)) (av := [.ref 165]) (rest := []) rfl rfl (by decide) rfl (ym_rcv hA rfl) (Nat.le_of_ble_eq_true rfl) (mo_214 hA (by omega)) ?_
    rintro _ _ ⟨rfl, eA⟩
    rw [eA]
    clear eA
    have hCL := xCL_mk h hk0
    obtain ⟨T2, hT2⟩ : ∃ T2, va_up T1 166 (va_up (T1 166) (400 + s 2).toNat 0) = T2 := ⟨_, rfl⟩
    rw [hT2] at hCL ⊢
    refine xr_steps (pc' := 11) (L' := [(2, .int (Int32.ofInt (-1))), (0, .ref 165), (1, .int (Int32.ofInt k))]) (st' := [.int (Int32.ofInt k), .ref 165]) 2 rfl ?_
    obtain ⟨b59, hb59⟩ := mo_bool (0 ≤ k ∧ k < s 3)
    refine xr_call (q := (.invokevirtual 153, 3, 215, 2)) (av := [.ref 165, .int (Int32.ofInt k)]) (rest := []) rfl rfl (by decide) rfl (ym_rcv hA rfl) (Nat.le_of_ble_eq_true rfl) (mo_215 hA hk (by omega) hb59) ?_
    rintro _ _ ⟨rfl, eA⟩
    rw [eA]
    clear eA
    rcases hb59 with ⟨rfl, hin⟩ | ⟨rfl, hin⟩
    · obtain ⟨i, rfl⟩ : ∃ i : Nat, k = (i : Int) := ⟨k.toNat, by omega⟩
      obtain ⟨I, hI⟩ : ∃ I, ins[i]? = some I := ⟨_, List.getElem?_eq_getElem (show i < ins.length by omega)⟩
      have hIR := h.2.2.1 i I hI
      have hIR8 := xIR_168 hIR
      have hb168 : T2 168 i = t 168 i := by rw [hCL.1 168 (by omega) (by omega)]
      refine xr_if_eq rfl (by omega) (fun z60 => ?_) (fun z60 => ?_)
      · exfalso; omega
      · refine xr_steps (pc' := 18) (L' := [(2, .int (Int32.ofInt (-1))), (0, .ref 165), (1, .int (Int32.ofInt (i : Int)))]) (st' := [.int (Int32.ofInt (-1))]) 1 rfl ?_
        refine xr_if_le rfl (by omega) (fun z61 => ?_) (fun z61 => ?_)
        · refine xr_steps (pc' := 28) (L' := [(3, .int (Int32.ofInt 0)), (2, .int (Int32.ofInt (-1))), (0, .ref 165), (1, .int (Int32.ofInt (i : Int)))]) (st' := [.int (Int32.ofInt 0)]) 3 rfl ?_
          refine xr_if_eq rfl (by omega) (fun z62 => ?_) (fun z62 => ?_)
          · refine xr_steps (pc' := 49) (L' := [(4, .int (Int32.ofInt 0)), (3, .int (Int32.ofInt 0)), (2, .int (Int32.ofInt (-1))), (0, .ref 165), (1, .int (Int32.ofInt (i : Int)))]) (st' := [.int (Int32.ofInt 0), .ref 165]) 4 rfl ?_
            refine xr_if_ne rfl (by omega) (fun z63 => ?_) (fun z63 => ?_)
            · exfalso; omega
            · refine xr_steps (pc' := 80) (L' := [(4, .int (Int32.ofInt 0)), (3, .int (Int32.ofInt 0)), (2, .int (Int32.ofInt (-1))), (0, .ref 165), (1, .int (Int32.ofInt (i : Int)))]) (st' := [.int (Int32.ofInt 1), .ref 165]) 2 rfl ?_
              refine ym_putI hA rfl rfl rfl ?_
              refine xr_steps (pc' := 84) (L' := [(4, .int (Int32.ofInt 0)), (3, .int (Int32.ofInt 0)), (2, .int (Int32.ofInt (-1))), (0, .ref 165), (1, .int (Int32.ofInt (i : Int)))]) (st' := [.ref 165]) 1 rfl ?_
              refine xr_getf (v := .int (Int32.ofInt 1)) rfl (ym_165 hA) rfl ?_
              refine xr_if_ne rfl (by omega) (fun z64 => ?_) (fun z64 => ?_)
              · refine xr_steps (pc' := 115) (L' := [(4, .int (Int32.ofInt 0)), (3, .int (Int32.ofInt 0)), (2, .int (Int32.ofInt (-1))), (0, .ref 165), (1, .int (Int32.ofInt (i : Int)))]) (st' := [.int (Int32.ofInt 0), .ref 165]) 2 rfl ?_
                refine ym_putI hA rfl rfl rfl ?_
                refine xr_steps (pc' := 119) (L' := [(4, .int (Int32.ofInt 0)), (3, .int (Int32.ofInt 0)), (2, .int (Int32.ofInt (-1))), (0, .ref 165), (1, .int (Int32.ofInt (i : Int)))]) (st' := [.ref 165]) 1 rfl ?_
                refine xr_getf (v := .int (Int32.ofInt 1)) rfl (ym_165 hA) rfl ?_
                refine xr_if_ne rfl (by omega) (fun z65 => ?_) (fun z65 => ?_)
                · refine xr_steps (pc' := 130) (L' := [(4, .int (Int32.ofInt 0)), (3, .int (Int32.ofInt 0)), (2, .int (Int32.ofInt (-1))), (0, .ref 165), (1, .int (Int32.ofInt (i : Int)))]) (st' := [.int (Int32.ofInt 0)]) 1 rfl ?_
                  refine xr_retI2 rfl rfl ⟨_, rfl, 0, _, _, ins, rfl, rfl, ?_, ?_⟩
                  · exact xCL_take h hCL ⟨by simp [va_up], by simp [va_up], by simp [va_up], by simp [va_up]⟩
                  · exact Or.inl ⟨fun e => hu e.2.2, by simp [va_up], rfl⟩
                · exfalso; omega
              · exfalso; omega
          · exfalso; omega
        · exfalso; omega
    · refine xr_if_eq rfl (by omega) (fun z66 => ?_) (fun z66 => ?_)
      · refine xr_steps (pc' := 28) (L' := [(3, .int (Int32.ofInt 0)), (2, .int (Int32.ofInt (-1))), (0, .ref 165), (1, .int (Int32.ofInt k))]) (st' := [.int (Int32.ofInt 0)]) 3 rfl ?_
        refine xr_if_eq rfl (by omega) (fun z67 => ?_) (fun z67 => ?_)
        · refine xr_steps (pc' := 49) (L' := [(4, .int (Int32.ofInt 0)), (3, .int (Int32.ofInt 0)), (2, .int (Int32.ofInt (-1))), (0, .ref 165), (1, .int (Int32.ofInt k))]) (st' := [.int (Int32.ofInt 0), .ref 165]) 4 rfl ?_
          refine xr_if_ne rfl (by omega) (fun z68 => ?_) (fun z68 => ?_)
          · exfalso; omega
          · refine xr_steps (pc' := 80) (L' := [(4, .int (Int32.ofInt 0)), (3, .int (Int32.ofInt 0)), (2, .int (Int32.ofInt (-1))), (0, .ref 165), (1, .int (Int32.ofInt k))]) (st' := [.int (Int32.ofInt 1), .ref 165]) 2 rfl ?_
            refine ym_putI hA rfl rfl rfl ?_
            refine xr_steps (pc' := 84) (L' := [(4, .int (Int32.ofInt 0)), (3, .int (Int32.ofInt 0)), (2, .int (Int32.ofInt (-1))), (0, .ref 165), (1, .int (Int32.ofInt k))]) (st' := [.ref 165]) 1 rfl ?_
            refine xr_getf (v := .int (Int32.ofInt 1)) rfl (ym_165 hA) rfl ?_
            refine xr_if_ne rfl (by omega) (fun z69 => ?_) (fun z69 => ?_)
            · refine xr_steps (pc' := 115) (L' := [(4, .int (Int32.ofInt 0)), (3, .int (Int32.ofInt 0)), (2, .int (Int32.ofInt (-1))), (0, .ref 165), (1, .int (Int32.ofInt k))]) (st' := [.int (Int32.ofInt 0), .ref 165]) 2 rfl ?_
              refine ym_putI hA rfl rfl rfl ?_
              refine xr_steps (pc' := 119) (L' := [(4, .int (Int32.ofInt 0)), (3, .int (Int32.ofInt 0)), (2, .int (Int32.ofInt (-1))), (0, .ref 165), (1, .int (Int32.ofInt k))]) (st' := [.ref 165]) 1 rfl ?_
              refine xr_getf (v := .int (Int32.ofInt 1)) rfl (ym_165 hA) rfl ?_
              refine xr_if_ne rfl (by omega) (fun z70 => ?_) (fun z70 => ?_)
              · refine xr_steps (pc' := 130) (L' := [(4, .int (Int32.ofInt 0)), (3, .int (Int32.ofInt 0)), (2, .int (Int32.ofInt (-1))), (0, .ref 165), (1, .int (Int32.ofInt k))]) (st' := [.int (Int32.ofInt 0)]) 1 rfl ?_
                refine xr_retI2 rfl rfl ⟨_, rfl, 0, _, _, ins, rfl, rfl, ?_, ?_⟩
                · exact xCL_take h hCL ⟨by simp [va_up], by simp [va_up], by simp [va_up], by simp [va_up]⟩
                · exact Or.inl ⟨fun e => hin ⟨e.1, by omega⟩, by simp [va_up], rfl⟩
              · exfalso; omega
            · exfalso; omega
        · exfalso; omega
      · exfalso; omega
/-! The reference: rule -/
/-- what rule answers -/
def xRO (T : List Int) (ins : List xI) (k : Int) (c r : Int) (ins' : List xI) : Prop := (¬ (0 ≤ k ∧ k < (ins.length : Int) ∧ ∃ (ps : List Int) (mt : List (Int × Int × List Int)) (sp : Int), xRT T ps mt sp) ∧ c = 1 ∧ ins' = ins) ∨ ∃ (i : Nat) (I : xI) (ps : List Int) (mt : List (Int × Int × List Int)) (sp : Int), k = (i : Int) ∧ ins[i]? = some I ∧ xRT T ps mt sp ∧ ((I.2.1.length < 8 ∧ (c = 0 ∧ r = (I.2.1.length : Int)) ∧ ins' = ins.set i (I.1, I.2.1 ++ [(ps, mt, sp)], I.2.2)) ∨ (¬ I.2.1.length < 8 ∧ c = 2 ∧ ins' = ins))
theorem xJR_rule {s s' : Nat → Int} {t t' : Nat → Nat → Int} {T : List Int} {ins : List xI} {hd : Nat → Int} {ev : List Int} {ms : List (Int × List Int)} {i : Nat} {I : xI} {g : Nat → Int} {ps : List Int} {mt : List (Int × Int × List Int)} {sp : Int} (h : xJR s t T ins hd ev ms) (hI : ins[i]? = some I) (hl : I.2.1.length < 8) (hr : xRT T ps mt sp) (hg : xkp t (510 + 100 * (8 * i + I.2.1.length)) T.length g) (hs : s' 2 = 0 ∧ s' 3 = s 3 ∧ s' 11 = s 11 ∧ s' 13 = s 13) (r166 : t' 166 = g) (r170 : ∀ j : Nat, ¬ j = 8 * i + I.2.1.length → t' 170 j = t 170 j) (r170i : t' 170 (8 * i + I.2.1.length) = (T.length : Int)) (r169 : ∀ j : Nat, ¬ j = i → t' 169 j = t 169 j) (r169i : t' 169 i = (I.2.1.length : Int) + 1) (rx : ∀ x : Nat, 167 ≤ x → x ≤ 177 → ¬ x = 169 → ¬ x = 170 → t' x = t x) : xJR s' t' [] (ins.set i (I.1, I.2.1 ++ [(ps, mt, sp)], I.2.2)) hd ev ms := by
  have hil := (List.getElem?_eq_some_iff.mp hI).1
  have hl4 := h.2.1.2
  have hT := h.1.2.1
  have hIR := h.2.2.1 i I hI
  have hE := h.1.2.2.1
  have hTx := h.1.2.2.2
  obtain ⟨g1, g2, g3⟩ := hg
  have hgo : ∀ j : Nat, ¬ (510 + 100 * (8 * i + I.2.1.length) ≤ j ∧ j < 610 + 100 * (8 * i + I.2.1.length)) → t' 166 j = t 166 j := fun j hn => by rw [r166, g3 j (by omega)]
  refine xJR_set h hI hs (fun x a b _ e2 e3 => rx x a b e2 e3) (fun j hj => ⟨by rw [rx 168 (by omega) (by omega) (by omega) (by omega)], r169 j hj⟩) (fun j hj => r170 j (by omega)) (fun j hj _ hn => hgo j (by omega)) (fun j => ?_) ?_
  · rw [r166]
    by_cases hj : 510 + 100 * (8 * i + I.2.1.length) ≤ j ∧ j < 510 + 100 * (8 * i + I.2.1.length) + T.length
    · have := g1 (j - (510 + 100 * (8 * i + I.2.1.length))) (by omega)
      rw [show 510 + 100 * (8 * i + I.2.1.length) + (j - (510 + 100 * (8 * i + I.2.1.length))) = j by omega] at this
      rw [this]
      exact hE _
    · by_cases hj2 : j = 510 + 100 * (8 * i + I.2.1.length) + T.length ∧ T.length < 100
      · rw [hj2.1, g2 hj2.2]; omega
      · rw [g3 j (by omega)]; exact hE j
  · obtain ⟨a1, ⟨b1, b2, b3⟩, ⟨d1, d2, d3⟩, f1, f2, f3, f4⟩ := hIR
    have e8 : t' 168 = t 168 := rx 168 (by omega) (by omega) (by omega) (by omega)
    refine ⟨by rw [rx 167 (by omega) (by omega) (by omega) (by omega)]; exact a1, ⟨?_, ?_, fun j r hr' => ?_⟩, ⟨by rw [rx 171 (by omega) (by omega) (by omega) (by omega)]; exact d1, d2, fun j hj => by rw [rx 172 (by omega) (by omega) (by omega) (by omega)]; exact d3 j hj⟩, fun e => by rw [e8]; exact f1 e, fun u e => xBR_keep (by omega) (f2 u e) (by rw [e8]) (fun j hj => hgo _ (by omega)), f3, f4⟩
    · rw [r169i]
      show (I.2.1.length : Int) + 1 = ((I.2.1 ++ [(ps, mt, sp)]).length : Int)
      rw [List.length_append, List.length_singleton]
      omega
    · show (I.2.1 ++ [(ps, mt, sp)]).length ≤ 8
      rw [List.length_append, List.length_singleton]
      omega
    · have hr2 : (I.2.1 ++ [(ps, mt, sp)])[j]? = some r := hr'
      by_cases ej : j = I.2.1.length
      · rw [ej, List.getElem?_append_right (Nat.le_refl _), Nat.sub_self] at hr2
        cases hr2
        rw [ej]
        refine ⟨T.length, hT, r170i, ?_, fun k hk => ?_⟩
        · refine (xRU_e (ye_cong (fun j hj => ?_)) _ _ _).2 hr
          show t' 166 (510 + 100 * (8 * i + I.2.1.length) + j) = T.getD j 0
          rw [r166, g1 j hj]
          exact (hTx j hj).1
        · rw [r166, g1 k hk, (hTx k hk).1]
          exact (hTx k hk).2
      · have hj : j < I.2.1.length := by
          have := (List.getElem?_eq_some_iff.mp hr2).1
          rw [List.length_append, List.length_singleton] at this
          omega
        rw [List.getElem?_append_left hj] at hr2
        exact xRL_keep (b3 j r hr2) (r170 _ (by omega)) (fun k hk => hgo _ (by omega))
theorem mo_227 {w : Value} {d : Nat} {A : xb_H} {s : Nat → Int} {t : Nat → Nat → Int} {T : List Int} {ins : List xI} {hd : Nat → Int} {ev : List Int} {ms : List (Int × List Int)} {k : Int} (hA : 194 ≤ A.1) (h : xJR s t T ins hd ev ms) (hk : -2147483648 ≤ k ∧ k ≤ 2147483647) : xr_ok (xt_G w) (d + 1 + 1 + 1 + 1 + 1 + 1) 227 0 [(0, .ref 165), (1, .int (Int32.ofInt k))] [] (ym A s t) (fun o A' => ∃ v0, o = .inl v0 ∧ ∃ (r : Int) (s' : Nat → Int) (t' : Nat → Nat → Int) (ins' : List xI), v0 = some (.int (Int32.ofInt r)) ∧ A' = ym A s' t' ∧ xJR s' t' [] ins' hd ev ms ∧ xRO T ins k (s' 0) r ins') := by
  have hs2 := h.1.1
  have hsT := h.1.2.1
  have hs3 := h.2.1.1
  have hs3l := h.2.1.2
  refine xr_steps (pc' := 1) (L' := [(0, .ref 165), (1, .int (Int32.ofInt k))]) (st' := [.ref 165]) 1 rfl ?_
  refine xr_call (q := (.invokevirtual 173, 3, 228, 1)) (av := [.ref 165]) (rest := []) rfl rfl (by decide) rfl (ym_rcv hA rfl) (Nat.le_of_ble_eq_true rfl) (mo_228 hA (xJR_tx h)) ?_
  rintro _ _ ⟨b, ⟨rfl, eA⟩, hb⟩
  rw [eA]
  clear eA
  rcases hb with ⟨rfl, ps, mt, sp, hru⟩ | ⟨rfl, hu⟩
  · refine xr_if_eq rfl (by omega) (fun z31 => ?_) (fun z31 => ?_)
    · exfalso; omega
    · refine xr_steps (pc' := 9) (L' := [(0, .ref 165), (1, .int (Int32.ofInt k))]) (st' := [.int (Int32.ofInt k), .ref 165]) 2 rfl ?_
      obtain ⟨b32, hb32⟩ := mo_bool (0 ≤ k ∧ k < s 3)
      refine xr_call (q := (.invokevirtual 153, 3, 215, 2)) (av := [.ref 165, .int (Int32.ofInt k)]) (rest := []) rfl rfl (by decide) rfl (ym_rcv hA rfl) (Nat.le_of_ble_eq_true rfl) (mo_215 hA hk (by omega) hb32) ?_
      rintro _ _ ⟨rfl, eA⟩
      rw [eA]
      clear eA
      rcases hb32 with ⟨rfl, hin⟩ | ⟨rfl, hin⟩
      · obtain ⟨i, rfl⟩ : ∃ i : Nat, k = (i : Int) := ⟨k.toNat, by omega⟩
        obtain ⟨I, hI⟩ : ∃ I, ins[i]? = some I := ⟨_, List.getElem?_eq_getElem (show i < ins.length by omega)⟩
        have hIR := h.2.2.1 i I hI
        have hIR8 := xIR_168 hIR
        obtain ⟨m, hmI⟩ : ∃ m : Nat, m = I.2.1.length := ⟨_, rfl⟩
        have hm : t 169 i = (m : Int) := by rw [hmI]; exact hIR.2.1.1
        have hm8 : m ≤ 8 := by rw [hmI]; exact hIR.2.1.2.1
        refine xr_if_eq rfl (by omega) (fun z33 => ?_) (fun z33 => ?_)
        · exfalso; omega
        · refine xr_steps (pc' := 23) (L' := [(2, .int (Int32.ofInt 1)), (0, .ref 165), (1, .int (Int32.ofInt (i : Int)))]) (st' := [.int (Int32.ofInt 1), .ref 165]) 5 rfl ?_
          refine xr_if_ne rfl (by omega) (fun z34 => ?_) (fun z34 => ?_)
          · refine xr_steps (pc' := 31) (L' := [(2, .int (Int32.ofInt 1)), (0, .ref 165), (1, .int (Int32.ofInt (i : Int)))]) (st' := [.ref 165, .ref 165]) 1 rfl ?_
            refine xr_getf (v := .ref 169) rfl (ym_165 hA) rfl ?_
            refine xr_steps (pc' := 35) (L' := [(2, .int (Int32.ofInt 1)), (0, .ref 165), (1, .int (Int32.ofInt (i : Int)))]) (st' := [.int (Int32.ofInt (i : Int)), .ref 169, .ref 165]) 1 rfl ?_
            refine ym_iaload (e := t 169 (i : Int).toNat) hA rfl rfl (by decide) (by omega) (by omega) rfl ?_
            rw [show (i : Int).toNat = i by omega]
            rw [hm]
            refine xr_steps (pc' := 38) (L' := [(2, .int (Int32.ofInt 1)), (0, .ref 165), (1, .int (Int32.ofInt (i : Int)))]) (st' := [.int (Int32.ofInt 8), .int (Int32.ofInt (m : Int)), .ref 165]) 1 rfl ?_
            refine xr_icmp_ne rfl (by omega) (by omega) (fun z35 => ?_) (fun z35 => ?_)
            · refine xr_steps (pc' := 46) (L' := [(2, .int (Int32.ofInt 1)), (0, .ref 165), (1, .int (Int32.ofInt (i : Int)))]) (st' := [.int (Int32.ofInt 0), .ref 165]) 1 rfl ?_
              refine ym_putI hA rfl rfl rfl ?_
              refine xr_steps (pc' := 52) (L' := [(3, .int (Int32.ofInt 0)), (2, .int (Int32.ofInt 1)), (0, .ref 165), (1, .int (Int32.ofInt (i : Int)))]) (st' := [.ref 165]) 3 rfl ?_
              refine xr_getf (v := .int (Int32.ofInt 0)) rfl (ym_165 hA) rfl ?_
              refine xr_if_ne rfl (by omega) (fun z36 => ?_) (fun z36 => ?_)
              · exfalso; omega
              · refine xr_steps (pc' := 61) (L' := [(3, .int (Int32.ofInt 0)), (2, .int (Int32.ofInt 1)), (0, .ref 165), (1, .int (Int32.ofInt (i : Int)))]) (st' := [.int (Int32.ofInt (i : Int)), .int (Int32.ofInt 8)]) 2 rfl ?_
                refine xr_imul rfl ?_
                refine xr_steps (pc' := 63) (L' := [(3, .int (Int32.ofInt 0)), (2, .int (Int32.ofInt 1)), (0, .ref 165), (1, .int (Int32.ofInt (i : Int)))]) (st' := [.ref 165, .int (Int32.ofInt (8 * (i : Int)))]) 1 rfl ?_
                refine xr_getf (v := .ref 169) rfl (ym_165 hA) rfl ?_
                refine xr_steps (pc' := 67) (L' := [(3, .int (Int32.ofInt 0)), (2, .int (Int32.ofInt 1)), (0, .ref 165), (1, .int (Int32.ofInt (i : Int)))]) (st' := [.int (Int32.ofInt (i : Int)), .ref 169, .int (Int32.ofInt (8 * (i : Int)))]) 1 rfl ?_
                refine ym_iaload (e := t 169 (i : Int).toNat) hA rfl rfl (by decide) (by omega) (by omega) rfl ?_
                rw [show (i : Int).toNat = i by omega]
                rw [hm]
                refine xr_iadd rfl ?_
                refine xr_steps (pc' := 79) (L' := [(4, .int (Int32.ofInt ((8 * (i : Int)) + (m : Int)))), (3, .int (Int32.ofInt 0)), (2, .int (Int32.ofInt 1)), (0, .ref 165), (1, .int (Int32.ofInt (i : Int)))]) (st' := [.int (Int32.ofInt ((8 * (i : Int)) + (m : Int))), .int (Int32.ofInt 100), .int (Int32.ofInt 510), .ref 165]) 5 rfl ?_
                refine xr_imul rfl ?_
                refine xr_iadd rfl ?_
                rw [show (510 : Int) + 100 * (8 * (i : Int) + (m : Int)) = ((510 + 100 * (8 * i + m) : Nat) : Int) by omega]
                refine xr_call (q := (.invokevirtual 160, 3, 224, 2)) (av := [.ref 165, .int (Int32.ofInt ((510 + 100 * (8 * i + m) : Nat) : Int))]) (rest := []) rfl rfl (by decide) rfl (ym_rcv hA rfl) (Nat.le_of_ble_eq_true rfl) (mo_224 (n := T.length) hA h.1.2.2.1 (by show s 2 = _; omega) h.1.2.1 (by omega)) ?_
                rintro _ _ ⟨rfl, g, eA, hg⟩
                rw [eA]
                clear eA
                refine xr_steps (pc' := 85) (L' := [(4, .int (Int32.ofInt ((8 * (i : Int)) + (m : Int)))), (3, .int (Int32.ofInt 0)), (2, .int (Int32.ofInt 1)), (0, .ref 165), (1, .int (Int32.ofInt (i : Int)))]) (st' := [.ref 165]) 1 rfl ?_
                refine xr_getf (v := .ref 170) rfl (ym_165 hA) rfl ?_
                refine xr_steps (pc' := 91) (L' := [(4, .int (Int32.ofInt ((8 * (i : Int)) + (m : Int)))), (3, .int (Int32.ofInt 0)), (2, .int (Int32.ofInt 1)), (0, .ref 165), (1, .int (Int32.ofInt (i : Int)))]) (st' := [.ref 165, .int (Int32.ofInt ((8 * (i : Int)) + (m : Int))), .ref 170]) 2 rfl ?_
                refine xr_getf (v := .int (Int32.ofInt (s 2))) rfl (ym_165 hA) rfl ?_
                refine ym_iastore hA rfl rfl (by decide) (by omega) (by omega) ?_
                rw [show ((8 * (i : Int)) + (m : Int)).toNat = (8 * i) + m by omega]
                refine xr_steps (pc' := 96) (L' := [(4, .int (Int32.ofInt ((8 * (i : Int)) + (m : Int)))), (3, .int (Int32.ofInt 0)), (2, .int (Int32.ofInt 1)), (0, .ref 165), (1, .int (Int32.ofInt (i : Int)))]) (st' := [.ref 165]) 1 rfl ?_
                refine xr_getf (v := .ref 169) rfl (ym_165 hA) rfl ?_
                refine xr_steps (pc' := 100) (L' := [(4, .int (Int32.ofInt ((8 * (i : Int)) + (m : Int)))), (3, .int (Int32.ofInt 0)), (2, .int (Int32.ofInt 1)), (0, .ref 165), (1, .int (Int32.ofInt (i : Int)))]) (st' := [.int (Int32.ofInt (i : Int)), .ref 169]) 1 rfl ?_
                refine ym_iaload (e := (va_up t 166 g) 169 (i : Int).toNat) hA rfl rfl (by decide) (by omega) (by omega) rfl ?_
                rw [show (i : Int).toNat = i by omega]
                rw [show (va_up t 166 g) 169 i = (m : Int) from hm]
                refine xr_steps (pc' := 103) (L' := [(3, .int (Int32.ofInt (m : Int))), (4, .int (Int32.ofInt ((8 * (i : Int)) + (m : Int)))), (2, .int (Int32.ofInt 1)), (0, .ref 165), (1, .int (Int32.ofInt (i : Int)))]) (st' := [.ref 165]) 2 rfl ?_
                refine xr_getf (v := .ref 169) rfl (ym_165 hA) rfl ?_
                refine xr_steps (pc' := 108) (L' := [(3, .int (Int32.ofInt (m : Int))), (4, .int (Int32.ofInt ((8 * (i : Int)) + (m : Int)))), (2, .int (Int32.ofInt 1)), (0, .ref 165), (1, .int (Int32.ofInt (i : Int)))]) (st' := [.int (Int32.ofInt (i : Int)), .ref 169, .int (Int32.ofInt (i : Int)), .ref 169]) 2 rfl ?_
                refine ym_iaload (e := (va_up t 166 g) 169 (i : Int).toNat) hA rfl rfl (by decide) (by omega) (by omega) rfl ?_
                rw [show (i : Int).toNat = i by omega]
                rw [show (va_up t 166 g) 169 i = (m : Int) from hm]
                refine xr_steps (pc' := 110) (L' := [(3, .int (Int32.ofInt (m : Int))), (4, .int (Int32.ofInt ((8 * (i : Int)) + (m : Int)))), (2, .int (Int32.ofInt 1)), (0, .ref 165), (1, .int (Int32.ofInt (i : Int)))]) (st' := [.int (Int32.ofInt 1), .int (Int32.ofInt (m : Int)), .int (Int32.ofInt (i : Int)), .ref 169]) 1 rfl ?_
                refine xr_iadd rfl ?_
                refine ym_iastore hA rfl rfl (by decide) (by omega) (by omega) ?_
                rw [show (i : Int).toNat = i by omega]
                refine xr_steps (pc' := 114) (L' := [(3, .int (Int32.ofInt (m : Int))), (4, .int (Int32.ofInt ((8 * (i : Int)) + (m : Int)))), (2, .int (Int32.ofInt 1)), (0, .ref 165), (1, .int (Int32.ofInt (i : Int)))]) (st' := [.int (Int32.ofInt 0), .ref 165]) 2 rfl ?_
                refine ym_putI hA rfl rfl rfl ?_
                refine xr_steps (pc' := 118) (L' := [(3, .int (Int32.ofInt (m : Int))), (4, .int (Int32.ofInt ((8 * (i : Int)) + (m : Int)))), (2, .int (Int32.ofInt 1)), (0, .ref 165), (1, .int (Int32.ofInt (i : Int)))]) (st' := [.int (Int32.ofInt (m : Int))]) 1 rfl ?_
                refine xr_retI2 rfl rfl ⟨_, rfl, (m : Int), _, _, ins.set i (I.1, I.2.1 ++ [(ps, mt, sp)], I.2.2), rfl, rfl, ?_, ?_⟩
                · rw [hmI] at hg ⊢
                  exact xJR_rule h hI (by omega) hru hg ⟨by simp [va_up], by simp [va_up], by simp [va_up], by simp [va_up]⟩ rfl (fun j hj => ya_up_ne _ _ hj) ((ya_up_same _ _ _).trans hs2) (fun j hj => ya_up_ne _ _ hj) (ya_up_same _ _ _) (fun x a b e1 e2 => by rw [ya_up_ne _ _ e1, ya_up_ne _ _ e2, ya_up_ne _ _ (by omega)])
                · exact Or.inr ⟨i, I, ps, mt, sp, rfl, hI, hru, Or.inl ⟨by omega, ⟨by simp [va_up], by omega⟩, rfl⟩⟩
            · refine xr_steps (pc' := 46) (L' := [(2, .int (Int32.ofInt 1)), (0, .ref 165), (1, .int (Int32.ofInt (i : Int)))]) (st' := [.int (Int32.ofInt 2), .ref 165]) 2 rfl ?_
              refine ym_putI hA rfl rfl rfl ?_
              refine xr_steps (pc' := 52) (L' := [(3, .int (Int32.ofInt 0)), (2, .int (Int32.ofInt 1)), (0, .ref 165), (1, .int (Int32.ofInt (i : Int)))]) (st' := [.ref 165]) 3 rfl ?_
              refine xr_getf (v := .int (Int32.ofInt 2)) rfl (ym_165 hA) rfl ?_
              refine xr_if_ne rfl (by omega) (fun z37 => ?_) (fun z37 => ?_)
              · refine xr_steps (pc' := 114) (L' := [(3, .int (Int32.ofInt 0)), (2, .int (Int32.ofInt 1)), (0, .ref 165), (1, .int (Int32.ofInt (i : Int)))]) (st' := [.int (Int32.ofInt 0), .ref 165]) 2 rfl ?_
                refine ym_putI hA rfl rfl rfl ?_
                refine xr_steps (pc' := 118) (L' := [(3, .int (Int32.ofInt 0)), (2, .int (Int32.ofInt 1)), (0, .ref 165), (1, .int (Int32.ofInt (i : Int)))]) (st' := [.int (Int32.ofInt 0)]) 1 rfl ?_
                refine xr_retI2 rfl rfl ⟨_, rfl, 0, _, _, ins, rfl, rfl, ?_, ?_⟩
                · exact xJR_take h ⟨by simp [va_up], by simp [va_up], by simp [va_up], by simp [va_up]⟩ (fun _ _ _ => rfl) (fun _ _ => rfl) h.1.2.2.1
                · exact Or.inr ⟨i, I, ps, mt, sp, rfl, hI, hru, Or.inr ⟨by omega, by simp [va_up], rfl⟩⟩
              · exfalso; omega
          · exfalso; omega
      · refine xr_if_eq rfl (by omega) (fun z38 => ?_) (fun z38 => ?_)
        · refine xr_steps (pc' := 23) (L' := [(2, .int (Int32.ofInt 0)), (0, .ref 165), (1, .int (Int32.ofInt k))]) (st' := [.int (Int32.ofInt 0), .ref 165]) 4 rfl ?_
          refine xr_if_ne rfl (by omega) (fun z39 => ?_) (fun z39 => ?_)
          · exfalso; omega
          · refine xr_steps (pc' := 46) (L' := [(2, .int (Int32.ofInt 0)), (0, .ref 165), (1, .int (Int32.ofInt k))]) (st' := [.int (Int32.ofInt 1), .ref 165]) 2 rfl ?_
            refine ym_putI hA rfl rfl rfl ?_
            refine xr_steps (pc' := 52) (L' := [(3, .int (Int32.ofInt 0)), (2, .int (Int32.ofInt 0)), (0, .ref 165), (1, .int (Int32.ofInt k))]) (st' := [.ref 165]) 3 rfl ?_
            refine xr_getf (v := .int (Int32.ofInt 1)) rfl (ym_165 hA) rfl ?_
            refine xr_if_ne rfl (by omega) (fun z40 => ?_) (fun z40 => ?_)
            · refine xr_steps (pc' := 114) (L' := [(3, .int (Int32.ofInt 0)), (2, .int (Int32.ofInt 0)), (0, .ref 165), (1, .int (Int32.ofInt k))]) (st' := [.int (Int32.ofInt 0), .ref 165]) 2 rfl ?_
              refine ym_putI hA rfl rfl rfl ?_
              refine xr_steps (pc' := 118) (L' := [(3, .int (Int32.ofInt 0)), (2, .int (Int32.ofInt 0)), (0, .ref 165), (1, .int (Int32.ofInt k))]) (st' := [.int (Int32.ofInt 0)]) 1 rfl ?_
              refine xr_retI2 rfl rfl ⟨_, rfl, 0, _, _, ins, rfl, rfl, ?_, ?_⟩
              · exact xJR_take h ⟨by simp [va_up], by simp [va_up], by simp [va_up], by simp [va_up]⟩ (fun _ _ _ => rfl) (fun _ _ => rfl) h.1.2.2.1
              · exact Or.inl ⟨fun e => hin ⟨e.1, by omega⟩, by simp [va_up], rfl⟩
            · exfalso; omega
        · exfalso; omega
  · refine xr_if_eq rfl (by omega) (fun z41 => ?_) (fun z41 => ?_)
    · refine xr_steps (pc' := 23) (L' := [(2, .int (Int32.ofInt 0)), (0, .ref 165), (1, .int (Int32.ofInt k))]) (st' := [.int (Int32.ofInt 0), .ref 165]) 4 rfl ?_
      refine xr_if_ne rfl (by omega) (fun z42 => ?_) (fun z42 => ?_)
      · exfalso; omega
      · refine xr_steps (pc' := 46) (L' := [(2, .int (Int32.ofInt 0)), (0, .ref 165), (1, .int (Int32.ofInt k))]) (st' := [.int (Int32.ofInt 1), .ref 165]) 2 rfl ?_
        refine ym_putI hA rfl rfl rfl ?_
        refine xr_steps (pc' := 52) (L' := [(3, .int (Int32.ofInt 0)), (2, .int (Int32.ofInt 0)), (0, .ref 165), (1, .int (Int32.ofInt k))]) (st' := [.ref 165]) 3 rfl ?_
        refine xr_getf (v := .int (Int32.ofInt 1)) rfl (ym_165 hA) rfl ?_
        refine xr_if_ne rfl (by omega) (fun z43 => ?_) (fun z43 => ?_)
        · refine xr_steps (pc' := 114) (L' := [(3, .int (Int32.ofInt 0)), (2, .int (Int32.ofInt 0)), (0, .ref 165), (1, .int (Int32.ofInt k))]) (st' := [.int (Int32.ofInt 0), .ref 165]) 2 rfl ?_
          refine ym_putI hA rfl rfl rfl ?_
          refine xr_steps (pc' := 118) (L' := [(3, .int (Int32.ofInt 0)), (2, .int (Int32.ofInt 0)), (0, .ref 165), (1, .int (Int32.ofInt k))]) (st' := [.int (Int32.ofInt 0)]) 1 rfl ?_
          refine xr_retI2 rfl rfl ⟨_, rfl, 0, _, _, ins, rfl, rfl, ?_, ?_⟩
          · exact xJR_take h ⟨by simp [va_up], by simp [va_up], by simp [va_up], by simp [va_up]⟩ (fun _ _ _ => rfl) (fun _ _ => rfl) h.1.2.2.1
          · exact Or.inl ⟨fun e => hu e.2.2, by simp [va_up], rfl⟩
        · exfalso; omega
    · exfalso; omega
