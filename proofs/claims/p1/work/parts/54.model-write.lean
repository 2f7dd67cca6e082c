/-! ContractDeskModel.write -/
theorem ya_up_up {α : Type} (f : Nat → α) (k : Nat) (a b : α) : va_up (va_up f k a) k b = va_up f k b := by
  funext j
  unfold va_up
  by_cases h : j = k
  · rw [if_pos h, if_pos h]
  · rw [if_neg h, if_neg h, if_neg h]
theorem ya_up_self {α : Type} (f : Nat → α) (k : Nat) : va_up f k (f k) = f := by
  funext j
  unfold va_up
  by_cases h : j = k
  · rw [if_pos h, h]
  · rw [if_neg h]
theorem ya_up_same {α : Type} (f : Nat → α) (k : Nat) (a : α) : va_up f k a k = a := by
  unfold va_up
  rw [if_pos rfl]
theorem ya_up_ne {α : Type} (f : Nat → α) {k j : Nat} (a : α) (h : ¬ j = k) : va_up f k a j = f j := by
  unfold va_up
  rw [if_neg h]
/-- the characters that a long gives, the last k looked at -/
def xw_chars (x : Int64) : Nat → List Int
  | 0 => []
  | k + 1 => if xw_by x (Int32.ofInt (8 * k)) = 0 then xw_chars x k else xw_by x (Int32.ofInt (8 * k)) :: xw_chars x k
theorem xw_scan_chars (x : Int64) : ∀ (k : Nat) (n m : Int), xw_scan x k n = some m → m = n + (xw_chars x k).length ∧ (∀ c ∈ xw_chars x k, 32 ≤ c ∧ c ≤ 126) ∧ (xw_chars x k).length ≤ k := by
  intro k
  induction k with
  | zero =>
    intro n m h
    cases h
    refine ⟨by simp [xw_chars], by simp [xw_chars], by simp [xw_chars]⟩
  | succ k ih =>
    intro n m h
    rw [xw_scan] at h
    split at h
    · cases h
    · rename_i hb
      obtain ⟨h1, h2, h3⟩ := ih _ _ h
      unfold xw_chars
      by_cases h0 : xw_by x (Int32.ofInt (8 * k)) = 0
      · rw [if_pos h0] at h1 ⊢
        exact ⟨by omega, h2, by omega⟩
      · rw [if_neg h0] at h1 ⊢
        refine ⟨?_, ?_, ?_⟩
        · rw [List.length_cons]; omega
        · intro c hc
          rcases List.mem_cons.mp hc with rfl | hc
          · omega
          · exact h2 c hc
        · rw [List.length_cons]; omega
/-- a row with a list laid into it from p on -/
def ya_app (f : Nat → Int) (p : Nat) : List Int → Nat → Int
  | [] => f
  | c :: l => ya_app (va_up f p c) (p + 1) l
theorem ya_app_get : ∀ (l : List Int) (f : Nat → Int) (p j : Nat), ya_app f p l j = if p ≤ j ∧ j < p + l.length then l.getD (j - p) 0 else f j := by
  intro l
  induction l with
  | nil =>
    intro f p j
    unfold ya_app
    rw [if_neg (by rw [List.length_nil]; omega)]
  | cons c l ih =>
    intro f p j
    unfold ya_app
    rw [ih]
    by_cases h1 : p + 1 ≤ j ∧ j < p + 1 + l.length
    · rw [if_pos h1, if_pos (by rw [List.length_cons]; omega)]
      obtain ⟨e, he⟩ : ∃ e, j - p = e + 1 := ⟨j - p - 1, by omega⟩
      rw [he, List.getD_cons_succ]
      congr 1
      omega
    · rw [if_neg h1]
      by_cases h2 : j = p
      · subst h2
        rw [ya_up_same, if_pos (by rw [List.length_cons]; omega), Nat.sub_self, List.getD_cons_zero]
      · rw [ya_up_ne _ _ h2, if_neg (by rw [List.length_cons]; omega)]
section MW
variable {w : Value} {d : Nat} {A : xb_H} {s : Nat → Int} {t : Nat → Nat → Int} {x : Int64} {Q : xb_R → xb_H → Prop}
theorem mo_loop1 : ∀ (K : Nat) (n : Int) (o : Option Int32), K ≤ 8 → (0 ≤ n ∧ n + K ≤ 8) → (xw_scan x K n = none → Q (.inl (some (.int 0))) A) → (∀ (m : Int) (o' : Option Int32), xw_scan x K n = some m → xr_ok (xt_G w) d 205 70 (xw_L 165 x (-1) m o') [] A Q) → xr_ok (xt_G w) d 205 11 (xw_L 165 x ((K : Int) - 1) n o) [] A Q := by
  intro K
  induction K with
  | zero =>
    intro n o hk hn h1 h2
    refine xr_steps (pc' := 13) (L' := xw_L 165 x (((0 : Nat) : Int) - 1) n o) (st' := [.int (Int32.ofInt (((0 : Nat) : Int) - 1))]) 1 rfl ?_
    exact xr_if_lt rfl (by omega) (fun _ => h2 n o rfl) (fun h => absurd (show ((0 : Nat) : Int) - 1 < 0 by omega) h)
  | succ k ih =>
    intro n o hk hn h1 h2
    have es : ((k + 1 : Nat) : Int) - 1 = (k : Int) := by omega
    rw [es]
    refine xr_steps (pc' := 13) (L' := xw_L 165 x (k : Int) n o) (st' := [.int (Int32.ofInt (k : Int))]) 1 rfl ?_
    refine xr_if_lt rfl (by omega) (fun h => absurd h (by omega)) (fun _ => ?_)
    refine xr_steps (pc' := 21) (L' := xw_L 165 x (k : Int) n o) (st' := [.int (Int32.ofInt (k : Int)), .int (Int32.ofInt 8), .long x]) 3 (by cases o <;> rfl) ?_
    refine xr_imul rfl ?_
    refine xr_steps (pc' := 28) (L' := xw_L 165 x (k : Int) n o) (st' := [.int ((x.toUInt64 >>> ((Int32.ofInt (8 * (k : Int))).toInt64.toUInt64 &&& Int64.toUInt64 63)).toInt64.toInt32 &&& Int32.ofInt 255)]) 4 rfl ?_
    obtain ⟨hc, ec⟩ := xw_by_ok x (Int32.ofInt (8 * (k : Int)))
    rw [ec]
    rw [xw_scan] at h1 h2
    generalize xw_by x (Int32.ofInt (8 * (k : Int))) = c at hc ec h1 h2 ⊢
    refine xr_steps (pc' := 30) (L' := [(5, .int (Int32.ofInt c)), (4, .int (Int32.ofInt (k : Int))), (3, .int (Int32.ofInt n)), (0, .ref 165), (1, .long x)]) (st' := []) 1 (by cases o <;> rfl) ?_
    clear ec
    refine xr_steps (pc' := 32) (L' := [(5, .int (Int32.ofInt c)), (4, .int (Int32.ofInt (k : Int))), (3, .int (Int32.ofInt n)), (0, .ref 165), (1, .long x)]) (st' := [.int (Int32.ofInt c)]) 1 rfl ?_
    refine xr_if_eq rfl (by omega) (fun z1 => ?_) (fun z1 => ?_)
    · refine xr_steps (pc' := 53) (L' := [(5, .int (Int32.ofInt c)), (4, .int (Int32.ofInt (k : Int))), (3, .int (Int32.ofInt n)), (0, .ref 165), (1, .long x)]) (st' := [.int (Int32.ofInt c)]) 1 rfl ?_
      refine xr_if_eq rfl (by omega) (fun z2 => ?_) (fun z2 => ?_)
      · refine xr_steps (pc' := 64) (L' := [(3, .int (Int32.ofInt n)), (5, .int (Int32.ofInt c)), (4, .int (Int32.ofInt (k : Int))), (0, .ref 165), (1, .long x)]) (st' := []) 2 rfl ?_
        refine xr_iincn (L' := [(4, .int (Int32.ofInt ((k : Int) - 1))), (3, .int (Int32.ofInt n)), (5, .int (Int32.ofInt c)), (0, .ref 165), (1, .long x)]) rfl rfl rfl ?_
        refine xr_steps (pc' := 11) (L' := [(4, .int (Int32.ofInt ((k : Int) - 1))), (3, .int (Int32.ofInt n)), (5, .int (Int32.ofInt c)), (0, .ref 165), (1, .long x)]) (st' := []) 1 rfl ?_
        have hg : ¬ (¬ c = 0 ∧ (c < 32 ∨ 126 < c)) := by omega
        rw [if_neg hg] at h1 h2
        rw [if_pos (show c = 0 by omega), Int.add_zero] at h1 h2
        exact ih n (some (Int32.ofInt c)) (by omega) (by omega) h1 h2
      · refine xr_steps (pc' := 58) (L' := [(5, .int (Int32.ofInt c)), (4, .int (Int32.ofInt (k : Int))), (3, .int (Int32.ofInt n)), (0, .ref 165), (1, .long x)]) (st' := [.int (Int32.ofInt 1), .int (Int32.ofInt n)]) 2 rfl ?_
        refine xr_iadd rfl ?_
        refine xr_steps (pc' := 64) (L' := [(3, .int (Int32.ofInt (n + 1))), (5, .int (Int32.ofInt c)), (4, .int (Int32.ofInt (k : Int))), (0, .ref 165), (1, .long x)]) (st' := []) 2 rfl ?_
        refine xr_iincn (L' := [(4, .int (Int32.ofInt ((k : Int) - 1))), (3, .int (Int32.ofInt (n + 1))), (5, .int (Int32.ofInt c)), (0, .ref 165), (1, .long x)]) rfl rfl rfl ?_
        refine xr_steps (pc' := 11) (L' := [(4, .int (Int32.ofInt ((k : Int) - 1))), (3, .int (Int32.ofInt (n + 1))), (5, .int (Int32.ofInt c)), (0, .ref 165), (1, .long x)]) (st' := []) 1 rfl ?_
        have hg : ¬ (¬ c = 0 ∧ (c < 32 ∨ 126 < c)) := by omega
        rw [if_neg hg] at h1 h2
        rw [if_neg (show ¬ c = 0 by omega)] at h1 h2
        exact ih (n + 1) (some (Int32.ofInt c)) (by omega) (by omega) h1 h2
    · refine xr_steps (pc' := 39) (L' := [(5, .int (Int32.ofInt c)), (4, .int (Int32.ofInt (k : Int))), (3, .int (Int32.ofInt n)), (0, .ref 165), (1, .long x)]) (st' := [.int (Int32.ofInt 32), .int (Int32.ofInt c)]) 2 rfl ?_
      refine xr_icmp_lt rfl (by omega) (by omega) (fun z3 => ?_) (fun z3 => ?_)
      · refine xr_steps (pc' := 50) (L' := [(5, .int (Int32.ofInt c)), (4, .int (Int32.ofInt (k : Int))), (3, .int (Int32.ofInt n)), (0, .ref 165), (1, .long x)]) (st' := [.int (Int32.ofInt 0)]) 1 rfl ?_
        rw [if_pos (show ¬ c = 0 ∧ (c < 32 ∨ 126 < c) by omega)] at h1
        exact xr_retB rfl rfl rfl rfl (h1 rfl)
      · refine xr_steps (pc' := 46) (L' := [(5, .int (Int32.ofInt c)), (4, .int (Int32.ofInt (k : Int))), (3, .int (Int32.ofInt n)), (0, .ref 165), (1, .long x)]) (st' := [.int (Int32.ofInt 126), .int (Int32.ofInt c)]) 2 rfl ?_
        refine xr_icmp_le rfl (by omega) (by omega) (fun z4 => ?_) (fun z4 => ?_)
        · refine xr_steps (pc' := 53) (L' := [(5, .int (Int32.ofInt c)), (4, .int (Int32.ofInt (k : Int))), (3, .int (Int32.ofInt n)), (0, .ref 165), (1, .long x)]) (st' := [.int (Int32.ofInt c)]) 1 rfl ?_
          refine xr_if_eq rfl (by omega) (fun z5 => ?_) (fun z5 => ?_)
          · refine xr_steps (pc' := 64) (L' := [(3, .int (Int32.ofInt n)), (5, .int (Int32.ofInt c)), (4, .int (Int32.ofInt (k : Int))), (0, .ref 165), (1, .long x)]) (st' := []) 2 rfl ?_
            refine xr_iincn (L' := [(4, .int (Int32.ofInt ((k : Int) - 1))), (3, .int (Int32.ofInt n)), (5, .int (Int32.ofInt c)), (0, .ref 165), (1, .long x)]) rfl rfl rfl ?_
            refine xr_steps (pc' := 11) (L' := [(4, .int (Int32.ofInt ((k : Int) - 1))), (3, .int (Int32.ofInt n)), (5, .int (Int32.ofInt c)), (0, .ref 165), (1, .long x)]) (st' := []) 1 rfl ?_
            have hg : ¬ (¬ c = 0 ∧ (c < 32 ∨ 126 < c)) := by omega
            rw [if_neg hg] at h1 h2
            rw [if_pos (show c = 0 by omega), Int.add_zero] at h1 h2
            exact ih n (some (Int32.ofInt c)) (by omega) (by omega) h1 h2
          · refine xr_steps (pc' := 58) (L' := [(5, .int (Int32.ofInt c)), (4, .int (Int32.ofInt (k : Int))), (3, .int (Int32.ofInt n)), (0, .ref 165), (1, .long x)]) (st' := [.int (Int32.ofInt 1), .int (Int32.ofInt n)]) 2 rfl ?_
            refine xr_iadd rfl ?_
            refine xr_steps (pc' := 64) (L' := [(3, .int (Int32.ofInt (n + 1))), (5, .int (Int32.ofInt c)), (4, .int (Int32.ofInt (k : Int))), (0, .ref 165), (1, .long x)]) (st' := []) 2 rfl ?_
            refine xr_iincn (L' := [(4, .int (Int32.ofInt ((k : Int) - 1))), (3, .int (Int32.ofInt (n + 1))), (5, .int (Int32.ofInt c)), (0, .ref 165), (1, .long x)]) rfl rfl rfl ?_
            refine xr_steps (pc' := 11) (L' := [(4, .int (Int32.ofInt ((k : Int) - 1))), (3, .int (Int32.ofInt (n + 1))), (5, .int (Int32.ofInt c)), (0, .ref 165), (1, .long x)]) (st' := []) 1 rfl ?_
            have hg : ¬ (¬ c = 0 ∧ (c < 32 ∨ 126 < c)) := by omega
            rw [if_neg hg] at h1 h2
            rw [if_neg (show ¬ c = 0 by omega)] at h1 h2
            exact ih (n + 1) (some (Int32.ofInt c)) (by omega) (by omega) h1 h2
        · refine xr_steps (pc' := 50) (L' := [(5, .int (Int32.ofInt c)), (4, .int (Int32.ofInt (k : Int))), (3, .int (Int32.ofInt n)), (0, .ref 165), (1, .long x)]) (st' := [.int (Int32.ofInt 0)]) 1 rfl ?_
          rw [if_pos (show ¬ c = 0 ∧ (c < 32 ∨ 126 < c) by omega)] at h1
          exact xr_retB rfl rfl rfl rfl (h1 rfl)
def xw_M (a : Nat) (x : Int64) (s n : Int) (o : Option (Bool × Int32)) : xb_L := (4, .int (Int32.ofInt s)) :: (match o with
  | none => [(3, .int (Int32.ofInt n)), (0, .ref a), (1, .long x)]
  | some (true, c) => [(3, .int (Int32.ofInt n)), (5, .int c), (0, .ref a), (1, .long x)]
  | some (false, c) => [(5, .int c), (3, .int (Int32.ofInt n)), (0, .ref a), (1, .long x)])
theorem mo_loop2 (hA : 194 ≤ A.1) : ∀ (K : Nat) (v : Int) (f : Nat → Int) (n : Int) (o : Option (Bool × Int32)), K ≤ 8 → (0 ≤ v ∧ v + (xw_chars x K).length ≤ 100) → Q (.inl (some (.int 1))) (ym A (va_up s 2 (v + (xw_chars x K).length)) (va_up t 166 (ya_app f (400 + v).toNat (xw_chars x K)))) → xr_ok (xt_G w) d 205 87 (xw_M 165 x ((K : Int) - 1) n o) [] (ym A (va_up s 2 v) (va_up t 166 f)) Q := by
  intro K
  induction K with
  | zero =>
    intro v f n o hk hv h1
    refine xr_steps (pc' := 89) (L' := xw_M 165 x (((0 : Nat) : Int) - 1) n o) (st' := [.int (Int32.ofInt (((0 : Nat) : Int) - 1))]) 1 rfl ?_
    refine xr_if_lt rfl (by omega) (fun _ => ?_) (fun h => absurd (show ((0 : Nat) : Int) - 1 < 0 by omega) h)
    refine xr_steps (pc' := 144) (L' := xw_M 165 x (((0 : Nat) : Int) - 1) n o) (st' := [.int 1]) 1 rfl ?_
    unfold xw_chars ya_app at h1
    simp only [List.length_nil, Int.natCast_zero, Int.add_zero] at h1
    exact xr_retB rfl rfl rfl rfl h1
  | succ k ih =>
    intro v f n o hk hv h1
    have es : ((k + 1 : Nat) : Int) - 1 = (k : Int) := by omega
    rw [es]
    refine xr_steps (pc' := 89) (L' := xw_M 165 x (k : Int) n o) (st' := [.int (Int32.ofInt (k : Int))]) 1 rfl ?_
    refine xr_if_lt rfl (by omega) (fun h => absurd h (by omega)) (fun _ => ?_)
    refine xr_steps (pc' := 97) (L' := xw_M 165 x (k : Int) n o) (st' := [.int (Int32.ofInt (k : Int)), .int (Int32.ofInt 8), .long x]) 3 (by rcases o with _ | ⟨_ | _, c⟩ <;> rfl) ?_
    refine xr_imul rfl ?_
    refine xr_steps (pc' := 104) (L' := xw_M 165 x (k : Int) n o) (st' := [.int ((x.toUInt64 >>> ((Int32.ofInt (8 * (k : Int))).toInt64.toUInt64 &&& Int64.toUInt64 63)).toInt64.toInt32 &&& Int32.ofInt 255)]) 4 rfl ?_
    obtain ⟨hc, ec⟩ := xw_by_ok x (Int32.ofInt (8 * (k : Int)))
    rw [ec]
    rw [xw_chars] at h1 hv
    generalize xw_by x (Int32.ofInt (8 * (k : Int))) = c at hc ec h1 hv ⊢
    refine xr_steps (pc' := 106) (L' := [(5, .int (Int32.ofInt c)), (4, .int (Int32.ofInt (k : Int))), (3, .int (Int32.ofInt n)), (0, .ref 165), (1, .long x)]) (st' := []) 1 (by rcases o with _ | ⟨_ | _, c⟩ <;> rfl) ?_
    clear ec
    refine xr_steps (pc' := 108) (L' := [(5, .int (Int32.ofInt c)), (4, .int (Int32.ofInt (k : Int))), (3, .int (Int32.ofInt n)), (0, .ref 165), (1, .long x)]) (st' := [.int (Int32.ofInt c)]) 1 rfl ?_
    refine xr_if_eq rfl (by omega) (fun z1 => ?_) (fun z1 => ?_)
    · refine xr_iincn (L' := [(4, .int (Int32.ofInt ((k : Int) - 1))), (5, .int (Int32.ofInt c)), (3, .int (Int32.ofInt n)), (0, .ref 165), (1, .long x)]) rfl rfl rfl ?_
      refine xr_steps (pc' := 87) (L' := [(4, .int (Int32.ofInt ((k : Int) - 1))), (5, .int (Int32.ofInt c)), (3, .int (Int32.ofInt n)), (0, .ref 165), (1, .long x)]) (st' := []) 1 rfl ?_
      rw [if_pos (by omega)] at h1 hv
      exact ih v f n (some (false, Int32.ofInt c)) (by omega) hv h1
    · refine xr_steps (pc' := 112) (L' := [(5, .int (Int32.ofInt c)), (4, .int (Int32.ofInt (k : Int))), (3, .int (Int32.ofInt n)), (0, .ref 165), (1, .long x)]) (st' := [.ref 165]) 1 rfl ?_
      refine xr_getf (v := .ref 166) rfl (ym_165 hA) rfl ?_
      refine xr_steps (pc' := 119) (L' := [(5, .int (Int32.ofInt c)), (4, .int (Int32.ofInt (k : Int))), (3, .int (Int32.ofInt n)), (0, .ref 165), (1, .long x)]) (st' := [.ref 165, .int (Int32.ofInt 400), .ref 166]) 2 rfl ?_
      refine xr_getf (v := .int (Int32.ofInt v)) rfl (ym_165 hA) rfl ?_
      refine xr_iadd rfl ?_
      refine xr_steps (pc' := 125) (L' := [(5, .int (Int32.ofInt c)), (4, .int (Int32.ofInt (k : Int))), (3, .int (Int32.ofInt n)), (0, .ref 165), (1, .long x)]) (st' := [.int (Int32.ofInt c), .int (Int32.ofInt (400 + v)), .ref 166]) 1 rfl ?_
      refine xr_i2c rfl (by omega) ?_
      refine ym_castore hA rfl rfl (by decide) (by omega) (by omega) (by omega) ?_
      refine xr_steps (pc' := 129) (L' := [(5, .int (Int32.ofInt c)), (4, .int (Int32.ofInt (k : Int))), (3, .int (Int32.ofInt n)), (0, .ref 165), (1, .long x)]) (st' := [.ref 165, .ref 165]) 2 rfl ?_
      refine xr_getf (v := .int (Int32.ofInt v)) rfl (ym_165 hA) rfl ?_
      refine xr_steps (pc' := 133) (L' := [(5, .int (Int32.ofInt c)), (4, .int (Int32.ofInt (k : Int))), (3, .int (Int32.ofInt n)), (0, .ref 165), (1, .long x)]) (st' := [.int (Int32.ofInt 1), .int (Int32.ofInt v), .ref 165]) 1 rfl ?_
      refine xr_iadd rfl ?_
      refine ym_putI hA rfl rfl rfl ?_
      refine xr_iincn (L' := [(4, .int (Int32.ofInt ((k : Int) - 1))), (5, .int (Int32.ofInt c)), (3, .int (Int32.ofInt n)), (0, .ref 165), (1, .long x)]) rfl rfl rfl ?_
      refine xr_steps (pc' := 87) (L' := [(4, .int (Int32.ofInt ((k : Int) - 1))), (5, .int (Int32.ofInt c)), (3, .int (Int32.ofInt n)), (0, .ref 165), (1, .long x)]) (st' := []) 1 rfl ?_
      rw [if_neg (by omega)] at h1 hv
      rw [List.length_cons] at h1 hv
      rw [ya_up_up, ya_up_up, ya_up_same]
      have e1 : v + (((xw_chars x k).length + 1 : Nat) : Int) = v + 1 + (xw_chars x k).length := by omega
      rw [e1, ya_app] at h1
      have e2 : (400 + v).toNat + 1 = (400 + (v + 1)).toNat := by omega
      rw [e2] at h1
      exact ih (v + 1) _ n (some (false, Int32.ofInt c)) (by omega) (by omega) h1
/-- the characters fit -/
def xw_fit (x : Int64) (n : Int) : Prop := ∃ m, xw_scan x 8 0 = some m ∧ n + m ≤ 100
theorem mo_205 (hA : 194 ≤ A.1) (ht : 0 ≤ s 2 ∧ s 2 ≤ 100) {b : Int} (hb : (b = 1 ∧ xw_fit x (s 2)) ∨ (b = 0 ∧ ¬ xw_fit x (s 2))) : xr_ok (xt_G w) d 205 0 [(0, .ref 165), (1, .long x)] [] (ym A s t) (fun o A' => ∃ v, o = .inl v ∧ v = some (.int (Int32.ofInt b)) ∧ A' = if b = 1 then ym A (va_up (va_up s 0 0) 2 (s 2 + (xw_chars x 8).length)) (va_up t 166 (ya_app (t 166) (400 + s 2).toNat (xw_chars x 8))) else ym A (va_up s 0 0) t) := by
  refine xr_steps (pc' := 2) (L' := [(0, .ref 165), (1, .long x)]) (st' := [.int (Int32.ofInt 0), .ref 165]) 2 rfl ?_
  refine ym_putI hA rfl rfl rfl ?_
  refine xr_steps (pc' := 11) (L' := [(4, .int (Int32.ofInt 7)), (3, .int (Int32.ofInt 0)), (0, .ref 165), (1, .long x)]) (st' := []) 4 rfl ?_
  refine mo_loop1 8 0 none (by omega) (by omega) (fun hn => ?_) (fun m o hm => ?_)
  · obtain rfl : b = 0 := by
      rcases hb with ⟨_, m, h1, _⟩ | h1
      · rw [hn] at h1; cases h1
      · exact h1.1
    exact ⟨_, rfl, rfl, rfl⟩
  obtain ⟨hm1, hm2, hm3⟩ := xw_scan_chars x 8 0 m hm
  rw [Int.zero_add] at hm1
  refine xr_steps (pc' := 71) (L' := xw_L 165 x (-1) m o) (st' := [.ref 165]) 1 (by cases o <;> rfl) ?_
  refine xr_getf (v := .int (Int32.ofInt (s 2))) rfl (ym_165 hA) rfl ?_
  refine xr_steps (pc' := 75) (L' := xw_L 165 x (-1) m o) (st' := [.int (Int32.ofInt m), .int (Int32.ofInt (s 2))]) 1 (by cases o <;> rfl) ?_
  refine xr_iadd rfl ?_
  refine xr_steps (pc' := 78) (L' := xw_L 165 x (-1) m o) (st' := [.int (Int32.ofInt 100), .int (Int32.ofInt (s 2 + m))]) 1 rfl ?_
  refine xr_icmp_le rfl (by omega) (by omega) (fun hle => ?_) (fun hle => ?_)
  · obtain rfl : b = 1 := by
      rcases hb with h1 | ⟨_, h1⟩
      · exact h1.1
      · exact absurd ⟨m, hm, hle⟩ h1
    refine xr_steps (pc' := 87) (L' := xw_M 165 x 7 m (o.map fun c => (true, c))) (st' := []) 2 (by cases o <;> rfl) ?_
    rw [← ya_up_self (va_up s 0 0) 2, ← ya_up_self t 166]
    refine mo_loop2 hA 8 (s 2) (t 166) m (o.map fun c => (true, c)) (by omega) (by omega) ?_
    rw [ya_up_self t 166]
    exact ⟨_, rfl, rfl, rfl⟩
  · obtain rfl : b = 0 := by
      rcases hb with ⟨_, m2, h1, h2⟩ | h1
      · rw [hm] at h1; cases h1; exact absurd h2 hle
      · exact h1.1
    refine xr_steps (pc' := 82) (L' := xw_L 165 x (-1) m o) (st' := [.int 0]) 1 rfl ?_
    exact xr_retB rfl rfl rfl rfl ⟨_, rfl, rfl, rfl⟩
end MW
