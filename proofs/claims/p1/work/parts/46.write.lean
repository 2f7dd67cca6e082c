/-! ContractDesk.write, its first loop: the bytes are looked at -/
def xw_L (a : Nat) (x : Int64) (s n : Int) (o : Option Int32) : xb_L := (4, .int (Int32.ofInt s)) :: (3, .int (Int32.ofInt n)) :: (match o with
  | none => [(0, .ref a), (1, .long x)]
  | some c => [(5, .int c), (0, .ref a), (1, .long x)])
/-- how many bytes there are, the last k looked at; none where one is no character -/
def xw_scan (x : Int64) : Nat → Int → Option Int
  | 0, n => some n
  | k + 1, n => if ¬ xw_by x (Int32.ofInt (8 * k)) = 0 ∧ (xw_by x (Int32.ofInt (8 * k)) < 32 ∨ 126 < xw_by x (Int32.ofInt (8 * k))) then none else xw_scan x k (n + if xw_by x (Int32.ofInt (8 * k)) = 0 then 0 else 1)
theorem wl_40 {w : Value} {d a : Nat} {A : xb_H} {x : Int64} {Q : xb_R → xb_H → Prop} {s n c : Int} (hc : 0 ≤ c ∧ c ≤ 255) (hn : 0 ≤ n ∧ n ≤ 100) (k : xr_ok (xt_G w) d 11 6 (xw_L a x (s - 8) (n + if c = 0 then 0 else 1) (some (Int32.ofInt c))) [] A Q) :
    xr_ok (xt_G w) d 11 40 [(5, .int (Int32.ofInt c)), (4, .int (Int32.ofInt s)), (3, .int (Int32.ofInt n)), (0, .ref a), (1, .long x)] [] A Q := by
  have fin : ∀ e : Int, (e = if c = 0 then 0 else 1) → xr_ok (xt_G w) d 11 51 [(5, .int (Int32.ofInt c)), (4, .int (Int32.ofInt s)), (3, .int (Int32.ofInt n)), (0, .ref a), (1, .long x)] [.int (Int32.ofInt e), .int (Int32.ofInt n)] A Q := by
    intro e he
    rw [← he] at k
    refine xr_iadd rfl ?_
    refine xr_steps (pc' := 53) (L' := [(3, .int (Int32.ofInt (n + e))), (5, .int (Int32.ofInt c)), (4, .int (Int32.ofInt s)), (0, .ref a), (1, .long x)]) (st' := []) 1 rfl ?_
    refine xr_steps (pc' := 6) (L' := [(4, .int (Int32.ofInt s + Int32.ofInt (-8))), (3, .int (Int32.ofInt (n + e))), (5, .int (Int32.ofInt c)), (0, .ref a), (1, .long x)]) (st' := []) 2 rfl ?_
    rw [← Int32.ofInt_add]
    exact k
  refine xr_steps (pc' := 43) (L' := [(5, .int (Int32.ofInt c)), (4, .int (Int32.ofInt s)), (3, .int (Int32.ofInt n)), (0, .ref a), (1, .long x)]) (st' := [.int (Int32.ofInt c), .int (Int32.ofInt n)]) 2 rfl ?_
  refine xr_if_ne rfl (by omega) (fun h => ?_) (fun h => ?_)
  · refine xr_steps (pc' := 51) (L' := [(5, .int (Int32.ofInt c)), (4, .int (Int32.ofInt s)), (3, .int (Int32.ofInt n)), (0, .ref a), (1, .long x)]) (st' := [.int (Int32.ofInt 1), .int (Int32.ofInt n)]) 1 rfl ?_
    exact fin 1 (by rw [if_neg h])
  · refine xr_steps (pc' := 51) (L' := [(5, .int (Int32.ofInt c)), (4, .int (Int32.ofInt s)), (3, .int (Int32.ofInt n)), (0, .ref a), (1, .long x)]) (st' := [.int (Int32.ofInt 0), .int (Int32.ofInt n)]) 2 rfl ?_
    exact fin 0 (by rw [if_pos h])
theorem wl_loop {w : Value} {d a : Nat} {A : xb_H} {x : Int64} {Q : xb_R → xb_H → Prop} : ∀ (k : Nat) (n : Int) (o : Option Int32), k ≤ 8 → (0 ≤ n ∧ n + k ≤ 8) → (xw_scan x k n = none → Q (.inl (some (.int 0))) A) → (∀ (m : Int) (o' : Option Int32), xw_scan x k n = some m → xr_ok (xt_G w) (d + 1) 11 59 (xw_L a x (-8) m o') [] A Q) → xr_ok (xt_G w) (d + 1) 11 6 (xw_L a x (8 * (k : Int) - 8) n o) [] A Q := by
  intro k
  induction k with
  | zero =>
    intro n o hk hn h1 h2
    refine xr_steps (pc' := 8) (L' := xw_L a x (8 * ((0 : Nat) : Int) - 8) n o) (st' := [.int (Int32.ofInt (8 * ((0 : Nat) : Int) - 8))]) 1 rfl ?_
    exact xr_if_lt rfl (by omega) (fun _ => h2 n o rfl) (fun h => absurd (show 8 * ((0 : Nat) : Int) - 8 < 0 by omega) h)
  | succ k ih =>
    intro n o hk hn h1 h2
    have es : 8 * ((k + 1 : Nat) : Int) - 8 = 8 * (k : Int) := by omega
    rw [es]
    refine xr_steps (pc' := 8) (L' := xw_L a x (8 * (k : Int)) n o) (st' := [.int (Int32.ofInt (8 * (k : Int)))]) 1 rfl ?_
    refine xr_if_lt rfl (by omega) (fun h => absurd h (by omega)) (fun _ => ?_)
    obtain ⟨hc, ec⟩ := xw_by_ok x (Int32.ofInt (8 * (k : Int)))
    refine xr_steps (pc' := 14) (L' := xw_L a x (8 * (k : Int)) n o) (st' := [.int (Int32.ofInt (8 * (k : Int))), .long x]) 2 (by cases o <;> rfl) ?_
    refine xr_call (q := (.invokestatic 36, 3, 12, 2)) (av := [.long x, .int (Int32.ofInt (8 * (k : Int)))]) (rest := []) rfl rfl (by decide) rfl rfl (show 3 ≤ 3 by omega) mm_12 ?_
    rintro _ _ ⟨rfl, eA⟩
    rw [eA, ec]
    clear eA
    rw [xw_scan] at h1 h2
    generalize xw_by x (Int32.ofInt (8 * (k : Int))) = c at hc ec h1 h2 ⊢
    refine xr_steps (pc' := 21) (L' := [(5, .int (Int32.ofInt c)), (4, .int (Int32.ofInt (8 * (k : Int)))), (3, .int (Int32.ofInt n)), (0, .ref a), (1, .long x)]) (st' := [.int (Int32.ofInt c)]) 2 (by cases o <;> rfl) ?_
    have good : ¬ (¬ c = 0 ∧ (c < 32 ∨ 126 < c)) → xr_ok (xt_G w) (d + 1) 11 40 [(5, .int (Int32.ofInt c)), (4, .int (Int32.ofInt (8 * (k : Int)))), (3, .int (Int32.ofInt n)), (0, .ref a), (1, .long x)] [] A Q := by
      intro hg
      rw [if_neg hg] at h1 h2
      refine wl_40 hc (by omega) (ih _ _ (by omega) ?_ h1 h2)
      by_cases h0 : c = 0
      · rw [if_pos h0]; omega
      · rw [if_neg h0]; omega
    have bad : (¬ c = 0 ∧ (c < 32 ∨ 126 < c)) → xr_ok (xt_G w) (d + 1) 11 38 [(5, .int (Int32.ofInt c)), (4, .int (Int32.ofInt (8 * (k : Int)))), (3, .int (Int32.ofInt n)), (0, .ref a), (1, .long x)] [] A Q := by
      intro hb
      rw [if_pos hb] at h1
      refine xr_steps (pc' := 39) (L' := [(5, .int (Int32.ofInt c)), (4, .int (Int32.ofInt (8 * (k : Int)))), (3, .int (Int32.ofInt n)), (0, .ref a), (1, .long x)]) (st' := [.int 0]) 1 rfl ?_
      exact xr_retB rfl rfl rfl rfl (h1 rfl)
    refine xr_if_eq rfl (by omega) (fun h => good (by omega)) (fun h => ?_)
    refine xr_steps (pc' := 28) (L' := [(5, .int (Int32.ofInt c)), (4, .int (Int32.ofInt (8 * (k : Int)))), (3, .int (Int32.ofInt n)), (0, .ref a), (1, .long x)]) (st' := [.int (Int32.ofInt 32), .int (Int32.ofInt c)]) 2 rfl ?_
    refine xr_icmp_lt rfl (by omega) (by omega) (fun h3 => bad (by omega)) (fun h3 => ?_)
    refine xr_steps (pc' := 35) (L' := [(5, .int (Int32.ofInt c)), (4, .int (Int32.ofInt (8 * (k : Int)))), (3, .int (Int32.ofInt n)), (0, .ref a), (1, .long x)]) (st' := [.int (Int32.ofInt 126), .int (Int32.ofInt c)]) 2 rfl ?_
    exact xr_icmp_le rfl (by omega) (by omega) (fun h4 => good (by omega)) (fun h4 => bad (by omega))
