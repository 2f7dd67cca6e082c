/-! A matcher holds -/
theorem xes_cong (n : Nat) {f f' : Nat → Int} (c r : Int) (S : Nat → Prop) (h : ∀ j : Nat, j < n → f j = f' j) : xes n f c r S = xes n f' c r S := by
  funext q
  induction q with
  | zero => rfl
  | succ q ih =>
    show ((r = 42 ∧ S (q + 1)) ∨ (q < n ∧ (c = 46 ∨ c = f q) ∧ (S q ∨ ((r = 42 ∨ r = 43) ∧ xes n f c r S q)))) = ((r = 42 ∧ S (q + 1)) ∨ (q < n ∧ (c = 46 ∨ c = f' q) ∧ (S q ∨ ((r = 42 ∨ r = 43) ∧ xes n f' c r S q))))
    rw [ih]
    by_cases hq : q < n
    · rw [h q hq]
    · simp only [hq, false_and]
theorem xfi_cong (n m : Nat) {f f' g g' : Nat → Int} (h : ∀ j : Nat, j < n → f j = f' j) (hg : ∀ j : Nat, j < m → g j = g' j) : ∀ (k i : Nat) (S : Nat → Prop), i + k ≤ m → xfi n f g m k i S = xfi n f' g' m k i S := by
  intro k
  induction k with
  | zero => intro i S _; rfl
  | succ k ih =>
    intro i S hi
    show xfi n f g m k (i + 1) (if g i = 42 ∨ g i = 43 then S else xes n f (g i) (if i + 1 < m then g (i + 1) else g i) S) = xfi n f' g' m k (i + 1) (if g' i = 42 ∨ g' i = 43 then S else xes n f' (g' i) (if i + 1 < m then g' (i + 1) else g' i) S)
    rw [ih (i + 1) _ (by omega), hg i (by omega), xes_cong n _ _ _ h]
    by_cases h1 : i + 1 < m
    · rw [hg (i + 1) h1]
    · rw [if_neg h1, if_neg h1]
def xHP (p l : List Int) : Prop := ∃ s : Nat, s + p.length ≤ l.length ∧ ∀ j : Nat, j < p.length → l.getD (s + j) 0 = p.getD j 0
def xIM (p l : List Int) : Prop := xfi l.length (fun j => l.getD j 0) (fun j => p.getD j 0) p.length p.length 0 (fun q => q = 0) l.length
/-- the matcher m holds of the expected t and the actual u -/
def xMH (n : Nat) (m : Int × Int × List Int) (t u : xv (n + 1)) : Prop := if m.1 = 116 then xv_k u = xv_k t else if m.1 = 61 then xeq (n + 1) t u else if m.1 = 48 then xv_k u = 0 else if m.1 = 105 then xv_k u = 2 else if m.1 = 62 then (xv_k u = 4 ∧ m.2.1 ≤ ((xv_p u).length : Int)) else if m.1 = 60 then (xv_k u = 4 ∧ ((xv_p u).length : Int) ≤ m.2.1) else if m.1 = 126 then (xv_k u = 3 ∧ xHP m.2.2 (xv_l u)) else (xv_k u = 3 ∧ xIM m.2.2 (xv_l u))
section MK
variable {w : Value} {d : Nat} {A : xb_H} {n ma a b : Nat} {Pm P P' : Nat → Prop} {k k' : Int} {m : Int × Int × List Int} {t u : xv (n + 1)}
theorem mm_188a (hw : w = .null ∨ w = .ref 19) (hk : yk2 A) (hma : ymt A Pm ma m) (h1 : yt A P (n + 1) a k t) (h2 : yt A P' (n + 1) b k' u) (hw1 : xwf (n + 1) t) (hw2 : xwf (n + 1) u) (hn : n ≤ 5) (hC : xMH n m t u ↔ (xv_k u = xv_k t)) : xr_ok (xt_G w) (d + 6 + 1 + 1 + 1 + 1 + 1) 188 72 [(0, .ref ma), (1, .ref a), (2, .ref b)] [] A (fun o A' => ∃ v0, o = .inl v0 ∧ ∃ bb : Int, (v0 = some (.int (Int32.ofInt bb)) ∧ A' = A) ∧ ((bb = 1 ∧ xMH n m t u) ∨ (bb = 0 ∧ ¬ xMH n m t u))) := by
  obtain ⟨sa, v, la, ed, cap, f, as, q1, q2, q3, q4, q5, q6⟩ := yt_part h1
  obtain ⟨sb, v', lb, ed', cap', g, bs, r1, r2, r3, r4, r5, r6⟩ := yt_part h2
  obtain ⟨sm, vm, gm, hm1, hm2, hm3, hm4, hm5, hm6⟩ := id hma
  have kt := hw1.1
  have ku := hw2.1
  have l2 := hw2.2.2.2.2.2.1
  refine xr_steps (pc' := 73) (L' := [(0, .ref ma), (1, .ref a), (2, .ref b)]) (st' := [.ref b]) 1 rfl ?_
  refine xr_call (q := (.invokevirtual 64, 3, 189, 1)) (av := [.ref b]) (rest := []) rfl rfl (by decide) rfl (xr_rcv rfl r1) (Nat.le_of_ble_eq_true rfl) (mv_189 r1) ?_
  rintro _ _ ⟨rfl, eA⟩
  rw [eA]
  clear eA
  refine xr_steps (pc' := 77) (L' := [(0, .ref ma), (1, .ref a), (2, .ref b)]) (st' := [.ref a, .ref (xv_k u)]) 1 rfl ?_
  refine xr_call (q := (.invokevirtual 64, 3, 189, 1)) (av := [.ref a]) (rest := [.ref (xv_k u)]) rfl rfl (by decide) rfl (xr_rcv rfl q1) (Nat.le_of_ble_eq_true rfl) (mv_189 q1) ?_
  rintro _ _ ⟨rfl, eA⟩
  rw [eA]
  clear eA
  refine xr_acmp (e := false) (t := 87) rfl rfl rfl (xk_dist ku) (xk_dist kt) (fun z31 => ?_) (fun z31 => ?_)
  · refine xr_steps (pc' := 88) (L' := [(0, .ref ma), (1, .ref a), (2, .ref b)]) (st' := [.int (Int32.ofInt 1)]) 2 rfl ?_
    refine xr_retZ rfl rfl (by omega) ⟨_, rfl, 1, ⟨rfl, rfl⟩, ?_⟩
    rw [hC]
    omega
  · refine xr_steps (pc' := 88) (L' := [(0, .ref ma), (1, .ref a), (2, .ref b)]) (st' := [.int (Int32.ofInt 0)]) 1 rfl ?_
    refine xr_retZ rfl rfl (by omega) ⟨_, rfl, 0, ⟨rfl, rfl⟩, ?_⟩
    rw [hC]
    omega
theorem mm_188b (hw : w = .null ∨ w = .ref 19) (hk : yk2 A) (hma : ymt A Pm ma m) (h1 : yt A P (n + 1) a k t) (h2 : yt A P' (n + 1) b k' u) (hw1 : xwf (n + 1) t) (hw2 : xwf (n + 1) u) (hn : n ≤ 5) (hC : xMH n m t u ↔ (xeq (n + 1) t u)) : xr_ok (xt_G w) (d + 6 + 1 + 1 + 1 + 1 + 1) 188 89 [(0, .ref ma), (1, .ref a), (2, .ref b)] [] A (fun o A' => ∃ v0, o = .inl v0 ∧ ∃ bb : Int, (v0 = some (.int (Int32.ofInt bb)) ∧ A' = A) ∧ ((bb = 1 ∧ xMH n m t u) ∨ (bb = 0 ∧ ¬ xMH n m t u))) := by
  obtain ⟨sa, v, la, ed, cap, f, as, q1, q2, q3, q4, q5, q6⟩ := yt_part h1
  obtain ⟨sb, v', lb, ed', cap', g, bs, r1, r2, r3, r4, r5, r6⟩ := yt_part h2
  obtain ⟨sm, vm, gm, hm1, hm2, hm3, hm4, hm5, hm6⟩ := id hma
  have kt := hw1.1
  have ku := hw2.1
  have l2 := hw2.2.2.2.2.2.1
  refine xr_steps (pc' := 92) (L' := [(0, .ref ma), (1, .ref a), (2, .ref b)]) (st' := [.int (Int32.ofInt 0), .ref b, .ref a]) 3 rfl ?_
  have h145 := mv_145 (w := w) hk (n + 1) (d + (5 - n)) 0 (by omega) h1 h2 hw1 hw2
  rw [show d + (5 - n) + (n + 1) + 1 + 1 + 1 + 1 = d + 6 + 1 + 1 + 1 + 1 by omega] at h145
  refine xr_call (q := (.invokestatic 70, 3, 145, 3)) (av := [.ref a, .ref b, .int (Int32.ofInt 0)]) (rest := []) rfl rfl (by decide) rfl rfl (Nat.le_of_ble_eq_true rfl) h145 ?_
  rintro _ _ ⟨bb, ⟨rfl, eA⟩, hb⟩
  rw [eA]
  clear eA
  have hb01 : bb = 0 ∨ bb = 1 := by omega
  refine xr_retZ rfl rfl (by omega) ⟨_, rfl, bb, ⟨rfl, rfl⟩, ?_⟩
  rw [hC]
  exact hb
theorem mm_188c (hw : w = .null ∨ w = .ref 19) (hk : yk2 A) (hma : ymt A Pm ma m) (h1 : yt A P (n + 1) a k t) (h2 : yt A P' (n + 1) b k' u) (hw1 : xwf (n + 1) t) (hw2 : xwf (n + 1) u) (hn : n ≤ 5) (hC : xMH n m t u ↔ (xv_k u = 0)) : xr_ok (xt_G w) (d + 6 + 1 + 1 + 1 + 1 + 1) 188 96 [(0, .ref ma), (1, .ref a), (2, .ref b)] [] A (fun o A' => ∃ v0, o = .inl v0 ∧ ∃ bb : Int, (v0 = some (.int (Int32.ofInt bb)) ∧ A' = A) ∧ ((bb = 1 ∧ xMH n m t u) ∨ (bb = 0 ∧ ¬ xMH n m t u))) := by
  obtain ⟨sa, v, la, ed, cap, f, as, q1, q2, q3, q4, q5, q6⟩ := yt_part h1
  obtain ⟨sb, v', lb, ed', cap', g, bs, r1, r2, r3, r4, r5, r6⟩ := yt_part h2
  obtain ⟨sm, vm, gm, hm1, hm2, hm3, hm4, hm5, hm6⟩ := id hma
  have kt := hw1.1
  have ku := hw2.1
  have l2 := hw2.2.2.2.2.2.1
  refine xr_steps (pc' := 97) (L' := [(0, .ref ma), (1, .ref a), (2, .ref b)]) (st' := [.ref b]) 1 rfl ?_
  refine xr_call (q := (.invokevirtual 64, 3, 189, 1)) (av := [.ref b]) (rest := []) rfl rfl (by decide) rfl (xr_rcv rfl r1) (Nat.le_of_ble_eq_true rfl) (mv_189 r1) ?_
  rintro _ _ ⟨rfl, eA⟩
  rw [eA]
  clear eA
  refine xr_steps (pc' := 103) (L' := [(0, .ref ma), (1, .ref a), (2, .ref b)]) (st' := [.ref 0, .ref (xv_k u)]) 1 rfl ?_
  refine xr_acmp (e := false) (t := 110) rfl rfl rfl (xk_dist ku) (by decide) (fun z31 => ?_) (fun z31 => ?_)
  · refine xr_steps (pc' := 111) (L' := [(0, .ref ma), (1, .ref a), (2, .ref b)]) (st' := [.int (Int32.ofInt 1)]) 2 rfl ?_
    refine xr_retZ rfl rfl (by omega) ⟨_, rfl, 1, ⟨rfl, rfl⟩, ?_⟩
    rw [hC]
    omega
  · refine xr_steps (pc' := 111) (L' := [(0, .ref ma), (1, .ref a), (2, .ref b)]) (st' := [.int (Int32.ofInt 0)]) 1 rfl ?_
    refine xr_retZ rfl rfl (by omega) ⟨_, rfl, 0, ⟨rfl, rfl⟩, ?_⟩
    rw [hC]
    omega
theorem mm_188d (hw : w = .null ∨ w = .ref 19) (hk : yk2 A) (hma : ymt A Pm ma m) (h1 : yt A P (n + 1) a k t) (h2 : yt A P' (n + 1) b k' u) (hw1 : xwf (n + 1) t) (hw2 : xwf (n + 1) u) (hn : n ≤ 5) (hC : xMH n m t u ↔ (xv_k u = 2)) : xr_ok (xt_G w) (d + 6 + 1 + 1 + 1 + 1 + 1) 188 112 [(0, .ref ma), (1, .ref a), (2, .ref b)] [] A (fun o A' => ∃ v0, o = .inl v0 ∧ ∃ bb : Int, (v0 = some (.int (Int32.ofInt bb)) ∧ A' = A) ∧ ((bb = 1 ∧ xMH n m t u) ∨ (bb = 0 ∧ ¬ xMH n m t u))) := by
  obtain ⟨sa, v, la, ed, cap, f, as, q1, q2, q3, q4, q5, q6⟩ := yt_part h1
  obtain ⟨sb, v', lb, ed', cap', g, bs, r1, r2, r3, r4, r5, r6⟩ := yt_part h2
  obtain ⟨sm, vm, gm, hm1, hm2, hm3, hm4, hm5, hm6⟩ := id hma
  have kt := hw1.1
  have ku := hw2.1
  have l2 := hw2.2.2.2.2.2.1
  refine xr_steps (pc' := 113) (L' := [(0, .ref ma), (1, .ref a), (2, .ref b)]) (st' := [.ref b]) 1 rfl ?_
  refine xr_call (q := (.invokevirtual 64, 3, 189, 1)) (av := [.ref b]) (rest := []) rfl rfl (by decide) rfl (xr_rcv rfl r1) (Nat.le_of_ble_eq_true rfl) (mv_189 r1) ?_
  rintro _ _ ⟨rfl, eA⟩
  rw [eA]
  clear eA
  refine xr_steps (pc' := 119) (L' := [(0, .ref ma), (1, .ref a), (2, .ref b)]) (st' := [.ref 2, .ref (xv_k u)]) 1 rfl ?_
  refine xr_acmp (e := false) (t := 126) rfl rfl rfl (xk_dist ku) (by decide) (fun z31 => ?_) (fun z31 => ?_)
  · refine xr_steps (pc' := 127) (L' := [(0, .ref ma), (1, .ref a), (2, .ref b)]) (st' := [.int (Int32.ofInt 1)]) 2 rfl ?_
    refine xr_retZ rfl rfl (by omega) ⟨_, rfl, 1, ⟨rfl, rfl⟩, ?_⟩
    rw [hC]
    omega
  · refine xr_steps (pc' := 127) (L' := [(0, .ref ma), (1, .ref a), (2, .ref b)]) (st' := [.int (Int32.ofInt 0)]) 1 rfl ?_
    refine xr_retZ rfl rfl (by omega) ⟨_, rfl, 0, ⟨rfl, rfl⟩, ?_⟩
    rw [hC]
    omega
theorem mm_188e (hw : w = .null ∨ w = .ref 19) (hk : yk2 A) (hma : ymt A Pm ma m) (h1 : yt A P (n + 1) a k t) (h2 : yt A P' (n + 1) b k' u) (hw1 : xwf (n + 1) t) (hw2 : xwf (n + 1) u) (hn : n ≤ 5) (hC : xMH n m t u ↔ (xv_k u = 4 ∧ m.2.1 ≤ ((xv_p u).length : Int))) : xr_ok (xt_G w) (d + 6 + 1 + 1 + 1 + 1 + 1) 188 128 [(0, .ref ma), (1, .ref a), (2, .ref b)] [] A (fun o A' => ∃ v0, o = .inl v0 ∧ ∃ bb : Int, (v0 = some (.int (Int32.ofInt bb)) ∧ A' = A) ∧ ((bb = 1 ∧ xMH n m t u) ∨ (bb = 0 ∧ ¬ xMH n m t u))) := by
  obtain ⟨sa, v, la, ed, cap, f, as, q1, q2, q3, q4, q5, q6⟩ := yt_part h1
  obtain ⟨sb, v', lb, ed', cap', g, bs, r1, r2, r3, r4, r5, r6⟩ := yt_part h2
  obtain ⟨sm, vm, gm, hm1, hm2, hm3, hm4, hm5, hm6⟩ := id hma
  have kt := hw1.1
  have ku := hw2.1
  have l2 := hw2.2.2.2.2.2.1
  refine xr_steps (pc' := 129) (L' := [(0, .ref ma), (1, .ref a), (2, .ref b)]) (st' := [.ref b]) 1 rfl ?_
  refine xr_call (q := (.invokevirtual 64, 3, 189, 1)) (av := [.ref b]) (rest := []) rfl rfl (by decide) rfl (xr_rcv rfl r1) (Nat.le_of_ble_eq_true rfl) (mv_189 r1) ?_
  rintro _ _ ⟨rfl, eA⟩
  rw [eA]
  clear eA
  refine xr_steps (pc' := 135) (L' := [(0, .ref ma), (1, .ref a), (2, .ref b)]) (st' := [.ref 4, .ref (xv_k u)]) 1 rfl ?_
  refine xr_acmp (e := false) (t := 153) rfl rfl rfl (xk_dist ku) (by decide) (fun z31 => ?_) (fun z31 => ?_)
  · refine xr_steps (pc' := 139) (L' := [(0, .ref ma), (1, .ref a), (2, .ref b)]) (st' := [.ref b]) 1 rfl ?_
    refine xr_call (q := (.invokevirtual 86, 3, 149, 1)) (av := [.ref b]) (rest := []) rfl rfl (by decide) rfl (xr_rcv rfl r1) (Nat.le_of_ble_eq_true rfl) (mv_149 r1 r4) ?_
    rintro _ _ ⟨rfl, eA⟩
    rw [eA]
    clear eA
    refine xr_steps (pc' := 143) (L' := [(0, .ref ma), (1, .ref a), (2, .ref b)]) (st' := [.ref ma, .int (Int32.ofInt (bs.length : Int))]) 1 rfl ?_
    refine xr_getf (v := .int (Int32.ofInt m.2.1)) rfl hm1 rfl ?_
    refine xr_icmp_lt rfl (by omega) (by omega) (fun z32 => ?_) (fun z32 => ?_)
    · refine xr_steps (pc' := 154) (L' := [(0, .ref ma), (1, .ref a), (2, .ref b)]) (st' := [.int (Int32.ofInt 0)]) 1 rfl ?_
      refine xr_retZ rfl rfl (by omega) ⟨_, rfl, 0, ⟨rfl, rfl⟩, ?_⟩
      rw [hC]
      omega
    · refine xr_steps (pc' := 154) (L' := [(0, .ref ma), (1, .ref a), (2, .ref b)]) (st' := [.int (Int32.ofInt 1)]) 2 rfl ?_
      refine xr_retZ rfl rfl (by omega) ⟨_, rfl, 1, ⟨rfl, rfl⟩, ?_⟩
      rw [hC]
      omega
  · refine xr_steps (pc' := 154) (L' := [(0, .ref ma), (1, .ref a), (2, .ref b)]) (st' := [.int (Int32.ofInt 0)]) 1 rfl ?_
    refine xr_retZ rfl rfl (by omega) ⟨_, rfl, 0, ⟨rfl, rfl⟩, ?_⟩
    rw [hC]
    omega
theorem mm_188f (hw : w = .null ∨ w = .ref 19) (hk : yk2 A) (hma : ymt A Pm ma m) (h1 : yt A P (n + 1) a k t) (h2 : yt A P' (n + 1) b k' u) (hw1 : xwf (n + 1) t) (hw2 : xwf (n + 1) u) (hn : n ≤ 5) (hC : xMH n m t u ↔ (xv_k u = 4 ∧ ((xv_p u).length : Int) ≤ m.2.1)) : xr_ok (xt_G w) (d + 6 + 1 + 1 + 1 + 1 + 1) 188 155 [(0, .ref ma), (1, .ref a), (2, .ref b)] [] A (fun o A' => ∃ v0, o = .inl v0 ∧ ∃ bb : Int, (v0 = some (.int (Int32.ofInt bb)) ∧ A' = A) ∧ ((bb = 1 ∧ xMH n m t u) ∨ (bb = 0 ∧ ¬ xMH n m t u))) := by
  obtain ⟨sa, v, la, ed, cap, f, as, q1, q2, q3, q4, q5, q6⟩ := yt_part h1
  obtain ⟨sb, v', lb, ed', cap', g, bs, r1, r2, r3, r4, r5, r6⟩ := yt_part h2
  obtain ⟨sm, vm, gm, hm1, hm2, hm3, hm4, hm5, hm6⟩ := id hma
  have kt := hw1.1
  have ku := hw2.1
  have l2 := hw2.2.2.2.2.2.1
  refine xr_steps (pc' := 156) (L' := [(0, .ref ma), (1, .ref a), (2, .ref b)]) (st' := [.ref b]) 1 rfl ?_
  refine xr_call (q := (.invokevirtual 64, 3, 189, 1)) (av := [.ref b]) (rest := []) rfl rfl (by decide) rfl (xr_rcv rfl r1) (Nat.le_of_ble_eq_true rfl) (mv_189 r1) ?_
  rintro _ _ ⟨rfl, eA⟩
  rw [eA]
  clear eA
  refine xr_steps (pc' := 162) (L' := [(0, .ref ma), (1, .ref a), (2, .ref b)]) (st' := [.ref 4, .ref (xv_k u)]) 1 rfl ?_
  refine xr_acmp (e := false) (t := 180) rfl rfl rfl (xk_dist ku) (by decide) (fun z31 => ?_) (fun z31 => ?_)
  · refine xr_steps (pc' := 166) (L' := [(0, .ref ma), (1, .ref a), (2, .ref b)]) (st' := [.ref b]) 1 rfl ?_
    refine xr_call (q := (.invokevirtual 86, 3, 149, 1)) (av := [.ref b]) (rest := []) rfl rfl (by decide) rfl (xr_rcv rfl r1) (Nat.le_of_ble_eq_true rfl) (mv_149 r1 r4) ?_
    rintro _ _ ⟨rfl, eA⟩
    rw [eA]
    clear eA
    refine xr_steps (pc' := 170) (L' := [(0, .ref ma), (1, .ref a), (2, .ref b)]) (st' := [.ref ma, .int (Int32.ofInt (bs.length : Int))]) 1 rfl ?_
    refine xr_getf (v := .int (Int32.ofInt m.2.1)) rfl hm1 rfl ?_
    refine xr_icmp_gt rfl (by omega) (by omega) (fun z32 => ?_) (fun z32 => ?_)
    · refine xr_steps (pc' := 181) (L' := [(0, .ref ma), (1, .ref a), (2, .ref b)]) (st' := [.int (Int32.ofInt 0)]) 1 rfl ?_
      refine xr_retZ rfl rfl (by omega) ⟨_, rfl, 0, ⟨rfl, rfl⟩, ?_⟩
      rw [hC]
      omega
    · refine xr_steps (pc' := 181) (L' := [(0, .ref ma), (1, .ref a), (2, .ref b)]) (st' := [.int (Int32.ofInt 1)]) 2 rfl ?_
      refine xr_retZ rfl rfl (by omega) ⟨_, rfl, 1, ⟨rfl, rfl⟩, ?_⟩
      rw [hC]
      omega
  · refine xr_steps (pc' := 181) (L' := [(0, .ref ma), (1, .ref a), (2, .ref b)]) (st' := [.int (Int32.ofInt 0)]) 1 rfl ?_
    refine xr_retZ rfl rfl (by omega) ⟨_, rfl, 0, ⟨rfl, rfl⟩, ?_⟩
    rw [hC]
    omega
theorem xHP_str {p l : List Int} {f g : Nat → Int} (hf : ∀ j : Nat, j < l.length → f j = l.getD j 0) (hg : ∀ j : Nat, j < p.length → g j = p.getD j 0) : (∃ s : Nat, s + p.length ≤ l.length ∧ ∀ j : Nat, j < p.length → f (s + j) = g j) ↔ xHP p l := by
  constructor
  · rintro ⟨s, h1, h2⟩
    exact ⟨s, h1, fun j hj => by rw [← hf (s + j) (by omega), ← hg j hj]; exact h2 j hj⟩
  · rintro ⟨s, h1, h2⟩
    exact ⟨s, h1, fun j hj => by rw [hf (s + j) (by omega), hg j hj]; exact h2 j hj⟩
theorem xIM_str {p l : List Int} {f g : Nat → Int} (hf : ∀ j : Nat, j < l.length → f j = l.getD j 0) (hg : ∀ j : Nat, j < p.length → g j = p.getD j 0) : xfi l.length f g p.length p.length 0 (fun q => q = 0) l.length ↔ xIM p l := by
  unfold xIM
  rw [xfi_cong l.length p.length hf hg p.length 0 _ (by omega)]
theorem mm_188g (hw : w = .null ∨ w = .ref 19) (hk : yk2 A) (hma : ymt A Pm ma m) (h1 : yt A P (n + 1) a k t) (h2 : yt A P' (n + 1) b k' u) (hw1 : xwf (n + 1) t) (hw2 : xwf (n + 1) u) (hn : n ≤ 5) (hC : xMH n m t u ↔ (xv_k u = 3 ∧ xHP m.2.2 (xv_l u))) : xr_ok (xt_G w) (d + 6 + 1 + 1 + 1 + 1 + 1) 188 182 [(0, .ref ma), (1, .ref a), (2, .ref b)] [] A (fun o A' => ∃ v0, o = .inl v0 ∧ ∃ bb : Int, (v0 = some (.int (Int32.ofInt bb)) ∧ A' = A) ∧ ((bb = 1 ∧ xMH n m t u) ∨ (bb = 0 ∧ ¬ xMH n m t u))) := by
  obtain ⟨sa, v, la, ed, cap, f, as, q1, q2, q3, q4, q5, q6⟩ := yt_part h1
  obtain ⟨sb, v', lb, ed', cap', g, bs, r1, r2, r3, r4, r5, r6⟩ := yt_part h2
  obtain ⟨sm, vm, gm, hm1, hm2, hm3, hm4, hm5, hm6⟩ := id hma
  have kt := hw1.1
  have ku := hw2.1
  have l2 := hw2.2.2.2.2.2.1
  refine xr_steps (pc' := 183) (L' := [(0, .ref ma), (1, .ref a), (2, .ref b)]) (st' := [.ref b]) 1 rfl ?_
  refine xr_call (q := (.invokevirtual 64, 3, 189, 1)) (av := [.ref b]) (rest := []) rfl rfl (by decide) rfl (xr_rcv rfl r1) (Nat.le_of_ble_eq_true rfl) (mv_189 r1) ?_
  rintro _ _ ⟨rfl, eA⟩
  rw [eA]
  clear eA
  refine xr_steps (pc' := 189) (L' := [(0, .ref ma), (1, .ref a), (2, .ref b)]) (st' := [.ref 3, .ref (xv_k u)]) 1 rfl ?_
  refine xr_acmp (e := false) (t := 207) rfl rfl rfl (xk_dist ku) (by decide) (fun z31 => ?_) (fun z31 => ?_)
  · refine xr_steps (pc' := 194) (L' := [(0, .ref ma), (1, .ref a), (2, .ref b)]) (st' := [.ref b, .ref ma]) 2 rfl ?_
    refine xr_call (q := (.invokevirtual 92, 3, 190, 1)) (av := [.ref b]) (rest := [.ref ma]) rfl rfl (by decide) rfl (xr_rcv rfl r1) (Nat.le_of_ble_eq_true rfl) (mv_190 r1) ?_
    rintro _ _ ⟨rfl, eA⟩
    rw [eA]
    clear eA
    refine xr_call (q := (.invokevirtual 96, 3, 191, 2)) (av := [.ref ma, .ref sb]) (rest := []) rfl rfl (by decide) rfl (xr_rcv rfl hm1) (Nat.le_of_ble_eq_true rfl) (mm_191 hw hm1 hm2 r2 (by have := hw2.2.2.2.1; omega) hm2.2.2.1) ?_
    rintro _ _ ⟨bb, ⟨rfl, eA⟩, hb32⟩
    rw [eA]
    clear eA
    rcases hb32 with ⟨rfl, y32⟩ | ⟨rfl, y32⟩
    · refine xr_if_eq rfl (by omega) (fun z33 => ?_) (fun z33 => ?_)
      · exfalso; omega
      · refine xr_steps (pc' := 208) (L' := [(0, .ref ma), (1, .ref a), (2, .ref b)]) (st' := [.int (Int32.ofInt 1)]) 2 rfl ?_
        exact xr_retZ rfl rfl (by omega) ⟨_, rfl, 1, ⟨rfl, rfl⟩, Or.inl ⟨rfl, hC.2 ⟨z31, (xHP_str r3 hm3).1 y32⟩⟩⟩
    · refine xr_if_eq rfl (by omega) (fun z34 => ?_) (fun z34 => ?_)
      · refine xr_steps (pc' := 208) (L' := [(0, .ref ma), (1, .ref a), (2, .ref b)]) (st' := [.int (Int32.ofInt 0)]) 1 rfl ?_
        exact xr_retZ rfl rfl (by omega) ⟨_, rfl, 0, ⟨rfl, rfl⟩, Or.inr ⟨rfl, fun h => y32 ((xHP_str r3 hm3).2 (hC.1 h).2)⟩⟩
      · exfalso; omega
  · refine xr_steps (pc' := 208) (L' := [(0, .ref ma), (1, .ref a), (2, .ref b)]) (st' := [.int (Int32.ofInt 0)]) 1 rfl ?_
    exact xr_retZ rfl rfl (by omega) ⟨_, rfl, 0, ⟨rfl, rfl⟩, Or.inr ⟨rfl, fun h => z31 (hC.1 h).1⟩⟩
theorem mm_188h (hw : w = .null ∨ w = .ref 19) (hk : yk2 A) (hma : ymt A Pm ma m) (h1 : yt A P (n + 1) a k t) (h2 : yt A P' (n + 1) b k' u) (hw1 : xwf (n + 1) t) (hw2 : xwf (n + 1) u) (hn : n ≤ 5) (hC : xMH n m t u ↔ (xv_k u = 3 ∧ xIM m.2.2 (xv_l u))) : xr_ok (xt_G w) (d + 6 + 1 + 1 + 1 + 1 + 1) 188 209 [(0, .ref ma), (1, .ref a), (2, .ref b)] [] A (fun o A' => ∃ v0, o = .inl v0 ∧ ∃ bb : Int, (v0 = some (.int (Int32.ofInt bb)) ∧ A' = A) ∧ ((bb = 1 ∧ xMH n m t u) ∨ (bb = 0 ∧ ¬ xMH n m t u))) := by
  obtain ⟨sa, v, la, ed, cap, f, as, q1, q2, q3, q4, q5, q6⟩ := yt_part h1
  obtain ⟨sb, v', lb, ed', cap', g, bs, r1, r2, r3, r4, r5, r6⟩ := yt_part h2
  obtain ⟨sm, vm, gm, hm1, hm2, hm3, hm4, hm5, hm6⟩ := id hma
  have kt := hw1.1
  have ku := hw2.1
  have l2 := hw2.2.2.2.2.2.1
  refine xr_steps (pc' := 210) (L' := [(0, .ref ma), (1, .ref a), (2, .ref b)]) (st' := [.ref b]) 1 rfl ?_
  refine xr_call (q := (.invokevirtual 64, 3, 189, 1)) (av := [.ref b]) (rest := []) rfl rfl (by decide) rfl (xr_rcv rfl r1) (Nat.le_of_ble_eq_true rfl) (mv_189 r1) ?_
  rintro _ _ ⟨rfl, eA⟩
  rw [eA]
  clear eA
  refine xr_steps (pc' := 216) (L' := [(0, .ref ma), (1, .ref a), (2, .ref b)]) (st' := [.ref 3, .ref (xv_k u)]) 1 rfl ?_
  refine xr_acmp (e := false) (t := 234) rfl rfl rfl (xk_dist ku) (by decide) (fun z31 => ?_) (fun z31 => ?_)
  · refine xr_steps (pc' := 221) (L' := [(0, .ref ma), (1, .ref a), (2, .ref b)]) (st' := [.ref b, .ref ma]) 2 rfl ?_
    refine xr_call (q := (.invokevirtual 92, 3, 190, 1)) (av := [.ref b]) (rest := [.ref ma]) rfl rfl (by decide) rfl (xr_rcv rfl r1) (Nat.le_of_ble_eq_true rfl) (mv_190 r1) ?_
    rintro _ _ ⟨rfl, eA⟩
    rw [eA]
    clear eA
    refine xr_call (q := (.invokevirtual 100, 3, 193, 2)) (av := [.ref ma, .ref sb]) (rest := []) rfl rfl (by decide) rfl (xr_rcv rfl hm1) (Nat.le_of_ble_eq_true rfl) (mm_193 hw hm1 hm2 r2 (by have := hw2.2.2.2.1; omega) hm2.2.2.1) ?_
    rintro _ _ ⟨bb, ⟨rfl, eA⟩, hb32⟩
    rw [eA]
    clear eA
    rcases hb32 with ⟨rfl, y32⟩ | ⟨rfl, y32⟩
    · refine xr_if_eq rfl (by omega) (fun z33 => ?_) (fun z33 => ?_)
      · exfalso; omega
      · refine xr_steps (pc' := 235) (L' := [(0, .ref ma), (1, .ref a), (2, .ref b)]) (st' := [.int (Int32.ofInt 1)]) 2 rfl ?_
        exact xr_retZ rfl rfl (by omega) ⟨_, rfl, 1, ⟨rfl, rfl⟩, Or.inl ⟨rfl, hC.2 ⟨z31, (xIM_str r3 hm3).1 y32⟩⟩⟩
    · refine xr_if_eq rfl (by omega) (fun z34 => ?_) (fun z34 => ?_)
      · refine xr_steps (pc' := 235) (L' := [(0, .ref ma), (1, .ref a), (2, .ref b)]) (st' := [.int (Int32.ofInt 0)]) 1 rfl ?_
        exact xr_retZ rfl rfl (by omega) ⟨_, rfl, 0, ⟨rfl, rfl⟩, Or.inr ⟨rfl, fun h => y32 ((xIM_str r3 hm3).2 (hC.1 h).2)⟩⟩
      · exfalso; omega
  · refine xr_steps (pc' := 235) (L' := [(0, .ref ma), (1, .ref a), (2, .ref b)]) (st' := [.int (Int32.ofInt 0)]) 1 rfl ?_
    exact xr_retZ rfl rfl (by omega) ⟨_, rfl, 0, ⟨rfl, rfl⟩, Or.inr ⟨rfl, fun h => z31 (hC.1 h).1⟩⟩
theorem mm_188 (hw : w = .null ∨ w = .ref 19) (hk : yk2 A) (hma : ymt A Pm ma m) (h1 : yt A P (n + 1) a k t) (h2 : yt A P' (n + 1) b k' u) (hw1 : xwf (n + 1) t) (hw2 : xwf (n + 1) u) (hn : n ≤ 5) : xr_ok (xt_G w) (d + 6 + 1 + 1 + 1 + 1 + 1) 188 0 [(0, .ref ma), (1, .ref a), (2, .ref b)] [] A (fun o A' => ∃ v0, o = .inl v0 ∧ ∃ bb : Int, (v0 = some (.int (Int32.ofInt bb)) ∧ A' = A) ∧ ((bb = 1 ∧ xMH n m t u) ∨ (bb = 0 ∧ ¬ xMH n m t u))) := by
  obtain ⟨sm, vm, gm, hm1, hm2, hm3, hm4, hm5, hm6⟩ := id hma
  refine xr_steps (pc' := 1) (L' := [(0, .ref ma), (1, .ref a), (2, .ref b)]) (st' := [.ref ma]) 1 rfl ?_
  refine xr_getf (v := .int (Int32.ofInt m.1)) rfl hm1 rfl ?_
  by_cases c0 : m.1 = 116
  · refine xr_lsw (t := 72) rfl (by omega) (by rw [c0]; rfl) ?_
    exact mm_188a hw hk hma h1 h2 hw1 hw2 hn (by unfold xMH; rw [if_pos c0])
  by_cases c1 : m.1 = 61
  · refine xr_lsw (t := 89) rfl (by omega) (by rw [c1]; rfl) ?_
    exact mm_188b hw hk hma h1 h2 hw1 hw2 hn (by unfold xMH; rw [if_neg (by omega), if_pos c1])
  by_cases c2 : m.1 = 48
  · refine xr_lsw (t := 96) rfl (by omega) (by rw [c2]; rfl) ?_
    exact mm_188c hw hk hma h1 h2 hw1 hw2 hn (by unfold xMH; rw [if_neg (by omega), if_neg (by omega), if_pos c2])
  by_cases c3 : m.1 = 105
  · refine xr_lsw (t := 112) rfl (by omega) (by rw [c3]; rfl) ?_
    exact mm_188d hw hk hma h1 h2 hw1 hw2 hn (by unfold xMH; rw [if_neg (by omega), if_neg (by omega), if_neg (by omega), if_pos c3])
  by_cases c4 : m.1 = 62
  · refine xr_lsw (t := 128) rfl (by omega) (by rw [c4]; rfl) ?_
    exact mm_188e hw hk hma h1 h2 hw1 hw2 hn (by unfold xMH; rw [if_neg (by omega), if_neg (by omega), if_neg (by omega), if_neg (by omega), if_pos c4])
  by_cases c5 : m.1 = 60
  · refine xr_lsw (t := 155) rfl (by omega) (by rw [c5]; rfl) ?_
    exact mm_188f hw hk hma h1 h2 hw1 hw2 hn (by unfold xMH; rw [if_neg (by omega), if_neg (by omega), if_neg (by omega), if_neg (by omega), if_neg (by omega), if_pos c5])
  by_cases c6 : m.1 = 126
  · refine xr_lsw (t := 182) rfl (by omega) (by rw [c6]; rfl) ?_
    exact mm_188g hw hk hma h1 h2 hw1 hw2 hn (by unfold xMH; rw [if_neg (by omega), if_neg (by omega), if_neg (by omega), if_neg (by omega), if_neg (by omega), if_neg (by omega), if_pos c6])
  refine xr_lsw (t := 209) rfl (by omega) (by
    rw [xr_off, if_neg (by omega), xr_off, if_neg (by omega), xr_off, if_neg (by omega), xr_off, if_neg (by omega), xr_off, if_neg (by omega), xr_off, if_neg (by omega), xr_off, if_neg (by omega)]
    rfl) ?_
  exact mm_188h hw hk hma h1 h2 hw1 hw2 hn (by unfold xMH; rw [if_neg c0, if_neg c1, if_neg c2, if_neg c3, if_neg c4, if_neg c5, if_neg c6])
end MK
/-! A rule holds; it is as loose as its matchers; it fits a place; it outranks another -/
/-- the rule's matchers hold -/
def xRH (n : Nat) (ms : List (Int × Int × List Int)) (sp : Int) (t u : xv (n + 1)) : Prop := if sp = 124 then ∃ m ∈ ms, xMH n m t u else ∀ m ∈ ms, xMH n m t u
section MR
variable {w : Value} {d : Nat} {A : xb_H} {n ru a b pa ro la ed cap : Nat} {Pm P P' : Nat → Prop} {k k' one lo : Int} {ps : List Int} {ms : List (Int × Int × List Int)} {sp : Int} {as : List Nat} {t u : xv (n + 1)} {Q : xb_R → xb_H → Prop}
theorem mr_187l (hw : w = .null ∨ w = .ref 19) (hk : yk2 A) (hru : xb_get A ru = some (.inr (7, [.ref pa, .ref la, .int (Int32.ofInt one), .int (Int32.ofInt lo)]))) (hal : yal A la ed cap as) (hlen : as.length = ms.length) (hms : ∀ (i x : Nat) (m : Int × Int × List Int), as[i]? = some x → ms[i]? = some m → ymt A Pm x m) (ho : one = 0 ∨ one = 1) (h1 : yt A P (n + 1) a k t) (h2 : yt A P' (n + 1) b k' u) (hw1 : xwf (n + 1) t) (hw2 : xwf (n + 1) u) (hn : n ≤ 5) : ∀ (k i : Nat), i + k = ms.length → (∀ b : Int, ((b = one ∧ ∃ (j : Nat) (m : Int × Int × List Int), i ≤ j ∧ ms[j]? = some m ∧ (xMH n m t u ↔ one = 1)) ∨ (b = 1 - one ∧ ¬ ∃ (j : Nat) (m : Int × Int × List Int), i ≤ j ∧ ms[j]? = some m ∧ (xMH n m t u ↔ one = 1))) → Q (.inl (some (.int (Int32.ofInt b)))) A) → xr_ok (xt_G w) (d + 6 + 1 + 1 + 1 + 1 + 1 + 1) 187 2 [(3, .int (Int32.ofInt (i : Int))), (0, .ref ru), (1, .ref a), (2, .ref b)] [] A Q := by
  intro k
  induction k using Nat.strongRecOn with
  | _ k ih =>
    intro i hi hQ
    have hal0 := hal
    obtain ⟨mc, gg, -, -, -, hcl, hcap, -⟩ := hal0
    refine xr_steps (pc' := 4) (L' := [(3, .int (Int32.ofInt (i : Int))), (0, .ref ru), (1, .ref a), (2, .ref b)]) (st' := [.ref ru, .int (Int32.ofInt (i : Int))]) 2 rfl ?_
    refine xr_getf (v := .ref la) rfl hru rfl ?_
    refine xr_call (q := (.invokevirtual 80, 3, 127, 1)) (av := [.ref la]) (rest := [.int (Int32.ofInt (i : Int))]) rfl rfl (by decide) rfl (xr_rcv rfl hal.choose_spec.choose_spec.1) (Nat.le_of_ble_eq_true rfl) (ma_127 hal) ?_
    rintro _ _ ⟨rfl, eA⟩
    rw [eA]
    clear eA
    refine xr_icmp_ge rfl (by omega) (by omega) (fun z31 => ?_) (fun z31 => ?_)
    · refine xr_steps (pc' := 48) (L' := [(3, .int (Int32.ofInt (i : Int))), (0, .ref ru), (1, .ref a), (2, .ref b)]) (st' := [.ref ru]) 1 rfl ?_
      refine xr_getf (v := .int (Int32.ofInt one)) rfl hru rfl ?_
      refine xr_if_ne rfl (by omega) (fun z32 => ?_) (fun z32 => ?_)
      · refine xr_steps (pc' := 59) (L' := [(3, .int (Int32.ofInt (i : Int))), (0, .ref ru), (1, .ref a), (2, .ref b)]) (st' := [.int (Int32.ofInt 0)]) 1 rfl ?_
        exact xr_retZ rfl rfl (by omega) (hQ _ (Or.inr ⟨by omega, fun ⟨j, m, e1, e2, e3⟩ => absurd (List.getElem?_eq_some_iff.mp e2).1 (by omega)⟩))
      · refine xr_steps (pc' := 59) (L' := [(3, .int (Int32.ofInt (i : Int))), (0, .ref ru), (1, .ref a), (2, .ref b)]) (st' := [.int (Int32.ofInt 1)]) 2 rfl ?_
        exact xr_retZ rfl rfl (by omega) (hQ _ (Or.inr ⟨by omega, fun ⟨j, m, e1, e2, e3⟩ => absurd (List.getElem?_eq_some_iff.mp e2).1 (by omega)⟩))
    · obtain ⟨x, hx⟩ : ∃ x, as[i]? = some x := ⟨_, List.getElem?_eq_getElem (by omega)⟩
      obtain ⟨m, hm⟩ : ∃ m, ms[i]? = some m := ⟨_, List.getElem?_eq_getElem (by omega)⟩
      have hmt := hms i x m hx hm
      obtain ⟨sm, vm, gm, hm1, -⟩ := id hmt
      refine xr_steps (pc' := 14) (L' := [(3, .int (Int32.ofInt (i : Int))), (0, .ref ru), (1, .ref a), (2, .ref b)]) (st' := [.ref ru]) 1 rfl ?_
      refine xr_getf (v := .ref la) rfl hru rfl ?_
      refine xr_steps (pc' := 18) (L' := [(3, .int (Int32.ofInt (i : Int))), (0, .ref ru), (1, .ref a), (2, .ref b)]) (st' := [.int (Int32.ofInt (i : Int)), .ref la]) 1 rfl ?_
      refine xr_call (q := (.invokevirtual 83, 3, 128, 2)) (av := [.ref la, .int (Int32.ofInt (i : Int))]) (rest := []) rfl rfl (by decide) rfl (xr_rcv rfl hal.choose_spec.choose_spec.1) (Nat.le_of_ble_eq_true rfl) (ma_128 hal hx) ?_
      rintro _ _ ⟨rfl, eA⟩
      rw [eA]
      clear eA
      refine xr_castO rfl hm1 rfl ?_
      refine xr_steps (pc' := 26) (L' := [(3, .int (Int32.ofInt (i : Int))), (0, .ref ru), (1, .ref a), (2, .ref b)]) (st' := [.ref b, .ref a, .ref x]) 2 rfl ?_
      refine xr_call (q := (.invokevirtual 87, 3, 188, 3)) (av := [.ref x, .ref a, .ref b]) (rest := []) rfl rfl (by decide) rfl (xr_rcv rfl hm1) (Nat.le_of_ble_eq_true rfl) (mm_188 hw hk hmt h1 h2 hw1 hw2 hn) ?_
      rintro _ _ ⟨bb, ⟨rfl, eA⟩, hb33⟩
      rw [eA]
      clear eA
      rcases hb33 with ⟨rfl, y33⟩ | ⟨rfl, y33⟩
      · refine xr_steps (pc' := 30) (L' := [(3, .int (Int32.ofInt (i : Int))), (0, .ref ru), (1, .ref a), (2, .ref b)]) (st' := [.ref ru, .int (Int32.ofInt 1)]) 1 rfl ?_
        refine xr_getf (v := .int (Int32.ofInt one)) rfl hru rfl ?_
        refine xr_icmp_ne rfl (by omega) (by omega) (fun z34 => ?_) (fun z34 => ?_)
        · refine xr_iinc (L' := [(3, .int (Int32.ofInt ((i : Int) + 1))), (0, .ref ru), (1, .ref a), (2, .ref b)]) rfl rfl rfl ?_
          refine xr_steps (pc' := 2) (L' := [(3, .int (Int32.ofInt ((i : Int) + 1))), (0, .ref ru), (1, .ref a), (2, .ref b)]) (st' := []) 1 rfl ?_
          refine xr_loc (L := [(3, .int (Int32.ofInt ((i : Int) + 1))), (0, .ref ru), (1, .ref a), (2, .ref b)]) (show [3, 0, 1, 2].Nodup by decide) ⟨rfl, rfl, rfl, rfl, trivial⟩ ?_
          rw [show (i : Int) + 1 = ((i + 1 : Nat) : Int) by omega]
          have hne : ¬ (xMH n m t u ↔ one = 1) := fun h => by
            have := h.1 y33
            omega
          refine ih (k - 1) (by omega) (i + 1) (by omega) (fun b hb => hQ b ?_)
          rcases hb with ⟨e1, j, m', e2, e3, e4⟩ | ⟨e1, e2⟩
          · exact Or.inl ⟨e1, j, m', by omega, e3, e4⟩
          · refine Or.inr ⟨e1, ?_⟩
            rintro ⟨j, m', e3, e4, e5⟩
            by_cases ej : j = i
            · rw [ej, hm] at e4
              cases e4
              exact hne e5
            · exact e2 ⟨j, m', by omega, e4, e5⟩
        · refine xr_steps (pc' := 37) (L' := [(3, .int (Int32.ofInt (i : Int))), (0, .ref ru), (1, .ref a), (2, .ref b)]) (st' := [.ref ru]) 1 rfl ?_
          refine xr_getf (v := .int (Int32.ofInt one)) rfl hru rfl ?_
          exact xr_retZ rfl rfl (by omega) (hQ _ (Or.inl ⟨rfl, i, m, Nat.le_refl _, hm, ⟨fun _ => by omega, fun _ => y33⟩⟩))
      · refine xr_steps (pc' := 30) (L' := [(3, .int (Int32.ofInt (i : Int))), (0, .ref ru), (1, .ref a), (2, .ref b)]) (st' := [.ref ru, .int (Int32.ofInt 0)]) 1 rfl ?_
        refine xr_getf (v := .int (Int32.ofInt one)) rfl hru rfl ?_
        refine xr_icmp_ne rfl (by omega) (by omega) (fun z35 => ?_) (fun z35 => ?_)
        · refine xr_iinc (L' := [(3, .int (Int32.ofInt ((i : Int) + 1))), (0, .ref ru), (1, .ref a), (2, .ref b)]) rfl rfl rfl ?_
          refine xr_steps (pc' := 2) (L' := [(3, .int (Int32.ofInt ((i : Int) + 1))), (0, .ref ru), (1, .ref a), (2, .ref b)]) (st' := []) 1 rfl ?_
          refine xr_loc (L := [(3, .int (Int32.ofInt ((i : Int) + 1))), (0, .ref ru), (1, .ref a), (2, .ref b)]) (show [3, 0, 1, 2].Nodup by decide) ⟨rfl, rfl, rfl, rfl, trivial⟩ ?_
          rw [show (i : Int) + 1 = ((i + 1 : Nat) : Int) by omega]
          have hne : ¬ (xMH n m t u ↔ one = 1) := fun h => by
            exact y33 (h.2 (by omega))
            
          refine ih (k - 1) (by omega) (i + 1) (by omega) (fun b hb => hQ b ?_)
          rcases hb with ⟨e1, j, m', e2, e3, e4⟩ | ⟨e1, e2⟩
          · exact Or.inl ⟨e1, j, m', by omega, e3, e4⟩
          · refine Or.inr ⟨e1, ?_⟩
            rintro ⟨j, m', e3, e4, e5⟩
            by_cases ej : j = i
            · rw [ej, hm] at e4
              cases e4
              exact hne e5
            · exact e2 ⟨j, m', by omega, e4, e5⟩
        · refine xr_steps (pc' := 37) (L' := [(3, .int (Int32.ofInt (i : Int))), (0, .ref ru), (1, .ref a), (2, .ref b)]) (st' := [.ref ru]) 1 rfl ?_
          refine xr_getf (v := .int (Int32.ofInt one)) rfl hru rfl ?_
          exact xr_retZ rfl rfl (by omega) (hQ _ (Or.inl ⟨rfl, i, m, Nat.le_refl _, hm, ⟨fun h => absurd h y33, fun h => absurd h (by omega)⟩⟩))
theorem mr_187 (hw : w = .null ∨ w = .ref 19) (hk : yk2 A) (hr : yru A Pm ru ps ms sp) (h1 : yt A P (n + 1) a k t) (h2 : yt A P' (n + 1) b k' u) (hw1 : xwf (n + 1) t) (hw2 : xwf (n + 1) u) (hn : n ≤ 5) : xr_ok (xt_G w) (d + 6 + 1 + 1 + 1 + 1 + 1 + 1) 187 0 [(0, .ref ru), (1, .ref a), (2, .ref b)] [] A (fun o A' => ∃ v0, o = .inl v0 ∧ ∃ bb : Int, (v0 = some (.int (Int32.ofInt bb)) ∧ A' = A) ∧ ((bb = 1 ∧ xRH n ms sp t u) ∨ (bb = 0 ∧ ¬ xRH n ms sp t u))) := by
  obtain ⟨pa, ro, la, ed, cap, one, lo, as, hru, hpa, hal, hlen, hms, -, hone, -⟩ := hr
  have ho2 : one = 0 ∨ one = 1 := by rw [hone]; split <;> omega
  refine xr_steps (pc' := 2) (L' := [(3, .int (Int32.ofInt 0)), (0, .ref ru), (1, .ref a), (2, .ref b)]) (st' := []) 2 rfl ?_
  refine mr_187l hw hk hru hal hlen hms ho2 h1 h2 hw1 hw2 hn ms.length 0 (by omega) (fun b hb => ⟨_, rfl, b, ⟨rfl, rfl⟩, ?_⟩)
  have hE : (∃ (j : Nat) (m : Int × Int × List Int), 0 ≤ j ∧ ms[j]? = some m ∧ (xMH n m t u ↔ one = 1)) ↔ ∃ m ∈ ms, (xMH n m t u ↔ one = 1) := by
    constructor
    · rintro ⟨j, m, -, e1, e2⟩
      exact ⟨m, List.mem_of_getElem? e1, e2⟩
    · rintro ⟨m, e1, e2⟩
      obtain ⟨j, e3⟩ := List.mem_iff_getElem?.mp e1
      exact ⟨j, m, Nat.zero_le _, e3, e2⟩
  rw [hE] at hb
  unfold xRH
  by_cases hs : sp = 124
  · rw [if_pos hs] at hone
    rw [if_pos hs]
    have hE2 : (∃ m ∈ ms, (xMH n m t u ↔ one = 1)) ↔ ∃ m ∈ ms, xMH n m t u := ⟨fun ⟨m, e1, e2⟩ => ⟨m, e1, e2.2 hone⟩, fun ⟨m, e1, e2⟩ => ⟨m, e1, fun _ => hone, fun _ => e2⟩⟩
    rw [hE2] at hb
    rcases hb with ⟨e1, e2⟩ | ⟨e1, e2⟩
    · exact Or.inl ⟨by omega, e2⟩
    · exact Or.inr ⟨by omega, e2⟩
  · rw [if_neg hs] at hone
    rw [if_neg hs]
    rcases hb with ⟨e1, m, e2, e3⟩ | ⟨e1, e2⟩
    · refine Or.inr ⟨by omega, fun h => ?_⟩
      have := e3.1 (h m e2)
      omega
    · refine Or.inl ⟨by omega, fun m hm => Classical.byContradiction fun h => e2 ⟨m, hm, fun e => absurd e h, fun e => absurd e (by omega)⟩⟩
theorem mr_196 (hr : yru A Pm ru ps ms sp) : xr_ok (xt_G w) d 196 0 [(0, .ref ru)] [] A (fun o A' => ∃ v0, o = .inl v0 ∧ ∃ bb : Int, (v0 = some (.int (Int32.ofInt bb)) ∧ A' = A) ∧ ((bb = 1 ∧ ∃ m ∈ ms, xlo m) ∨ (bb = 0 ∧ ¬ ∃ m ∈ ms, xlo m))) := by
  obtain ⟨pa, ro, la, ed, cap, one, lo, as, hru, hpa, hal, hlen, hms, hP, hone, hlo, hlo2⟩ := hr
  refine xr_steps (pc' := 1) (L' := [(0, .ref ru)]) (st' := [.ref ru]) 1 rfl ?_
  refine xr_getf (v := .int (Int32.ofInt lo)) rfl hru rfl ?_
  refine xr_retZ rfl rfl (by omega) ⟨_, rfl, lo, ⟨rfl, rfl⟩, ?_⟩
  rcases hlo with h | h
  · exact Or.inr ⟨h, fun e => by rw [← hlo2] at e; omega⟩
  · exact Or.inl ⟨h, hlo2.1 h⟩
theorem mr_85 {pb rp rn : Nat} {l : List Int} (hr : yru A Pm ru ps ms sp) (hp2 : ypa A pb rp rn l) : xr_ok (xt_G w) (d + 1 + 1) 85 0 [(0, .ref ru), (1, .ref pb)] [] A (fun o A' => ∃ v0, o = .inl v0 ∧ ∃ bb : Int, (v0 = some (.int (Int32.ofInt bb)) ∧ A' = A) ∧ ((bb = 1 ∧ xft ps l) ∨ (bb = 0 ∧ ¬ xft ps l))) := by
  obtain ⟨pa, ro, la, ed, cap, one, lo, as, hru, hpa, hal, hlen, hms, hP, hone, hlo, hlo2⟩ := hr
  refine xr_steps (pc' := 1) (L' := [(0, .ref ru), (1, .ref pb)]) (st' := [.ref ru]) 1 rfl ?_
  refine xr_getf (v := .ref pa) rfl hru rfl ?_
  refine xr_steps (pc' := 5) (L' := [(0, .ref ru), (1, .ref pb)]) (st' := [.ref pb, .ref pa]) 1 rfl ?_
  refine xr_call (q := (.invokevirtual 69, 3, 86, 2)) (av := [.ref pa, .ref pb]) (rest := []) rfl rfl (by decide) rfl (xr_rcv rfl hpa.choose_spec.1) (Nat.le_of_ble_eq_true rfl) (mp_86 hpa hp2) ?_
  rintro _ _ ⟨bb, ⟨rfl, eA⟩, hb⟩
  rw [eA]
  clear eA
  have hb01 : bb = 0 ∨ bb = 1 := by omega
  exact xr_retZ rfl rfl (by omega) ⟨_, rfl, bb, ⟨rfl, rfl⟩, hb⟩
theorem xwt_rng (l : List Int) : ∀ (a : Int) (k : Nat), 2 ≤ a ∧ a ≤ 2 * (2 ^ k : Nat) → 2 ≤ xwt a l ∧ xwt a l ≤ 2 * (2 ^ (k + l.length) : Nat) := by
  induction l with
  | nil => intro a k h; exact h
  | cons s l ih =>
    intro a k h
    have e : xwt a (s :: l) = xwt (if s = -1 ∨ s = -2 then a else a * 2) l := rfl
    rw [e]
    have h2 := ih (if s = -1 ∨ s = -2 then a else a * 2) (k + 1) (by rw [Nat.pow_succ]; split <;> omega)
    rw [List.length_cons, show k + (l.length + 1) = k + 1 + l.length by omega]
    exact h2
theorem xwt_5 {l : List Int} (h : l.length ≤ 5) : 2 ≤ xwt 2 l ∧ xwt 2 l ≤ 64 := by
  have := xwt_rng l 2 0 (by omega)
  have h2 : 2 ^ (0 + l.length) ≤ 2 ^ 5 := Nat.pow_le_pow_right (by omega) (by omega)
  omega
def xork (p q : List Int) : Prop := xwt 2 p > xwt 2 q ∨ (xwt 2 p = xwt 2 q ∧ p.length > q.length)
theorem mr_88 {rv : Nat} {qs : List Int} {Pn : Nat → Prop} {ns : List (Int × Int × List Int)} {sq : Int} (hr : yru A Pm ru ps ms sp) (hr2 : yru A Pn rv qs ns sq) : xr_ok (xt_G w) (d + 1) 88 0 [(0, .ref ru), (1, .ref rv)] [] A (fun o A' => ∃ v0, o = .inl v0 ∧ ∃ bb : Int, (v0 = some (.int (Int32.ofInt bb)) ∧ A' = A) ∧ ((bb = 1 ∧ xork ps qs) ∨ (bb = 0 ∧ ¬ xork ps qs))) := by
  obtain ⟨pa, ro, la, ed, cap, one, lo, as, hru, hpa, hal, hlen, hms, hP, hone, hlo, hlo2⟩ := hr
  obtain ⟨pb, rp, lb, ee, caq, onf, lp, bs, hrv, hpb, -⟩ := hr2
  have e1 : ps.length ≤ 5 := hpa.choose_spec.2.2.2.1.1
  have e2 : qs.length ≤ 5 := hpb.choose_spec.2.2.2.1.1
  have e3 := xwt_5 e1
  have e4 := xwt_5 e2
  refine xr_steps (pc' := 1) (L' := [(0, .ref ru), (1, .ref rv)]) (st' := [.ref ru]) 1 rfl ?_
  refine xr_getf (v := .ref pa) rfl hru rfl ?_
  refine xr_call (q := (.invokevirtual 73, 3, 89, 1)) (av := [.ref pa]) (rest := []) rfl rfl (by decide) rfl (xr_rcv rfl hpa.choose_spec.1) (Nat.le_of_ble_eq_true rfl) (mp_89 hpa (by omega)) ?_
  rintro _ _ ⟨rfl, eA⟩
  rw [eA]
  clear eA
  refine xr_steps (pc' := 9) (L' := [(2, .int (Int32.ofInt (xwt 2 ps))), (0, .ref ru), (1, .ref rv)]) (st' := [.ref rv]) 2 rfl ?_
  refine xr_getf (v := .ref pb) rfl hrv rfl ?_
  refine xr_call (q := (.invokevirtual 73, 3, 89, 1)) (av := [.ref pb]) (rest := []) rfl rfl (by decide) rfl (xr_rcv rfl hpb.choose_spec.1) (Nat.le_of_ble_eq_true rfl) (mp_89 hpb (by omega)) ?_
  rintro _ _ ⟨rfl, eA⟩
  rw [eA]
  clear eA
  refine xr_steps (pc' := 18) (L' := [(3, .int (Int32.ofInt (xwt 2 qs))), (2, .int (Int32.ofInt (xwt 2 ps))), (0, .ref ru), (1, .ref rv)]) (st' := [.int (Int32.ofInt (xwt 2 qs)), .int (Int32.ofInt (xwt 2 ps))]) 3 rfl ?_
  refine xr_icmp_gt rfl (by omega) (by omega) (fun z1 => ?_) (fun z1 => ?_)
  · refine xr_steps (pc' := 48) (L' := [(3, .int (Int32.ofInt (xwt 2 qs))), (2, .int (Int32.ofInt (xwt 2 ps))), (0, .ref ru), (1, .ref rv)]) (st' := [.int (Int32.ofInt 1)]) 2 rfl ?_
    refine xr_retZ rfl rfl (by omega) ⟨_, rfl, 1, ⟨rfl, rfl⟩, ?_⟩
    unfold xork
    omega
  · refine xr_steps (pc' := 23) (L' := [(3, .int (Int32.ofInt (xwt 2 qs))), (2, .int (Int32.ofInt (xwt 2 ps))), (0, .ref ru), (1, .ref rv)]) (st' := [.int (Int32.ofInt (xwt 2 qs)), .int (Int32.ofInt (xwt 2 ps))]) 2 rfl ?_
    refine xr_icmp_ne rfl (by omega) (by omega) (fun z2 => ?_) (fun z2 => ?_)
    · refine xr_steps (pc' := 48) (L' := [(3, .int (Int32.ofInt (xwt 2 qs))), (2, .int (Int32.ofInt (xwt 2 ps))), (0, .ref ru), (1, .ref rv)]) (st' := [.int (Int32.ofInt 0)]) 1 rfl ?_
      refine xr_retZ rfl rfl (by omega) ⟨_, rfl, 0, ⟨rfl, rfl⟩, ?_⟩
      unfold xork
      omega
    · refine xr_steps (pc' := 27) (L' := [(3, .int (Int32.ofInt (xwt 2 qs))), (2, .int (Int32.ofInt (xwt 2 ps))), (0, .ref ru), (1, .ref rv)]) (st' := [.ref ru]) 1 rfl ?_
      refine xr_getf (v := .ref pa) rfl hru rfl ?_
      refine xr_call (q := (.invokevirtual 77, 3, 90, 1)) (av := [.ref pa]) (rest := []) rfl rfl (by decide) rfl (xr_rcv rfl hpa.choose_spec.1) (Nat.le_of_ble_eq_true rfl) (mp_90 hpa) ?_
      rintro _ _ ⟨rfl, eA⟩
      rw [eA]
      clear eA
      refine xr_steps (pc' := 34) (L' := [(3, .int (Int32.ofInt (xwt 2 qs))), (2, .int (Int32.ofInt (xwt 2 ps))), (0, .ref ru), (1, .ref rv)]) (st' := [.ref rv, .int (Int32.ofInt (ps.length : Int))]) 1 rfl ?_
      refine xr_getf (v := .ref pb) rfl hrv rfl ?_
      refine xr_call (q := (.invokevirtual 77, 3, 90, 1)) (av := [.ref pb]) (rest := [.int (Int32.ofInt (ps.length : Int))]) rfl rfl (by decide) rfl (xr_rcv rfl hpb.choose_spec.1) (Nat.le_of_ble_eq_true rfl) (mp_90 hpb) ?_
      rintro _ _ ⟨rfl, eA⟩
      rw [eA]
      clear eA
      refine xr_icmp_le rfl (by omega) (by omega) (fun z3 => ?_) (fun z3 => ?_)
      · refine xr_steps (pc' := 48) (L' := [(3, .int (Int32.ofInt (xwt 2 qs))), (2, .int (Int32.ofInt (xwt 2 ps))), (0, .ref ru), (1, .ref rv)]) (st' := [.int (Int32.ofInt 0)]) 1 rfl ?_
        refine xr_retZ rfl rfl (by omega) ⟨_, rfl, 0, ⟨rfl, rfl⟩, ?_⟩
        unfold xork
        omega
      · refine xr_steps (pc' := 48) (L' := [(3, .int (Int32.ofInt (xwt 2 qs))), (2, .int (Int32.ofInt (xwt 2 ps))), (0, .ref ru), (1, .ref rv)]) (st' := [.int (Int32.ofInt 1)]) 2 rfl ?_
        refine xr_retZ rfl rfl (by omega) ⟨_, rfl, 1, ⟨rfl, rfl⟩, ?_⟩
        unfold xork
        omega
end MR
