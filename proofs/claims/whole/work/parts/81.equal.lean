/-! Values are compared: trees -/
/-- the first with a key -/
def xmem {α : Type} : List (Int × α) → Int → Option α
  | [], _ => none
  | (k, v) :: l, c => if k = c then some v else xmem l c
/-- what stands against the part number i: the member of its key, or the element of its number -/
def xtw {α : Type} (kd : Nat) (l : List (Int × α)) (i : Nat) (c : Int) : Option α := if kd = 5 then xmem l c else (l[i]?).map fun q => q.2
/-- trees that texts can give -/
def xwf : (n : Nat) → xv n → Prop
  | 0, _ => False
  | n + 1, t => xv_k t < 6 ∧ (xv_k t < 4 → xv_p t = []) ∧ (4 ≤ xv_k t → xv_l t = []) ∧ (xv_l t).length ≤ 12 ∧ (∀ c ∈ xv_l t, 33 ≤ c ∧ c ≤ 122) ∧ (xv_p t).length ≤ 100 ∧ ∀ q ∈ xv_p t, xwf n q.2 ∧ 0 ≤ q.1 ∧ q.1 ≤ 127
def xeq : (n : Nat) → xv n → xv n → Prop
  | 0, _, _ => False
  | n + 1, t, u => (xv_k t = xv_k u ∧ xv_l t = xv_l u) ∧ (xv_p t).length = (xv_p u).length ∧ ∀ (i : Nat) (q : Int × xv n), (xv_p t)[i]? = some q → ∃ q', xtw (xv_k t) (xv_p u) i q.1 = some q' ∧ xeq n q.2 q'
theorem xl_eq : ∀ (l m : List Int), l.length = m.length → (∀ j : Nat, j < l.length → l.getD j 0 = m.getD j 0) → l = m := by
  intro l
  induction l with
  | nil => intro m h _; cases m with
    | nil => rfl
    | cons c m => cases h
  | cons c l ih =>
    intro m h h2
    cases m with
    | nil => cases h
    | cons c' m =>
      have e := h2 0 (by rw [List.length_cons]; omega)
      rw [List.getD_cons_zero, List.getD_cons_zero] at e
      rw [e, ih m (by simpa using h) (fun j hj => by
        have := h2 (j + 1) (by rw [List.length_cons]; omega)
        rwa [List.getD_cons_succ, List.getD_cons_succ] at this)]
section YEQ
variable {w : Value} {A : xb_H}
theorem mv_146 {d n m a b : Nat} {P P' : Nat → Prop} {k k' : Int} {t : xv (n + 1)} {u : xv (m + 1)} (hk : yk2 A) (h1 : yt A P (n + 1) a k t) (h2 : yt A P' (m + 1) b k' u) (hw1 : xwf (n + 1) t) (hw2 : xwf (m + 1) u) : xr_ok (xt_G w) (d + 1 + 1) 146 0 [(0, .ref a), (1, .ref b)] [] A (fun o A' => ∃ v0, o = .inl v0 ∧ ∃ bb : Int, (v0 = some (.int (Int32.ofInt bb)) ∧ A' = A) ∧ ((bb = 1 ∧ (xv_k t = xv_k u ∧ xv_l t = xv_l u)) ∨ (bb = 0 ∧ ¬ (xv_k t = xv_k u ∧ xv_l t = xv_l u)))) := by
  obtain ⟨sa, v, la, ed, cap, f, as, q1, q2, q3, -⟩ := h1
  obtain ⟨sb, u', lb, ed', cap', g, bs, r1, r2, r3, -⟩ := h2
  have key : (xv_k t = xv_k u ∧ (xv_l t).length = (xv_l u).length ∧ ∀ j : Nat, j < (xv_l t).length → f j = g j) ↔ (xv_k t = xv_k u ∧ xv_l t = xv_l u) := by
    constructor
    · rintro ⟨e1, e2, e3⟩
      exact ⟨e1, xl_eq _ _ e2 (fun j hj => by rw [← q3 j hj, ← r3 j (by omega), e3 j hj])⟩
    · rintro ⟨e1, e2⟩
      exact ⟨e1, by rw [e2], fun j hj => by rw [q3 j hj, r3 j (by rw [← e2]; exact hj), e2]⟩
  rw [← key]
  exact mv_146c hk q1 r1 hw1.1 hw2.1 q2 r2
/-- the k-th part in the heap -/
theorem yt_part {n a : Nat} {P : Nat → Prop} {k : Int} {t : xv (n + 1)} (h : yt A P (n + 1) a k t) : ∃ (sa v la ed cap : Nat) (f : Nat → Int) (as : List Nat), xb_get A a = some (.inr (9, [.ref (xv_k t), .ref sa, .ref la, .int (Int32.ofInt k), .int (Int32.ofInt (xsz (n + 1) t : Nat))])) ∧ ys A sa v (xv_l t).length f ∧ (∀ j : Nat, j < (xv_l t).length → f j = (xv_l t).getD j 0) ∧ yal A la ed cap as ∧ as.length = (xv_p t).length ∧ (∀ (i a' : Nat) (p : Int × xv n), as[i]? = some a' → (xv_p t)[i]? = some p → yt A P n a' p.1 p.2) := by
  obtain ⟨sa, v, la, ed, cap, f, as, q1, q2, q3, q4, q5, q6, q7⟩ := h
  exact ⟨sa, v, la, ed, cap, f, as, q1, q2, q3, q4, q5, fun i a' p h1 h2 => yt_mono n _ _ (fun x hx => hx.1) _ _ _ (q7 i a' p h1 h2)⟩
theorem xfnd_mem {n : Nat} {P : Nat → Prop} : ∀ (ts : List (Int × xv n)) (as : List Nat) (c : Int), as.length = ts.length → (∀ (i a' : Nat) (p : Int × xv n), as[i]? = some a' → ts[i]? = some p → yt A P n a' p.1 p.2) → (xfnd (ts.map fun q => q.1) as c = none ∧ xmem ts c = none) ∨ (∃ (x : Nat) (u : xv n), xfnd (ts.map fun q => q.1) as c = some x ∧ xmem ts c = some u ∧ yt A P n x c u) := by
  intro ts
  induction ts with
  | nil => intro as c _ _; exact Or.inl ⟨rfl, rfl⟩
  | cons q ts ih =>
    obtain ⟨k, v⟩ := q
    intro as c hl h
    cases as with
    | nil => cases hl
    | cons x as =>
      have e : xfnd (((k, v) :: ts).map fun q => q.1) (x :: as) c = if k = c then some x else xfnd (ts.map fun q => q.1) as c := rfl
      rw [e, xmem]
      by_cases hk : k = c
      · rw [if_pos hk, if_pos hk]
        exact Or.inr ⟨x, v, rfl, rfl, by rw [← hk]; exact h 0 x (k, v) rfl rfl⟩
      · rw [if_neg hk, if_neg hk]
        exact ih as c (by simpa using hl) (fun i a' p h1 h2 => h (i + 1) a' p h1 h2)
theorem yt_keys {n : Nat} {P : Nat → Prop} {ts : List (Int × xv n)} {as : List Nat} (hr : ∀ q ∈ ts, xwf n q.2 ∧ 0 ≤ q.1 ∧ q.1 ≤ 127) (h : ∀ (i a' : Nat) (p : Int × xv n), as[i]? = some a' → ts[i]? = some p → yt A P n a' p.1 p.2) : ∀ (j x : Nat) (k : Int), as[j]? = some x → (ts.map fun q => q.1)[j]? = some k → ykey A x k := by
  intro j x k hx hk
  rw [List.getElem?_map] at hk
  cases hp : ts[j]? with
  | none => rw [hp] at hk; cases hk
  | some q =>
    rw [hp] at hk
    cases hk
    obtain ⟨fs, h1, h2, -⟩ := yt_cell (h j x q hx hp)
    have := hr q (List.mem_of_getElem? hp)
    exact ⟨fs, h1, h2, by show 0 ≤ q.1; omega, by show q.1 ≤ 127; omega⟩
theorem xmem_mem {α : Type} : ∀ (l : List (Int × α)) (c : Int) (v : α), xmem l c = some v → ∃ q ∈ l, q.2 = v ∧ q.1 = c := by
  intro l
  induction l with
  | nil => intro c v h; cases h
  | cons q l ih =>
    obtain ⟨k, u⟩ := q
    intro c v h
    rw [xmem] at h
    by_cases hk : k = c
    · rw [if_pos hk] at h
      cases h
      exact ⟨(k, u), List.mem_cons_self, rfl, hk⟩
    · rw [if_neg hk] at h
      obtain ⟨q, h1, h2⟩ := ih c v h
      exact ⟨q, List.mem_cons_of_mem _ h1, h2⟩
def yeL (a b i : Nat) (dp : Int) (o : Option (Nat × Nat)) : xb_L := (3, .int (Int32.ofInt (i : Int))) :: (match o with
  | none => [(0, .ref a), (1, .ref b), (2, .int (Int32.ofInt dp))]
  | some (x, y) => [(5, .ref y), (4, .ref x), (0, .ref a), (1, .ref b), (2, .int (Int32.ofInt dp))])
/-- areEqual of trees of n levels -/
def yEQ (w : Value) (A : xb_H) (D n : Nat) (dp : Int) : Prop := ∀ {a b : Nat} {P P' : Nat → Prop} {k k' : Int} {t u : xv n}, yt A P n a k t → yt A P' n b k' u → xwf n t → xwf n u → xr_ok (xt_G w) D 145 0 [(0, .ref a), (1, .ref b), (2, .int (Int32.ofInt dp))] [] A (fun o A' => ∃ v0, o = .inl v0 ∧ ∃ bb : Int, (v0 = some (.int (Int32.ofInt bb)) ∧ A' = A) ∧ ((bb = 1 ∧ xeq n t u) ∨ (bb = 0 ∧ ¬ xeq n t u)))
theorem mv_145l {d n a b : Nat} {dp : Int} {P P' : Nat → Prop} {k k' : Int} {t u : xv (n + 1)} {Q : xb_R → xb_H → Prop} (hdp : 0 ≤ dp ∧ dp ≤ 5) (IH : yEQ w A (d + 1 + 1 + 1 + 1) n (dp + 1)) (h1 : yt A P (n + 1) a k t) (h2 : yt A P' (n + 1) b k' u) (hw1 : xwf (n + 1) t) (hw2 : xwf (n + 1) u) (hln : (xv_p t).length = (xv_p u).length) : ∀ (r i : Nat) (o : Option (Nat × Nat)), i + r = (xv_p t).length → (∀ bb : Int, ((bb = 1 ∧ ∀ (j : Nat) (q : Int × xv n), i ≤ j → (xv_p t)[j]? = some q → ∃ q', xtw (xv_k t) (xv_p u) j q.1 = some q' ∧ xeq n q.2 q') ∨ (bb = 0 ∧ ¬ ∀ (j : Nat) (q : Int × xv n), i ≤ j → (xv_p t)[j]? = some q → ∃ q', xtw (xv_k t) (xv_p u) j q.1 = some q' ∧ xeq n q.2 q')) → Q (.inl (some (.int (Int32.ofInt bb)))) A) → xr_ok (xt_G w) (d + 1 + 1 + 1 + 1 + 1) 145 28 (yeL a b i dp o) [] A Q := by
  obtain ⟨sa, v, la, ed, cap, f, as, q1, q2, q3, q4, q5, q6⟩ := yt_part h1
  obtain ⟨sb, v', lb, ed', cap', g, bs, r1, r2, r3, r4, r5, r6⟩ := yt_part h2
  obtain ⟨mc, ga, hla, -⟩ := id q4
  have hw1l := hw1.2.2.2.2.2
  intro r
  induction r with
  | zero =>
    intro i o hi hQ
    refine xr_steps (pc' := 30) (L' := yeL a b i dp o) (st' := [.ref a, .int (Int32.ofInt (i : Int))]) 2 (by rcases o with _ | ⟨_, _⟩ <;> rfl) ?_
    refine xr_getf (v := .ref la) rfl q1 rfl ?_
    refine xr_call (q := (.invokevirtual 136, 3, 127, 1)) (av := [.ref la]) (rest := [.int (Int32.ofInt (i : Int))]) rfl rfl (by decide) rfl (xr_rcv rfl hla) (Nat.le_of_ble_eq_true rfl) (ma_127 q4) ?_
    rintro _ _ ⟨rfl, eA⟩
    rw [eA]
    clear eA
    refine xr_icmp_ge rfl (by omega) (by omega) (fun _ => ?_) (fun h => absurd (show (as.length : Int) ≤ (i : Int) by omega) h)
    refine xr_steps (pc' := 108) (L' := yeL a b i dp o) (st' := [.int (Int32.ofInt 1)]) 1 (by rcases o with _ | ⟨_, _⟩ <;> rfl) ?_
    refine xr_retZ rfl rfl (by omega) (hQ 1 (Or.inl ⟨rfl, fun j q hj hq => ?_⟩))
    have := (List.getElem?_eq_some_iff.mp hq).1
    omega
  | succ r ih =>
    intro i o hi hQ
    obtain ⟨x, hx⟩ : ∃ x, as[i]? = some x := ⟨as[i]'(by omega), List.getElem?_eq_getElem (by omega)⟩
    obtain ⟨q, hq⟩ : ∃ q, (xv_p t)[i]? = some q := ⟨(xv_p t)[i]'(by omega), List.getElem?_eq_getElem (by omega)⟩
    have htx := q6 i x q hx hq
    have hwq := hw1l.2 q (List.mem_of_getElem? hq)
    obtain ⟨fs, hxc, hx3, -⟩ := yt_cell htx
    refine xr_steps (pc' := 30) (L' := yeL a b i dp o) (st' := [.ref a, .int (Int32.ofInt (i : Int))]) 2 (by rcases o with _ | ⟨_, _⟩ <;> rfl) ?_
    refine xr_getf (v := .ref la) rfl q1 rfl ?_
    refine xr_call (q := (.invokevirtual 136, 3, 127, 1)) (av := [.ref la]) (rest := [.int (Int32.ofInt (i : Int))]) rfl rfl (by decide) rfl (xr_rcv rfl hla) (Nat.le_of_ble_eq_true rfl) (ma_127 q4) ?_
    rintro _ _ ⟨rfl, eA⟩
    rw [eA]
    clear eA
    refine xr_icmp_ge rfl (by omega) (by omega) (fun h => absurd h (by omega)) (fun _ => ?_)
    refine xr_steps (pc' := 40) (L' := yeL a b i dp o) (st' := [.ref a]) 1 (by rcases o with _ | ⟨_, _⟩ <;> rfl) ?_
    refine xr_getf (v := .ref la) rfl q1 rfl ?_
    refine xr_steps (pc' := 44) (L' := yeL a b i dp o) (st' := [.int (Int32.ofInt (i : Int)), .ref la]) 1 (by rcases o with _ | ⟨_, _⟩ <;> rfl) ?_
    refine xr_call (q := (.invokevirtual 139, 3, 128, 2)) (av := [.ref la, .int (Int32.ofInt (i : Int))]) (rest := []) rfl rfl (by decide) rfl (xr_rcv rfl hla) (Nat.le_of_ble_eq_true rfl) (ma_128 q4 hx) ?_
    rintro _ _ ⟨rfl, eA⟩
    rw [eA]
    clear eA
    refine xr_castO rfl hxc rfl ?_
    obtain ⟨L1, hL1⟩ : ∃ L1 : xb_L, L1 = xb_st (yeL a b i dp o) 4 (.ref x) := ⟨_, rfl⟩
    refine xr_steps (pc' := 53) (L' := L1) (st' := [.ref a]) 2 (by rw [hL1]; rcases o with _ | ⟨_, _⟩ <;> rfl) ?_
    refine xr_getf (v := .ref (xv_k t)) rfl q1 rfl ?_
    refine xr_steps (pc' := 59) (L' := L1) (st' := [.ref 5, .ref (xv_k t)]) 1 rfl ?_
    -- behind the twin
    have hnone : xtw (xv_k t) (xv_p u) i q.1 = none → xr_ok (xt_G w) (d + 1 + 1 + 1 + 1 + 1) 145 79 L1 [.null] A Q := by
      intro hn
      refine xr_steps (pc' := 100) (L' := xb_st L1 5 .null) (st' := [.int (Int32.ofInt 0)]) 4 (by rw [hL1]; rcases o with _ | ⟨_, _⟩ <;> rfl) ?_
      refine xr_retZ rfl rfl (by omega) (hQ 0 (Or.inr ⟨rfl, fun h => ?_⟩))
      obtain ⟨q', e, -⟩ := h i q (Nat.le_refl _) hq
      rw [hn] at e
      cases e
    have hsome : ∀ (y : Nat) (c' : Int) (u' : xv n), xtw (xv_k t) (xv_p u) i q.1 = some u' → yt A P' n y c' u' → xwf n u' → xr_ok (xt_G w) (d + 1 + 1 + 1 + 1 + 1) 145 79 L1 [.ref y] A Q := by
      intro y c' u' hs hy hwy
      refine xr_steps (pc' := 92) (L' := [(5, .ref y), (4, .ref x), (3, .int (Int32.ofInt (i : Int))), (0, .ref a), (1, .ref b), (2, .int (Int32.ofInt dp))]) (st' := [.int (Int32.ofInt 1), .int (Int32.ofInt dp), .ref y, .ref x]) 7 (by rw [hL1]; rcases o with _ | ⟨_, _⟩ <;> rfl) ?_
      refine xr_iadd rfl ?_
      refine xr_call (q := (.invokestatic 157, 3, 145, 3)) (av := [.ref x, .ref y, .int (Int32.ofInt (dp + 1))]) (rest := []) rfl rfl (by decide) rfl rfl (Nat.le_of_ble_eq_true rfl) (IH htx hy hwq.1 hwy) ?_
      rintro _ _ ⟨bb, ⟨rfl, eA⟩, hb⟩
      rw [eA]
      clear eA
      refine xr_if_ne rfl (by omega) (fun hbn => ?_) (fun hbn => ?_)
      · have hbe : xeq n q.2 u' := by
          rcases hb with hb | hb
          · exact hb.2
          · omega
        refine xr_iinc (L' := yeL a b (i + 1) dp (some (x, y))) rfl rfl ?_ ?_
        · have ei : (i : Int) + 1 = ((i + 1 : Nat) : Int) := by omega
          rw [ei]
          rfl
        refine xr_steps (pc' := 28) (L' := yeL a b (i + 1) dp (some (x, y))) (st' := []) 1 rfl ?_
        refine ih (i + 1) (some (x, y)) (by omega) (fun bb hbb => hQ bb ?_)
        rcases hbb with ⟨e1, e2⟩ | ⟨e1, e2⟩
        · refine Or.inl ⟨e1, fun j p hj hp => ?_⟩
          by_cases e : j = i
          · rw [e] at hp ⊢
            rw [hq] at hp
            cases hp
            exact ⟨u', hs, hbe⟩
          · exact e2 j p (by omega) hp
        · exact Or.inr ⟨e1, fun h => e2 fun j p hj hp => h j p (by omega) hp⟩
      · refine xr_steps (pc' := 100) (L' := [(5, .ref y), (4, .ref x), (3, .int (Int32.ofInt (i : Int))), (0, .ref a), (1, .ref b), (2, .int (Int32.ofInt dp))]) (st' := [.int (Int32.ofInt 0)]) 1 rfl ?_
        refine xr_retZ rfl rfl (by omega) (hQ 0 (Or.inr ⟨rfl, fun h => ?_⟩))
        obtain ⟨q', e, e'⟩ := h i q (Nat.le_refl _) hq
        rw [hs] at e
        cases e
        rcases hb with hb | hb
        · omega
        · exact hb.2 e'
    refine xr_acmp (e := false) (t := 74) rfl rfl rfl (xk_dist hw1.1) (by decide) (fun hk5 => ?_) (fun hk5 => ?_)
    · rw [if_neg (by decide)]
      have hxt : xtw (xv_k t) (xv_p u) i q.1 = xmem (xv_p u) q.1 := by unfold xtw; rw [if_pos hk5]
      refine xr_steps (pc' := 65) (L' := L1) (st' := [.ref x, .ref b]) 2 (by rw [hL1]; rcases o with _ | ⟨_, _⟩ <;> rfl) ?_
      refine xr_getf (v := .int (Int32.ofInt q.1)) rfl hxc hx3 ?_
      refine xr_call (q := (.invokevirtual 102, 3, 126, 2)) (av := [.ref b, .int (Int32.ofInt q.1)]) (rest := []) rfl rfl (by decide) rfl (xr_rcv rfl r1) (Nat.le_of_ble_eq_true rfl) (mv_126 (ks := (xv_p u).map fun q => q.1) ⟨hwq.2.1, hwq.2.2⟩ r1 rfl r4 (by rw [List.length_map, r5]) (yt_keys hw2.2.2.2.2.2.2 r6)) ?_
      rintro _ _ ⟨rfl, eA⟩
      rw [eA]
      clear eA
      rcases xfnd_mem (xv_p u) bs q.1 r5 r6 with ⟨e1, e2⟩ | ⟨y, u', e1, e2, e3⟩
      · rw [e1]
        refine xr_steps (pc' := 79) (L' := L1) (st' := [.null]) 1 rfl ?_
        exact hnone (hxt.trans e2)
      · rw [e1]
        refine xr_steps (pc' := 79) (L' := L1) (st' := [.ref y]) 1 rfl ?_
        obtain ⟨p, m1, m2, -⟩ := xmem_mem _ _ _ e2
        exact hsome y _ u' (hxt.trans e2) e3 (by rw [← m2]; exact (hw2.2.2.2.2.2.2 p m1).1)
    · rw [if_neg (by decide)]
      obtain ⟨y, hy⟩ : ∃ y, bs[i]? = some y := ⟨bs[i]'(by omega), List.getElem?_eq_getElem (by omega)⟩
      obtain ⟨p, hp⟩ : ∃ p, (xv_p u)[i]? = some p := ⟨(xv_p u)[i]'(by omega), List.getElem?_eq_getElem (by omega)⟩
      have hty := r6 i y p hy hp
      obtain ⟨gs, hyc, -⟩ := yt_cell hty
      refine xr_steps (pc' := 76) (L' := L1) (st' := [.int (Int32.ofInt (i : Int)), .ref b]) 2 (by rw [hL1]; rcases o with _ | ⟨_, _⟩ <;> rfl) ?_
      refine xr_call (q := (.invokevirtual 153, 3, 150, 2)) (av := [.ref b, .int (Int32.ofInt (i : Int))]) (rest := []) rfl rfl (by decide) rfl (xr_rcv rfl r1) (Nat.le_of_ble_eq_true rfl) (mv_150 r1 r4 hy hyc) ?_
      rintro _ _ ⟨rfl, eA⟩
      rw [eA]
      clear eA
      refine hsome y _ p.2 ?_ hty (hw2.2.2.2.2.2.2 p (List.mem_of_getElem? hp)).1
      unfold xtw
      rw [if_neg hk5, hp]
      rfl
theorem mv_145 (hk : yk2 A) : ∀ (n d : Nat) (dp : Int), 0 ≤ dp ∧ (n : Int) + dp ≤ 6 → yEQ w A (d + n + 1 + 1 + 1 + 1) n dp := by
  intro n
  induction n with
  | zero => intro d dp _ a b P P' k k' t u h; exact absurd h id
  | succ n ih =>
    intro d dp hdp a b P P' k k' t u h1 h2 hw1 hw2
    obtain ⟨sa, v, la, ed, cap, f, as, q1, q2, q3, q4, q5, q6⟩ := yt_part h1
    obtain ⟨sb, v', lb, ed', cap', g, bs, r1, r2, r3, r4, r5, r6⟩ := yt_part h2
    have l1 := hw1.2.2.2.2.2.1
    have l2 := hw2.2.2.2.2.2.1
    have no : ∀ {pc : Nat} {L : xb_L}, pc = 24 → ¬ xeq (n + 1) t u → xr_ok (xt_G w) (d + (n + 1) + 1 + 1 + 1 + 1) 145 pc L [] A (fun o A' => ∃ v0, o = .inl v0 ∧ ∃ bb : Int, (v0 = some (.int (Int32.ofInt bb)) ∧ A' = A) ∧ ((bb = 1 ∧ xeq (n + 1) t u) ∨ (bb = 0 ∧ ¬ xeq (n + 1) t u))) := by
      intro pc L e h
      subst e
      refine xr_steps (pc' := 25) (L' := L) (st' := [.int (Int32.ofInt 0)]) 1 rfl ?_
      exact xr_retZ rfl rfl (by omega) ⟨_, rfl, 0, ⟨rfl, rfl⟩, Or.inr ⟨rfl, h⟩⟩
    refine xr_steps (pc' := 2) (L' := [(0, .ref a), (1, .ref b), (2, .int (Int32.ofInt dp))]) (st' := [.int (Int32.ofInt 5), .int (Int32.ofInt dp)]) 2 rfl ?_
    refine xr_icmp_gt rfl (by omega) (by omega) (fun h => absurd h (by omega)) (fun _ => ?_)
    refine xr_steps (pc' := 7) (L' := [(0, .ref a), (1, .ref b), (2, .int (Int32.ofInt dp))]) (st' := [.ref b, .ref a]) 2 rfl ?_
    refine xr_call (q := (.invokevirtual 148, 3, 146, 2)) (av := [.ref a, .ref b]) (rest := []) rfl rfl (by decide) rfl (xr_rcv rfl q1) (Nat.le_of_ble_eq_true rfl) (mv_146 hk h1 h2 hw1 hw2) ?_
    rintro _ _ ⟨bb, ⟨rfl, eA⟩, hb⟩
    rw [eA]
    clear eA
    refine xr_if_eq rfl (by omega) (fun h0 => no rfl (fun h => ?_)) (fun h0 => ?_)
    · rcases hb with hb | hb
      · omega
      · exact hb.2 h.1
    have hal : xv_k t = xv_k u ∧ xv_l t = xv_l u := by
      rcases hb with hb | hb
      · exact hb.2
      · omega
    refine xr_steps (pc' := 14) (L' := [(0, .ref a), (1, .ref b), (2, .int (Int32.ofInt dp))]) (st' := [.ref a]) 1 rfl ?_
    refine xr_call (q := (.invokevirtual 152, 3, 149, 1)) (av := [.ref a]) (rest := []) rfl rfl (by decide) rfl (xr_rcv rfl q1) (Nat.le_of_ble_eq_true rfl) (mv_149 q1 q4) ?_
    rintro _ _ ⟨rfl, eA⟩
    rw [eA]
    clear eA
    refine xr_steps (pc' := 18) (L' := [(0, .ref a), (1, .ref b), (2, .int (Int32.ofInt dp))]) (st' := [.ref b, .int (Int32.ofInt (as.length : Int))]) 1 rfl ?_
    refine xr_call (q := (.invokevirtual 152, 3, 149, 1)) (av := [.ref b]) (rest := [.int (Int32.ofInt (as.length : Int))]) rfl rfl (by decide) rfl (xr_rcv rfl r1) (Nat.le_of_ble_eq_true rfl) (mv_149 r1 r4) ?_
    rintro _ _ ⟨rfl, eA⟩
    rw [eA]
    clear eA
    refine xr_icmp_eq rfl (by omega) (by omega) (fun hl => ?_) (fun hl => no rfl (fun h => ?_))
    · refine xr_steps (pc' := 28) (L' := yeL a b 0 dp none) (st' := []) 2 rfl ?_
      refine mv_145l (by omega) (ih d (dp + 1) (by omega)) h1 h2 hw1 hw2 (by omega) (xv_p t).length 0 none (by omega) (fun bb hbb => ⟨_, rfl, bb, ⟨rfl, rfl⟩, ?_⟩)
      rcases hbb with ⟨e1, e2⟩ | ⟨e1, e2⟩
      · exact Or.inl ⟨e1, hal, by omega, fun i q hq => e2 i q (Nat.zero_le _) hq⟩
      · exact Or.inr ⟨e1, fun h => e2 fun j q _ hq => h.2.2 j q hq⟩
    · have := h.2.1
      omega
end YEQ
