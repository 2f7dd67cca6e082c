/-! Sizes and pairs of values -/
theorem xVL_sz {α : Type} {E : Nat → Int} {V : Nat → α → Nat → Prop} {ob : Nat} {c : Int} {z : α → Nat} (hz : ∀ p v r, V p v r → p + z v ≤ r) : ∀ (l : List (Int × α)) (p q : Nat), xVL E V ob c l p q → p + (l.map fun a => z a.2).sum ≤ q := by
  intro l
  induction l with
  | nil => intro p q h; exact absurd h id
  | cons a l ih =>
    obtain ⟨k, v⟩ := a
    intro p q h
    obtain ⟨r, h1, h2, h3⟩ := h
    have hr := hz _ _ _ h1
    rw [List.map_cons, List.sum_cons]
    rcases h3 with ⟨rfl, -, rfl⟩ | ⟨-, -, h3⟩
    · rw [List.map_nil, List.sum_nil]
      dsimp only
      omega
    · have := ih (r + 1) q h3
      dsimp only
      omega
theorem xV_sz {E : Nat → Int} : ∀ (m p q : Nat) (t : xv m), xV E m p t q → p + xsz m t ≤ q := by
  intro m
  induction m with
  | zero => intro p q t h; exact absurd h id
  | succ m ih =>
    intro p q t h
    obtain ⟨h1, h2, h3⟩ := h
    rw [xsz]
    rcases h3 with ⟨e1, -⟩ | ⟨-, ⟨-, -, ⟨e1, -⟩ | e1⟩ | ⟨-, -, ⟨e1, -⟩ | e1⟩⟩
    · rw [e1, List.map_nil, List.sum_nil]; omega
    · rw [e1, List.map_nil, List.sum_nil]; omega
    · have := xVL_sz (z := xsz m) (fun p v r h => ih p r v h) _ _ _ e1
      omega
    · rw [e1, List.map_nil, List.sum_nil]; omega
    · have := xVL_sz (z := xsz m) (fun p v r h => ih p r v h) _ _ _ e1
      omega
/-- rows that differ in the two piles alone -/
def xsm (t t' : Nat → Nat → Int) : Prop := ∀ x : Nat, ¬ x = 191 → ¬ x = 192 → t' x = t x
theorem xsm_refl (t : Nat → Nat → Int) : xsm t t := fun _ _ _ => rfl
theorem xsm_trans {t t' t'' : Nat → Nat → Int} (h1 : xsm t t') (h2 : xsm t' t'') : xsm t t'' := fun x a b => (h2 x a b).trans (h1 x a b)
theorem xsm_put {t t' : Nat → Nat → Int} (h1 : xsm t t') (f g : Nat → Int) : xsm t (va_up (va_up t' 191 f) 192 g) := fun x a b => by rw [ya_up_ne _ _ b, ya_up_ne _ _ a]; exact h1 x a b
/-- two values that stand at x and y -/
def xEN (E : Nat → Int) (x y : Int) (e : Nat × Prop) : Prop := ∃ (m p q z1 z2 : Nat) (u v : xv m), x = p ∧ y = q ∧ m ≤ 6 ∧ xV E m p u z1 ∧ xV E m q v z2 ∧ (z1 ≤ p + 100 ∧ z1 < 3711 ∧ z2 ≤ q + 100 ∧ z2 < 3711) ∧ xsz m u = e.1 ∧ (xeq m u v ↔ e.2)
/-- the piles hold the pairs es -/
def xPL (E : Nat → Int) (f g : Nat → Int) (es : List (Nat × Prop)) : Prop := ∀ (i : Nat) (e : Nat × Prop), es[i]? = some e → xEN E (f i) (g i) e
theorem xPL_pop {E f g : Nat → Int} {es : List (Nat × Prop)} {e : Nat × Prop} (h : xPL E f g (es ++ [e])) : xPL E f g es ∧ xEN E (f es.length) (g es.length) e :=
  ⟨fun i e' he => h i e' (by rw [List.getElem?_append_left (List.getElem?_eq_some_iff.mp he).1]; exact he), h es.length e (by rw [List.getElem?_append_right (Nat.le_refl _), Nat.sub_self]; rfl)⟩
theorem xPL_push {E f g : Nat → Int} {es : List (Nat × Prop)} {e : Nat × Prop} {x y : Int} (h : xPL E f g es) (he : xEN E x y e) : xPL E (va_up f es.length x) (va_up g es.length y) (es ++ [e]) := by
  intro i e' hi
  by_cases c : i < es.length
  · rw [List.getElem?_append_left c] at hi
    rw [ya_up_ne _ _ (by omega), ya_up_ne _ _ (by omega)]
    exact h i e' hi
  · rw [List.getElem?_append_right (by omega)] at hi
    have hl := (List.getElem?_eq_some_iff.mp hi).1
    rw [List.length_singleton] at hl
    have e1 : i = es.length := by omega
    rw [e1, Nat.sub_self] at hi
    cases hi
    rw [e1, ya_up_same, ya_up_same]
    exact he
/-! The reference: equal -/
section MEQ
variable {w : Value} {d : Nat} {A : xb_H} {s : Nat → Int} {E : Nat → Int} {Q : xb_R → xb_H → Prop}
theorem xsz_pos {n : Nat} {P : Prop} {E : Nat → Int} {x y : Int} (h : xEN E x y (n, P)) : 1 ≤ n := by
  obtain ⟨m, p, q, z1, z2, u, v, -, -, -, h1, -, -, h2, -⟩ := h
  dsimp only at h2
  rw [← h2]
  cases m with
  | zero => exact absurd h1 id
  | succ m => rw [xsz]; omega
theorem xPL_len {E f g : Nat → Int} : ∀ {es : List (Nat × Prop)}, xPL E f g es → es.length ≤ (es.map fun e => e.1).sum := by
  have key : ∀ (es : List (Nat × Prop)), (∀ e ∈ es, 1 ≤ e.1) → es.length ≤ (es.map fun e => e.1).sum := by
    intro es
    induction es with
    | nil => intro _; exact Nat.le_refl _
    | cons e es ih =>
      intro h
      have h1 := ih (fun e' he => h e' (List.mem_cons_of_mem _ he))
      have h2 := h e List.mem_cons_self
      rw [List.length_cons, List.map_cons, List.sum_cons]
      omega
  intro es h
  refine key es (fun e he => ?_)
  obtain ⟨i, hi, e1⟩ := List.getElem_of_mem he
  have := h i e (by rw [List.getElem?_eq_getElem hi, e1])
  exact xsz_pos this
theorem mo_216a (hA : 194 ≤ A.1) (hE : ∀ j : Nat, 0 ≤ E j ∧ E j ≤ 127) {m p q z1 z2 : Nat} {u v : xv (m + 1)} (hm : m ≤ 5) (hu : xV E (m + 1) p u z1) (hv : xV E (m + 1) q v z2) (hz : z1 ≤ p + 100 ∧ z2 ≤ q + 100) (hz1 : z1 < 3711) (hz2 : z2 < 3711) (hku : xv_k u = 4) (hkv : xv_k v = 4) (hlen : (xv_p u).length = (xv_p v).length) : ∀ (r k n : Nat) (es : List (Nat × Prop)) (T : Nat → Nat → Int), k + r = (xv_p u).length → n = es.length → T 166 = E → xPL E (T 191) (T 192) es → (es.map fun e => e.1).sum + (((xv_p u).drop k).map fun q => xsz m q.2).sum ≤ 100 → (∀ (es2 : List (Nat × Prop)) (T2 : Nat → Nat → Int), T2 166 = E → xPL E (T2 191) (T2 192) es2 → (es2.map fun e => e.1).sum = (es.map fun e => e.1).sum + (((xv_p u).drop k).map fun q => xsz m q.2).sum → ((∀ e ∈ es2, e.2) ↔ ((∀ e ∈ es, e.2) ∧ ∀ (j : Nat) (c : Int × xv m), k ≤ j → (xv_p u)[j]? = some c → ∃ q', xtw (xv_k u) (xv_p v) j c.1 = some q' ∧ xeq m c.2 q')) → xsm T T2 → xr_ok (xt_G w) (d + 1 + 1 + 1 + 1 + 1) 216 16 [(3, .int (Int32.ofInt (es2.length : Int))), (0, .ref 165)] [] (ym A s T2) Q) → (∀ T' : Nat → Nat → Int, (¬ ∀ (j : Nat) (c : Int × xv m), k ≤ j → (xv_p u)[j]? = some c → ∃ q', xtw (xv_k u) (xv_p v) j c.1 = some q' ∧ xeq m c.2 q') → xsm T T' → Q (.inl (some (.int (Int32.ofInt 0)))) (ym A s T')) → xr_ok (xt_G w) (d + 1 + 1 + 1 + 1 + 1) 216 127 [(7, .int (Int32.ofInt (k : Int))), (6, .int (Int32.ofInt ((xv_p u).length : Int))), (3, .int (Int32.ofInt (n : Int))), (4, .int (Int32.ofInt (p : Int))), (5, .int (Int32.ofInt (q : Int))), (0, .ref 165)] [] (ym A s T) Q := by
  have hw := xV_wf _ _ _ _ hu hz.1
  have hl100 := hw.2.2.2.2.2.1
  have hlt1 := xV_lt hu
  have hlt2' := xV_lt hv
  have hkp : xkd (E p) = 4 := by rw [hu.2.1, hku]
  intro r
  induction r with
  | zero =>
    intro k n es T hk hn hT hes hsum hfin hbad
    subst hT
    have hsl : es.length ≤ (es.map fun e => e.1).sum := xPL_len hes
    refine xr_steps (pc' := 131) (L' := [(7, .int (Int32.ofInt (k : Int))), (6, .int (Int32.ofInt ((xv_p u).length : Int))), (3, .int (Int32.ofInt (n : Int))), (4, .int (Int32.ofInt (p : Int))), (5, .int (Int32.ofInt (q : Int))), (0, .ref 165)]) (st' := [.int (Int32.ofInt ((xv_p u).length : Int)), .int (Int32.ofInt (k : Int))]) 2 rfl ?_
    refine xr_icmp_ge rfl (by omega) (by omega) (fun z31 => ?_) (fun z31 => ?_)
    · refine xr_steps (pc' := 16) (L' := [(7, .int (Int32.ofInt (k : Int))), (6, .int (Int32.ofInt ((xv_p u).length : Int))), (3, .int (Int32.ofInt (n : Int))), (4, .int (Int32.ofInt (p : Int))), (5, .int (Int32.ofInt (q : Int))), (0, .ref 165)]) (st' := []) 1 rfl ?_
      refine xr_loc (L := [(3, .int (Int32.ofInt (n : Int))), (0, .ref 165)]) (show [3, 0].Nodup by decide) ⟨rfl, rfl, trivial⟩ ?_
      subst hn
      refine hfin es T rfl hes ?_ ?_ (xsm_refl _)
      · rw [List.drop_eq_nil_of_le (by omega), List.map_nil, List.sum_nil, Nat.add_zero]
      · constructor
        · intro h
          refine ⟨h, fun j c hj hc => ?_⟩
          have := (List.getElem?_eq_some_iff.mp hc).1
          omega
        · intro h
          exact h.1
    · exfalso; omega
  | succ r ih =>
    intro k n es T hk hn hT hes hsum hfin hbad
    subst hT
    have hsl : es.length ≤ (es.map fun e => e.1).sum := xPL_len hes
    have hpk : k < (xv_p u).length := by omega
    refine xr_steps (pc' := 131) (L' := [(7, .int (Int32.ofInt (k : Int))), (6, .int (Int32.ofInt ((xv_p u).length : Int))), (3, .int (Int32.ofInt (n : Int))), (4, .int (Int32.ofInt (p : Int))), (5, .int (Int32.ofInt (q : Int))), (0, .ref 165)]) (st' := [.int (Int32.ofInt ((xv_p u).length : Int)), .int (Int32.ofInt (k : Int))]) 2 rfl ?_
    refine xr_icmp_ge rfl (by omega) (by omega) (fun z31 => ?_) (fun z31 => ?_)
    · exfalso; omega
    · refine xr_steps (pc' := 139) (L' := [(7, .int (Int32.ofInt (k : Int))), (6, .int (Int32.ofInt ((xv_p u).length : Int))), (3, .int (Int32.ofInt (n : Int))), (4, .int (Int32.ofInt (p : Int))), (5, .int (Int32.ofInt (q : Int))), (0, .ref 165)]) (st' := [.int (Int32.ofInt (k : Int)), .int (Int32.ofInt (p : Int)), .ref 165]) 3 rfl ?_
      refine xr_call (q := (.invokevirtual 131, 3, 222, 3)) (av := [.ref 165, .int (Int32.ofInt (p : Int)), .int (Int32.ofInt (k : Int))]) (rest := []) rfl rfl (by decide) rfl (ym_rcv hA rfl) (Nat.le_of_ble_eq_true rfl) (mo_222 hA hE hm (k := k) (by omega) hu (by omega) hz1) ?_
      rintro _ _ ⟨r0, ⟨rfl, eA⟩, hr⟩
      rw [eA]
      clear eA
      obtain ⟨x, rfl, a, y1, hx1, hx2, hx3, hx4, hx5⟩ : ∃ x : Nat, r0 = x ∧ xAt (T 166) (xV (T 166) m) 0 (xv_p u) k (p + 1) z1 x := by
        rcases hr with ⟨x, e1, e2⟩ | ⟨-, hr⟩
        · rw [if_neg (by omega)] at e2
          exact ⟨x, e1, e2⟩
        · omega
      have hlt := xV_lt hx2
      have hxw := xV_sz _ _ _ _ hx2
      refine xr_steps (pc' := 147) (L' := [(8, .int (Int32.ofInt (x : Int))), (7, .int (Int32.ofInt (k : Int))), (6, .int (Int32.ofInt ((xv_p u).length : Int))), (3, .int (Int32.ofInt (n : Int))), (4, .int (Int32.ofInt (p : Int))), (5, .int (Int32.ofInt (q : Int))), (0, .ref 165)]) (st' := [.int (Int32.ofInt (p : Int)), .ref 165]) 3 rfl ?_
      refine xr_call (q := (.invokevirtual 125, 3, 217, 2)) (av := [.ref 165, .int (Int32.ofInt (p : Int))]) (rest := []) rfl rfl (by decide) rfl (ym_rcv hA rfl) (Nat.le_of_ble_eq_true rfl) (mo_217 hA hE (by omega)) ?_
      rintro _ _ ⟨rfl, eA⟩
      rw [eA, hkp]
      clear eA
      rw [show ((4 : Nat) : Int) = 4 from rfl]
      refine xr_steps (pc' := 151) (L' := [(8, .int (Int32.ofInt (x : Int))), (7, .int (Int32.ofInt (k : Int))), (6, .int (Int32.ofInt ((xv_p u).length : Int))), (3, .int (Int32.ofInt (n : Int))), (4, .int (Int32.ofInt (p : Int))), (5, .int (Int32.ofInt (q : Int))), (0, .ref 165)]) (st' := [.int (Int32.ofInt 4), .int (Int32.ofInt 4)]) 1 rfl ?_
      refine xr_icmp_ne rfl (by omega) (by omega) (fun z32 => ?_) (fun z32 => ?_)
      · exfalso; omega
      · refine xr_steps (pc' := 159) (L' := [(8, .int (Int32.ofInt (x : Int))), (7, .int (Int32.ofInt (k : Int))), (6, .int (Int32.ofInt ((xv_p u).length : Int))), (3, .int (Int32.ofInt (n : Int))), (4, .int (Int32.ofInt (p : Int))), (5, .int (Int32.ofInt (q : Int))), (0, .ref 165)]) (st' := [.int (Int32.ofInt (k : Int)), .int (Int32.ofInt (q : Int)), .ref 165]) 3 rfl ?_
        refine xr_call (q := (.invokevirtual 131, 3, 222, 3)) (av := [.ref 165, .int (Int32.ofInt (q : Int)), .int (Int32.ofInt (k : Int))]) (rest := []) rfl rfl (by decide) rfl (ym_rcv hA rfl) (Nat.le_of_ble_eq_true rfl) (mo_222 hA hE hm (k := k) (by omega) hv (by omega) hz2) ?_
        rintro _ _ ⟨r1, ⟨rfl, eA⟩, hr1⟩
        rw [eA]
        clear eA
        obtain ⟨y, rfl, b, y2, hy1, hy2, hy3, hy4, hy5⟩ : ∃ x : Nat, r1 = x ∧ xAt (T 166) (xV (T 166) m) 0 (xv_p v) k (q + 1) z2 x := by
          rcases hr1 with ⟨x, e1, e2⟩ | ⟨-, hr⟩
          · rw [if_neg (by omega)] at e2
            exact ⟨x, e1, e2⟩
          · omega
        have hlt2 := xV_lt hy2
        refine xr_steps (pc' := 184) (L' := [(9, .int (Int32.ofInt (y : Int))), (8, .int (Int32.ofInt (x : Int))), (7, .int (Int32.ofInt (k : Int))), (6, .int (Int32.ofInt ((xv_p u).length : Int))), (3, .int (Int32.ofInt (n : Int))), (4, .int (Int32.ofInt (p : Int))), (5, .int (Int32.ofInt (q : Int))), (0, .ref 165)]) (st' := [.int (Int32.ofInt (y : Int))]) 3 rfl ?_
        refine xr_if_ge rfl (by omega) (fun z33 => ?_) (fun z33 => ?_)
        · refine xr_steps (pc' := 190) (L' := [(9, .int (Int32.ofInt (y : Int))), (8, .int (Int32.ofInt (x : Int))), (7, .int (Int32.ofInt (k : Int))), (6, .int (Int32.ofInt ((xv_p u).length : Int))), (3, .int (Int32.ofInt (n : Int))), (4, .int (Int32.ofInt (p : Int))), (5, .int (Int32.ofInt (q : Int))), (0, .ref 165)]) (st' := [.ref 165]) 1 rfl ?_
          refine xr_getf (v := .ref 191) rfl (ym_165 hA) rfl ?_
          refine xr_steps (pc' := 197) (L' := [(9, .int (Int32.ofInt (y : Int))), (8, .int (Int32.ofInt (x : Int))), (7, .int (Int32.ofInt (k : Int))), (6, .int (Int32.ofInt ((xv_p u).length : Int))), (3, .int (Int32.ofInt (n : Int))), (4, .int (Int32.ofInt (p : Int))), (5, .int (Int32.ofInt (q : Int))), (0, .ref 165)]) (st' := [.int (Int32.ofInt (p : Int)), .ref 165, .int (Int32.ofInt (n : Int)), .ref 191]) 3 rfl ?_
          refine xr_call (q := (.invokevirtual 125, 3, 217, 2)) (av := [.ref 165, .int (Int32.ofInt (p : Int))]) (rest := [.int (Int32.ofInt (n : Int)), .ref 191]) rfl rfl (by decide) rfl (ym_rcv hA rfl) (Nat.le_of_ble_eq_true rfl) (mo_217 hA hE (by omega)) ?_
          rintro _ _ ⟨rfl, eA⟩
          rw [eA, hkp]
          clear eA
          rw [show ((4 : Nat) : Int) = 4 from rfl]
          refine xr_steps (pc' := 201) (L' := [(9, .int (Int32.ofInt (y : Int))), (8, .int (Int32.ofInt (x : Int))), (7, .int (Int32.ofInt (k : Int))), (6, .int (Int32.ofInt ((xv_p u).length : Int))), (3, .int (Int32.ofInt (n : Int))), (4, .int (Int32.ofInt (p : Int))), (5, .int (Int32.ofInt (q : Int))), (0, .ref 165)]) (st' := [.int (Int32.ofInt 4), .int (Int32.ofInt 4), .int (Int32.ofInt (n : Int)), .ref 191]) 1 rfl ?_
          refine xr_icmp_ne rfl (by omega) (by omega) (fun z34 => ?_) (fun z34 => ?_)
          · exfalso; omega
          · refine xr_steps (pc' := 213) (L' := [(9, .int (Int32.ofInt (y : Int))), (8, .int (Int32.ofInt (x : Int))), (7, .int (Int32.ofInt (k : Int))), (6, .int (Int32.ofInt ((xv_p u).length : Int))), (3, .int (Int32.ofInt (n : Int))), (4, .int (Int32.ofInt (p : Int))), (5, .int (Int32.ofInt (q : Int))), (0, .ref 165)]) (st' := [.int (Int32.ofInt (x : Int)), .int (Int32.ofInt (n : Int)), .ref 191]) 2 rfl ?_
            refine ym_iastore hA rfl rfl (by decide) (by omega) (by omega) ?_
            rw [show (n : Int).toNat = n by omega]
            refine xr_steps (pc' := 215) (L' := [(9, .int (Int32.ofInt (y : Int))), (8, .int (Int32.ofInt (x : Int))), (7, .int (Int32.ofInt (k : Int))), (6, .int (Int32.ofInt ((xv_p u).length : Int))), (3, .int (Int32.ofInt (n : Int))), (4, .int (Int32.ofInt (p : Int))), (5, .int (Int32.ofInt (q : Int))), (0, .ref 165)]) (st' := [.ref 165]) 1 rfl ?_
            refine xr_getf (v := .ref 192) rfl (ym_165 hA) rfl ?_
            refine xr_steps (pc' := 221) (L' := [(9, .int (Int32.ofInt (y : Int))), (8, .int (Int32.ofInt (x : Int))), (7, .int (Int32.ofInt (k : Int))), (6, .int (Int32.ofInt ((xv_p u).length : Int))), (3, .int (Int32.ofInt (n : Int))), (4, .int (Int32.ofInt (p : Int))), (5, .int (Int32.ofInt (q : Int))), (0, .ref 165)]) (st' := [.int (Int32.ofInt (y : Int)), .int (Int32.ofInt (n : Int)), .ref 192]) 2 rfl ?_
            refine ym_iastore hA rfl rfl (by decide) (by omega) (by omega) ?_
            rw [show (n : Int).toNat = n by omega]
            refine xr_iinc (L' := [(3, .int (Int32.ofInt ((n : Int) + 1))), (9, .int (Int32.ofInt (y : Int))), (8, .int (Int32.ofInt (x : Int))), (7, .int (Int32.ofInt (k : Int))), (6, .int (Int32.ofInt ((xv_p u).length : Int))), (4, .int (Int32.ofInt (p : Int))), (5, .int (Int32.ofInt (q : Int))), (0, .ref 165)]) rfl rfl rfl ?_
            refine xr_iinc (L' := [(7, .int (Int32.ofInt ((k : Int) + 1))), (3, .int (Int32.ofInt ((n : Int) + 1))), (9, .int (Int32.ofInt (y : Int))), (8, .int (Int32.ofInt (x : Int))), (6, .int (Int32.ofInt ((xv_p u).length : Int))), (4, .int (Int32.ofInt (p : Int))), (5, .int (Int32.ofInt (q : Int))), (0, .ref 165)]) rfl rfl rfl ?_
            refine xr_steps (pc' := 127) (L' := [(7, .int (Int32.ofInt ((k : Int) + 1))), (3, .int (Int32.ofInt ((n : Int) + 1))), (9, .int (Int32.ofInt (y : Int))), (8, .int (Int32.ofInt (x : Int))), (6, .int (Int32.ofInt ((xv_p u).length : Int))), (4, .int (Int32.ofInt (p : Int))), (5, .int (Int32.ofInt (q : Int))), (0, .ref 165)]) (st' := []) 1 rfl ?_
            refine xr_loc (L := [(7, .int (Int32.ofInt ((k : Int) + 1))), (6, .int (Int32.ofInt ((xv_p u).length : Int))), (3, .int (Int32.ofInt ((n : Int) + 1))), (4, .int (Int32.ofInt (p : Int))), (5, .int (Int32.ofInt (q : Int))), (0, .ref 165)]) (show [7, 6, 3, 4, 5, 0].Nodup by decide) ⟨rfl, rfl, rfl, rfl, rfl, rfl, trivial⟩ ?_
            obtain ⟨b', hb'⟩ : ∃ b', b' = b.2 := ⟨_, rfl⟩
            have htw : xtw (xv_k u) (xv_p v) k a.1 = some b' := by
              unfold xtw
              rw [if_neg (by omega), hy1, hb']
              rfl
            have hyv : xV (T 166) m y b' y2 := by rw [hb']; exact hy2
            rw [show (k : Int) + 1 = ((k + 1 : Nat) : Int) by omega, show (n : Int) + 1 = ((n + 1 : Nat) : Int) by omega]
            have hen : xEN (T 166) (x : Int) (y : Int) (xsz m a.2, xeq m a.2 b') := ⟨m, x, y, y1, y2, a.2, b', rfl, rfl, by omega, hx2, hyv, ⟨by omega, by omega, by omega, by omega⟩, rfl, Iff.rfl⟩
            have hdr : ((xv_p u).drop k).map (fun q => xsz m q.2) = xsz m a.2 :: ((xv_p u).drop (k + 1)).map (fun q => xsz m q.2) := by
              rw [List.drop_eq_getElem_cons (by omega), List.map_cons]
              rw [List.getElem?_eq_getElem (by omega)] at hx1
              rw [Option.some.inj hx1]
            rw [hdr, List.sum_cons] at hsum hfin
            subst hn
            refine ih (k + 1) (es.length + 1) (es ++ [(xsz m a.2, xeq m a.2 b')]) _ (by omega) (by rw [List.length_append]; rfl) rfl (xPL_push hes hen) ?_ (fun es2 T2 g1 g2 g3 g4 g5 => hfin es2 T2 g1 g2 ?_ ?_ ?_) (fun T' g1 g2 => hbad T' (fun h => g1 fun j c hj hc => h j c (by omega) hc) ?_)
            · rw [List.map_append, List.sum_append, List.map_singleton, List.sum_singleton]
              dsimp only
              omega
            · rw [g3, List.map_append, List.sum_append, List.map_singleton, List.sum_singleton]
              dsimp only
              omega
            · rw [g4]
              constructor
              · rintro ⟨f1, f2⟩
                refine ⟨fun e he => f1 e (List.mem_append_left _ he), fun j c hj hc => ?_⟩
                by_cases ej : j = k
                · rw [ej] at hc ⊢
                  rw [hx1] at hc
                  cases hc
                  exact ⟨b', htw, f1 (xsz m a.2, xeq m a.2 b') (List.mem_append_right _ List.mem_cons_self)⟩
                · exact f2 j c (by omega) hc
              · rintro ⟨f1, f2⟩
                refine ⟨fun e he => ?_, fun j c hj hc => f2 j c (by omega) hc⟩
                rcases List.mem_append.mp he with he | he
                · exact f1 e he
                · rw [List.mem_singleton] at he
                  rw [he]
                  obtain ⟨q', e1, e2⟩ := f2 k a (Nat.le_refl _) hx1
                  rw [htw] at e1
                  cases e1
                  exact e2
            · exact xsm_trans (xsm_put (xsm_refl _) _ _) g5
            · exact xsm_trans (xsm_put (xsm_refl _) _ _) g2
        · exfalso; omega
theorem mo_216o (hA : 194 ≤ A.1) (hE : ∀ j : Nat, 0 ≤ E j ∧ E j ≤ 127) {m p q z1 z2 : Nat} {u v : xv (m + 1)} (hm : m ≤ 5) (hu : xV E (m + 1) p u z1) (hv : xV E (m + 1) q v z2) (hz : z1 ≤ p + 100 ∧ z2 ≤ q + 100) (hz1 : z1 < 3711) (hz2 : z2 < 3711) (hku : xv_k u = 5) (hkv : xv_k v = 5) (hlen : (xv_p u).length = (xv_p v).length) : ∀ (r k n : Nat) (es : List (Nat × Prop)) (T : Nat → Nat → Int), k + r = (xv_p u).length → n = es.length → T 166 = E → xPL E (T 191) (T 192) es → (es.map fun e => e.1).sum + (((xv_p u).drop k).map fun q => xsz m q.2).sum ≤ 100 → (∀ (es2 : List (Nat × Prop)) (T2 : Nat → Nat → Int), T2 166 = E → xPL E (T2 191) (T2 192) es2 → (es2.map fun e => e.1).sum = (es.map fun e => e.1).sum + (((xv_p u).drop k).map fun q => xsz m q.2).sum → ((∀ e ∈ es2, e.2) ↔ ((∀ e ∈ es, e.2) ∧ ∀ (j : Nat) (c : Int × xv m), k ≤ j → (xv_p u)[j]? = some c → ∃ q', xtw (xv_k u) (xv_p v) j c.1 = some q' ∧ xeq m c.2 q')) → xsm T T2 → xr_ok (xt_G w) (d + 1 + 1 + 1 + 1 + 1) 216 16 [(3, .int (Int32.ofInt (es2.length : Int))), (0, .ref 165)] [] (ym A s T2) Q) → (∀ T' : Nat → Nat → Int, (¬ ∀ (j : Nat) (c : Int × xv m), k ≤ j → (xv_p u)[j]? = some c → ∃ q', xtw (xv_k u) (xv_p v) j c.1 = some q' ∧ xeq m c.2 q') → xsm T T' → Q (.inl (some (.int (Int32.ofInt 0)))) (ym A s T')) → xr_ok (xt_G w) (d + 1 + 1 + 1 + 1 + 1) 216 127 [(7, .int (Int32.ofInt (k : Int))), (6, .int (Int32.ofInt ((xv_p u).length : Int))), (3, .int (Int32.ofInt (n : Int))), (4, .int (Int32.ofInt (p : Int))), (5, .int (Int32.ofInt (q : Int))), (0, .ref 165)] [] (ym A s T) Q := by
  have hw := xV_wf _ _ _ _ hu hz.1
  have hl100 := hw.2.2.2.2.2.1
  have hlt1 := xV_lt hu
  have hlt2' := xV_lt hv
  have hkp : xkd (E p) = 5 := by rw [hu.2.1, hku]
  intro r
  induction r with
  | zero =>
    intro k n es T hk hn hT hes hsum hfin hbad
    subst hT
    have hsl : es.length ≤ (es.map fun e => e.1).sum := xPL_len hes
    refine xr_steps (pc' := 131) (L' := [(7, .int (Int32.ofInt (k : Int))), (6, .int (Int32.ofInt ((xv_p u).length : Int))), (3, .int (Int32.ofInt (n : Int))), (4, .int (Int32.ofInt (p : Int))), (5, .int (Int32.ofInt (q : Int))), (0, .ref 165)]) (st' := [.int (Int32.ofInt ((xv_p u).length : Int)), .int (Int32.ofInt (k : Int))]) 2 rfl ?_
    refine xr_icmp_ge rfl (by omega) (by omega) (fun z31 => ?_) (fun z31 => ?_)
    · refine xr_steps (pc' := 16) (L' := [(7, .int (Int32.ofInt (k : Int))), (6, .int (Int32.ofInt ((xv_p u).length : Int))), (3, .int (Int32.ofInt (n : Int))), (4, .int (Int32.ofInt (p : Int))), (5, .int (Int32.ofInt (q : Int))), (0, .ref 165)]) (st' := []) 1 rfl ?_
      refine xr_loc (L := [(3, .int (Int32.ofInt (n : Int))), (0, .ref 165)]) (show [3, 0].Nodup by decide) ⟨rfl, rfl, trivial⟩ ?_
      subst hn
      refine hfin es T rfl hes ?_ ?_ (xsm_refl _)
      · rw [List.drop_eq_nil_of_le (by omega), List.map_nil, List.sum_nil, Nat.add_zero]
      · constructor
        · intro h
          refine ⟨h, fun j c hj hc => ?_⟩
          have := (List.getElem?_eq_some_iff.mp hc).1
          omega
        · intro h
          exact h.1
    · exfalso; omega
  | succ r ih =>
    intro k n es T hk hn hT hes hsum hfin hbad
    subst hT
    have hsl : es.length ≤ (es.map fun e => e.1).sum := xPL_len hes
    have hpk : k < (xv_p u).length := by omega
    refine xr_steps (pc' := 131) (L' := [(7, .int (Int32.ofInt (k : Int))), (6, .int (Int32.ofInt ((xv_p u).length : Int))), (3, .int (Int32.ofInt (n : Int))), (4, .int (Int32.ofInt (p : Int))), (5, .int (Int32.ofInt (q : Int))), (0, .ref 165)]) (st' := [.int (Int32.ofInt ((xv_p u).length : Int)), .int (Int32.ofInt (k : Int))]) 2 rfl ?_
    refine xr_icmp_ge rfl (by omega) (by omega) (fun z31 => ?_) (fun z31 => ?_)
    · exfalso; omega
    · refine xr_steps (pc' := 139) (L' := [(7, .int (Int32.ofInt (k : Int))), (6, .int (Int32.ofInt ((xv_p u).length : Int))), (3, .int (Int32.ofInt (n : Int))), (4, .int (Int32.ofInt (p : Int))), (5, .int (Int32.ofInt (q : Int))), (0, .ref 165)]) (st' := [.int (Int32.ofInt (k : Int)), .int (Int32.ofInt (p : Int)), .ref 165]) 3 rfl ?_
      refine xr_call (q := (.invokevirtual 131, 3, 222, 3)) (av := [.ref 165, .int (Int32.ofInt (p : Int)), .int (Int32.ofInt (k : Int))]) (rest := []) rfl rfl (by decide) rfl (ym_rcv hA rfl) (Nat.le_of_ble_eq_true rfl) (mo_222 hA hE hm (k := k) (by omega) hu (by omega) hz1) ?_
      rintro _ _ ⟨r0, ⟨rfl, eA⟩, hr⟩
      rw [eA]
      clear eA
      obtain ⟨x, rfl, a, y1, hx1, hx2, hx3, hx4, hx5⟩ : ∃ x : Nat, r0 = x ∧ xAt (T 166) (xV (T 166) m) 4 (xv_p u) k (p + 1) z1 x := by
        rcases hr with ⟨x, e1, e2⟩ | ⟨-, hr⟩
        · rw [if_pos hku] at e2
          exact ⟨x, e1, e2⟩
        · omega
      have hlt := xV_lt hx2
      have hxw := xV_sz _ _ _ _ hx2
      refine xr_steps (pc' := 147) (L' := [(8, .int (Int32.ofInt (x : Int))), (7, .int (Int32.ofInt (k : Int))), (6, .int (Int32.ofInt ((xv_p u).length : Int))), (3, .int (Int32.ofInt (n : Int))), (4, .int (Int32.ofInt (p : Int))), (5, .int (Int32.ofInt (q : Int))), (0, .ref 165)]) (st' := [.int (Int32.ofInt (p : Int)), .ref 165]) 3 rfl ?_
      refine xr_call (q := (.invokevirtual 125, 3, 217, 2)) (av := [.ref 165, .int (Int32.ofInt (p : Int))]) (rest := []) rfl rfl (by decide) rfl (ym_rcv hA rfl) (Nat.le_of_ble_eq_true rfl) (mo_217 hA hE (by omega)) ?_
      rintro _ _ ⟨rfl, eA⟩
      rw [eA, hkp]
      clear eA
      rw [show ((5 : Nat) : Int) = 5 from rfl]
      refine xr_steps (pc' := 151) (L' := [(8, .int (Int32.ofInt (x : Int))), (7, .int (Int32.ofInt (k : Int))), (6, .int (Int32.ofInt ((xv_p u).length : Int))), (3, .int (Int32.ofInt (n : Int))), (4, .int (Int32.ofInt (p : Int))), (5, .int (Int32.ofInt (q : Int))), (0, .ref 165)]) (st' := [.int (Int32.ofInt 4), .int (Int32.ofInt 5)]) 1 rfl ?_
      refine xr_icmp_ne rfl (by omega) (by omega) (fun z32 => ?_) (fun z32 => ?_)
      · refine xr_steps (pc' := 169) (L' := [(8, .int (Int32.ofInt (x : Int))), (7, .int (Int32.ofInt (k : Int))), (6, .int (Int32.ofInt ((xv_p u).length : Int))), (3, .int (Int32.ofInt (n : Int))), (4, .int (Int32.ofInt (p : Int))), (5, .int (Int32.ofInt (q : Int))), (0, .ref 165)]) (st' := [.ref 165, .int (Int32.ofInt (q : Int)), .ref 165]) 3 rfl ?_
        refine xr_getf (v := .ref 166) rfl (ym_165 hA) rfl ?_
        refine xr_steps (pc' := 175) (L' := [(8, .int (Int32.ofInt (x : Int))), (7, .int (Int32.ofInt (k : Int))), (6, .int (Int32.ofInt ((xv_p u).length : Int))), (3, .int (Int32.ofInt (n : Int))), (4, .int (Int32.ofInt (p : Int))), (5, .int (Int32.ofInt (q : Int))), (0, .ref 165)]) (st' := [.int (Int32.ofInt 1), .int (Int32.ofInt (x : Int)), .ref 166, .int (Int32.ofInt (q : Int)), .ref 165]) 2 rfl ?_
        refine xr_iadd rfl ?_
        refine ym_caload (e := T 166 ((x : Int) + 1).toNat) hA rfl rfl (by decide) (by omega) (by omega) rfl ?_
        rw [show ((x : Int) + 1).toNat = x + 1 by omega]
        have hxk : T 166 (x + 1) = a.1 := by
          rcases hx3 with ⟨h, -⟩ | ⟨-, -, -, h, -⟩
          · omega
          · exact h
        have hEx := hE (x + 1)
        refine xr_call (q := (.invokevirtual 142, 3, 223, 3)) (av := [.ref 165, .int (Int32.ofInt (q : Int)), .int (Int32.ofInt (T 166 (x + 1)))]) (rest := []) rfl rfl (by decide) rfl (ym_rcv hA rfl) (Nat.le_of_ble_eq_true rfl) (mo_223 hA hE hm hv hkv hz2 (by omega) hEx) ?_
        rintro _ _ ⟨r1, ⟨rfl, eA⟩, hr1⟩
        rw [eA]
        clear eA
        rw [hxk] at hr1
        have hr32 : -1 ≤ r1 ∧ r1 ≤ 4000 := by
          rcases hr1 with ⟨x, y, v, e1, -, e2, -, e3⟩ | ⟨e1, -⟩
          · have := xV_lt e2
            omega
          · omega
        refine xr_steps (pc' := 184) (L' := [(9, .int (Int32.ofInt r1)), (8, .int (Int32.ofInt (x : Int))), (7, .int (Int32.ofInt (k : Int))), (6, .int (Int32.ofInt ((xv_p u).length : Int))), (3, .int (Int32.ofInt (n : Int))), (4, .int (Int32.ofInt (p : Int))), (5, .int (Int32.ofInt (q : Int))), (0, .ref 165)]) (st' := [.int (Int32.ofInt r1)]) 2 rfl ?_
        refine xr_if_ge rfl (by omega) (fun z33 => ?_) (fun z33 => ?_)
        · refine xr_steps (pc' := 190) (L' := [(9, .int (Int32.ofInt r1)), (8, .int (Int32.ofInt (x : Int))), (7, .int (Int32.ofInt (k : Int))), (6, .int (Int32.ofInt ((xv_p u).length : Int))), (3, .int (Int32.ofInt (n : Int))), (4, .int (Int32.ofInt (p : Int))), (5, .int (Int32.ofInt (q : Int))), (0, .ref 165)]) (st' := [.ref 165]) 1 rfl ?_
          refine xr_getf (v := .ref 191) rfl (ym_165 hA) rfl ?_
          refine xr_steps (pc' := 197) (L' := [(9, .int (Int32.ofInt r1)), (8, .int (Int32.ofInt (x : Int))), (7, .int (Int32.ofInt (k : Int))), (6, .int (Int32.ofInt ((xv_p u).length : Int))), (3, .int (Int32.ofInt (n : Int))), (4, .int (Int32.ofInt (p : Int))), (5, .int (Int32.ofInt (q : Int))), (0, .ref 165)]) (st' := [.int (Int32.ofInt (p : Int)), .ref 165, .int (Int32.ofInt (n : Int)), .ref 191]) 3 rfl ?_
          refine xr_call (q := (.invokevirtual 125, 3, 217, 2)) (av := [.ref 165, .int (Int32.ofInt (p : Int))]) (rest := [.int (Int32.ofInt (n : Int)), .ref 191]) rfl rfl (by decide) rfl (ym_rcv hA rfl) (Nat.le_of_ble_eq_true rfl) (mo_217 hA hE (by omega)) ?_
          rintro _ _ ⟨rfl, eA⟩
          rw [eA, hkp]
          clear eA
          rw [show ((5 : Nat) : Int) = 5 from rfl]
          refine xr_steps (pc' := 201) (L' := [(9, .int (Int32.ofInt r1)), (8, .int (Int32.ofInt (x : Int))), (7, .int (Int32.ofInt (k : Int))), (6, .int (Int32.ofInt ((xv_p u).length : Int))), (3, .int (Int32.ofInt (n : Int))), (4, .int (Int32.ofInt (p : Int))), (5, .int (Int32.ofInt (q : Int))), (0, .ref 165)]) (st' := [.int (Int32.ofInt 4), .int (Int32.ofInt 5), .int (Int32.ofInt (n : Int)), .ref 191]) 1 rfl ?_
          refine xr_icmp_ne rfl (by omega) (by omega) (fun z34 => ?_) (fun z34 => ?_)
          · refine xr_steps (pc' := 212) (L' := [(9, .int (Int32.ofInt r1)), (8, .int (Int32.ofInt (x : Int))), (7, .int (Int32.ofInt (k : Int))), (6, .int (Int32.ofInt ((xv_p u).length : Int))), (3, .int (Int32.ofInt (n : Int))), (4, .int (Int32.ofInt (p : Int))), (5, .int (Int32.ofInt (q : Int))), (0, .ref 165)]) (st' := [.int (Int32.ofInt 4), .int (Int32.ofInt (x : Int)), .int (Int32.ofInt (n : Int)), .ref 191]) 2 rfl ?_
            refine xr_iadd rfl ?_
            refine ym_iastore hA rfl rfl (by decide) (by omega) (by omega) ?_
            rw [show (n : Int).toNat = n by omega]
            refine xr_steps (pc' := 215) (L' := [(9, .int (Int32.ofInt r1)), (8, .int (Int32.ofInt (x : Int))), (7, .int (Int32.ofInt (k : Int))), (6, .int (Int32.ofInt ((xv_p u).length : Int))), (3, .int (Int32.ofInt (n : Int))), (4, .int (Int32.ofInt (p : Int))), (5, .int (Int32.ofInt (q : Int))), (0, .ref 165)]) (st' := [.ref 165]) 1 rfl ?_
            refine xr_getf (v := .ref 192) rfl (ym_165 hA) rfl ?_
            refine xr_steps (pc' := 221) (L' := [(9, .int (Int32.ofInt r1)), (8, .int (Int32.ofInt (x : Int))), (7, .int (Int32.ofInt (k : Int))), (6, .int (Int32.ofInt ((xv_p u).length : Int))), (3, .int (Int32.ofInt (n : Int))), (4, .int (Int32.ofInt (p : Int))), (5, .int (Int32.ofInt (q : Int))), (0, .ref 165)]) (st' := [.int (Int32.ofInt r1), .int (Int32.ofInt (n : Int)), .ref 192]) 2 rfl ?_
            refine ym_iastore hA rfl rfl (by decide) (by omega) (by omega) ?_
            rw [show (n : Int).toNat = n by omega]
            refine xr_iinc (L' := [(3, .int (Int32.ofInt ((n : Int) + 1))), (9, .int (Int32.ofInt r1)), (8, .int (Int32.ofInt (x : Int))), (7, .int (Int32.ofInt (k : Int))), (6, .int (Int32.ofInt ((xv_p u).length : Int))), (4, .int (Int32.ofInt (p : Int))), (5, .int (Int32.ofInt (q : Int))), (0, .ref 165)]) rfl rfl rfl ?_
            refine xr_iinc (L' := [(7, .int (Int32.ofInt ((k : Int) + 1))), (3, .int (Int32.ofInt ((n : Int) + 1))), (9, .int (Int32.ofInt r1)), (8, .int (Int32.ofInt (x : Int))), (6, .int (Int32.ofInt ((xv_p u).length : Int))), (4, .int (Int32.ofInt (p : Int))), (5, .int (Int32.ofInt (q : Int))), (0, .ref 165)]) rfl rfl rfl ?_
            refine xr_steps (pc' := 127) (L' := [(7, .int (Int32.ofInt ((k : Int) + 1))), (3, .int (Int32.ofInt ((n : Int) + 1))), (9, .int (Int32.ofInt r1)), (8, .int (Int32.ofInt (x : Int))), (6, .int (Int32.ofInt ((xv_p u).length : Int))), (4, .int (Int32.ofInt (p : Int))), (5, .int (Int32.ofInt (q : Int))), (0, .ref 165)]) (st' := []) 1 rfl ?_
            refine xr_loc (L := [(7, .int (Int32.ofInt ((k : Int) + 1))), (6, .int (Int32.ofInt ((xv_p u).length : Int))), (3, .int (Int32.ofInt ((n : Int) + 1))), (4, .int (Int32.ofInt (p : Int))), (5, .int (Int32.ofInt (q : Int))), (0, .ref 165)]) (show [7, 6, 3, 4, 5, 0].Nodup by decide) ⟨rfl, rfl, rfl, rfl, rfl, rfl, trivial⟩ ?_
            obtain ⟨y, y2, b', rfl, htw0, hyv, hy4, hy5⟩ : ∃ (y y2 : Nat) (b' : xv m), r1 = y ∧ xmem (xv_p v) a.1 = some b' ∧ xV (T 166) m y b' y2 ∧ q < y ∧ y2 < z2 := by
              rcases hr1 with h | ⟨h, -⟩
              · exact h
              · omega
            have hlt2 := xV_lt hyv
            have htw : xtw (xv_k u) (xv_p v) k a.1 = some b' := by
              unfold xtw
              rw [if_pos hku, htw0]
            rw [show (x : Int) + 4 = ((x + 4 : Nat) : Int) by omega]
            rw [show (k : Int) + 1 = ((k + 1 : Nat) : Int) by omega, show (n : Int) + 1 = ((n + 1 : Nat) : Int) by omega]
            have hen : xEN (T 166) ((x + 4 : Nat) : Int) (y : Int) (xsz m a.2, xeq m a.2 b') := ⟨m, x + 4, y, y1, y2, a.2, b', rfl, rfl, by omega, hx2, hyv, ⟨by omega, by omega, by omega, by omega⟩, rfl, Iff.rfl⟩
            have hdr : ((xv_p u).drop k).map (fun q => xsz m q.2) = xsz m a.2 :: ((xv_p u).drop (k + 1)).map (fun q => xsz m q.2) := by
              rw [List.drop_eq_getElem_cons (by omega), List.map_cons]
              rw [List.getElem?_eq_getElem (by omega)] at hx1
              rw [Option.some.inj hx1]
            rw [hdr, List.sum_cons] at hsum hfin
            subst hn
            refine ih (k + 1) (es.length + 1) (es ++ [(xsz m a.2, xeq m a.2 b')]) _ (by omega) (by rw [List.length_append]; rfl) rfl (xPL_push hes hen) ?_ (fun es2 T2 g1 g2 g3 g4 g5 => hfin es2 T2 g1 g2 ?_ ?_ ?_) (fun T' g1 g2 => hbad T' (fun h => g1 fun j c hj hc => h j c (by omega) hc) ?_)
            · rw [List.map_append, List.sum_append, List.map_singleton, List.sum_singleton]
              dsimp only
              omega
            · rw [g3, List.map_append, List.sum_append, List.map_singleton, List.sum_singleton]
              dsimp only
              omega
            · rw [g4]
              constructor
              · rintro ⟨f1, f2⟩
                refine ⟨fun e he => f1 e (List.mem_append_left _ he), fun j c hj hc => ?_⟩
                by_cases ej : j = k
                · rw [ej] at hc ⊢
                  rw [hx1] at hc
                  cases hc
                  exact ⟨b', htw, f1 (xsz m a.2, xeq m a.2 b') (List.mem_append_right _ List.mem_cons_self)⟩
                · exact f2 j c (by omega) hc
              · rintro ⟨f1, f2⟩
                refine ⟨fun e he => ?_, fun j c hj hc => f2 j c (by omega) hc⟩
                rcases List.mem_append.mp he with he | he
                · exact f1 e he
                · rw [List.mem_singleton] at he
                  rw [he]
                  obtain ⟨q', e1, e2⟩ := f2 k a (Nat.le_refl _) hx1
                  rw [htw] at e1
                  cases e1
                  exact e2
            · exact xsm_trans (xsm_put (xsm_refl _) _ _) g5
            · exact xsm_trans (xsm_put (xsm_refl _) _ _) g2
          · exfalso; omega
        · refine xr_steps (pc' := 188) (L' := [(9, .int (Int32.ofInt r1)), (8, .int (Int32.ofInt (x : Int))), (7, .int (Int32.ofInt (k : Int))), (6, .int (Int32.ofInt ((xv_p u).length : Int))), (3, .int (Int32.ofInt (n : Int))), (4, .int (Int32.ofInt (p : Int))), (5, .int (Int32.ofInt (q : Int))), (0, .ref 165)]) (st' := [.int (Int32.ofInt 0)]) 1 rfl ?_
          refine xr_retZ rfl rfl (by omega) (hbad T (fun h => ?_) (xsm_refl _))
          obtain ⟨q', e1, -⟩ := h k a (Nat.le_refl _) hx1
          unfold xtw at e1
          rw [if_pos hku] at e1
          rcases hr1 with ⟨x, y, v, e2, -⟩ | ⟨-, e2⟩
          · omega
          · rw [e2] at e1
            cases e1
      · exfalso; omega
theorem mo_216l (hA : 194 ≤ A.1) (hE : ∀ j : Nat, 0 ≤ E j ∧ E j ≤ 127) : ∀ (N : Nat) (es : List (Nat × Prop)) (T : Nat → Nat → Int), (es.map fun e => e.1).sum ≤ N → N ≤ 100 → T 166 = E → xPL E (T 191) (T 192) es → (∀ (T' : Nat → Nat → Int) (b : Int), xsm T T' → ((b = 1 ∧ ∀ e ∈ es, e.2) ∨ (b = 0 ∧ ¬ ∀ e ∈ es, e.2)) → Q (.inl (some (.int (Int32.ofInt b)))) (ym A s T')) → xr_ok (xt_G w) (d + 1 + 1 + 1 + 1 + 1) 216 16 [(3, .int (Int32.ofInt (es.length : Int))), (0, .ref 165)] [] (ym A s T) Q := by
  intro N
  induction N with
  | zero =>
    intro es T hN h100 hT hes hQ
    have hsl := xPL_len hes
    obtain rfl : es = [] := List.length_eq_zero_iff.mp (by omega)
    rw [show (([] : List (Nat × Prop)).length : Int) = 0 from rfl]
    refine xr_steps (pc' := 17) (L' := [(3, .int (Int32.ofInt 0)), (0, .ref 165)]) (st' := [.int (Int32.ofInt 0)]) 1 rfl ?_
    refine xr_if_le rfl (by omega) (fun z31 => ?_) (fun z31 => ?_)
    · refine xr_steps (pc' := 235) (L' := [(3, .int (Int32.ofInt 0)), (0, .ref 165)]) (st' := [.int (Int32.ofInt 1)]) 1 rfl ?_
      exact xr_retZ rfl rfl (by omega) (hQ T 1 (xsm_refl _) (Or.inl ⟨rfl, fun e he => absurd he List.not_mem_nil⟩))
    · exfalso; omega
  | succ N ih =>
    intro es T hN h100 hT hes hQ
    rcases List.eq_nil_or_concat es with rfl | ⟨es', e, rfl⟩
    · rw [show (([] : List (Nat × Prop)).length : Int) = 0 from rfl]
      refine xr_steps (pc' := 17) (L' := [(3, .int (Int32.ofInt 0)), (0, .ref 165)]) (st' := [.int (Int32.ofInt 0)]) 1 rfl ?_
      refine xr_if_le rfl (by omega) (fun z31 => ?_) (fun z31 => ?_)
      · refine xr_steps (pc' := 235) (L' := [(3, .int (Int32.ofInt 0)), (0, .ref 165)]) (st' := [.int (Int32.ofInt 1)]) 1 rfl ?_
        exact xr_retZ rfl rfl (by omega) (hQ T 1 (xsm_refl _) (Or.inl ⟨rfl, fun e he => absurd he List.not_mem_nil⟩))
      · exfalso; omega
    subst hT
    rw [List.concat_eq_append] at hes hN hQ ⊢
    obtain ⟨hes', hen⟩ := xPL_pop hes
    have hsl := xPL_len hes
    rw [List.map_append, List.sum_append, List.map_singleton, List.sum_singleton] at hN hsl
    have hl : ((es' ++ [e]).length : Int) = (es'.length : Int) + 1 := by rw [List.length_append]; rfl
    rw [hl]
    rw [List.length_append, List.length_singleton] at hsl
    obtain ⟨n, hn⟩ : ∃ n, es'.length = n := ⟨_, rfl⟩
    rw [hn] at hen hsl ⊢
    obtain ⟨m, p, q, z1, z2, u, v, hp, hq, hm, hu, hv, ⟨hz1, hz2, hz3, hz4⟩, hsz, hxe⟩ := hen
    have hall : (∀ e' ∈ es' ++ [e], e'.2) ↔ ((∀ e' ∈ es', e'.2) ∧ xeq m u v) := by
      rw [hxe]
      constructor
      · intro h
        exact ⟨fun e' he => h e' (List.mem_append_left _ he), h e (List.mem_append_right _ List.mem_cons_self)⟩
      · rintro ⟨f1, f2⟩ e' he
        rcases List.mem_append.mp he with he | he
        · exact f1 e' he
        · rw [List.mem_singleton] at he
          rw [he]
          exact f2
    cases m with
    | zero => exact absurd hu id
    | succ m =>
    have hlt1 := xV_lt hu
    have hlt2 := xV_lt hv
    have hwu := xV_wf _ _ _ _ hu hz1
    have hwv := xV_wf _ _ _ _ hv hz3
    have hku : xkd (T 166 p) = xv_k u := hu.2.1
    have hkv : xkd (T 166 q) = xv_k v := hv.2.1
    have hk6 := hwu.1
    have hk6v := hwv.1
    have lu := hwu.2.2.2.2.2.1
    have lv := hwv.2.2.2.2.2.1
    have hno : ¬ xeq (m + 1) u v → Q (.inl (some (.int (Int32.ofInt 0)))) (ym A s T) := fun h => hQ T 0 (xsm_refl _) (Or.inr ⟨rfl, fun g => h (hall.mp g).2⟩)
    refine xr_steps (pc' := 17) (L' := [(3, .int (Int32.ofInt ((n : Int) + 1))), (0, .ref 165)]) (st' := [.int (Int32.ofInt ((n : Int) + 1))]) 1 rfl ?_
    refine xr_if_le rfl (by omega) (fun z31 => ?_) (fun z31 => ?_)
    · exfalso; omega
    · refine xr_iincn (L' := [(3, .int (Int32.ofInt (((n : Int) + 1) - 1))), (0, .ref 165)]) rfl rfl rfl ?_
      rw [show (n : Int) + 1 - 1 = (n : Int) by omega]
      refine xr_steps (pc' := 24) (L' := [(3, .int (Int32.ofInt (n : Int))), (0, .ref 165)]) (st' := [.ref 165]) 1 rfl ?_
      refine xr_getf (v := .ref 191) rfl (ym_165 hA) rfl ?_
      refine xr_steps (pc' := 28) (L' := [(3, .int (Int32.ofInt (n : Int))), (0, .ref 165)]) (st' := [.int (Int32.ofInt (n : Int)), .ref 191]) 1 rfl ?_
      refine ym_iaload (e := T 191 (n : Int).toNat) hA rfl rfl (by decide) (by omega) (by omega) rfl ?_
      rw [show (n : Int).toNat = n by omega]
      rw [hp]
      refine xr_steps (pc' := 32) (L' := [(4, .int (Int32.ofInt (p : Int))), (3, .int (Int32.ofInt (n : Int))), (0, .ref 165)]) (st' := [.ref 165]) 2 rfl ?_
      refine xr_getf (v := .ref 192) rfl (ym_165 hA) rfl ?_
      refine xr_steps (pc' := 36) (L' := [(4, .int (Int32.ofInt (p : Int))), (3, .int (Int32.ofInt (n : Int))), (0, .ref 165)]) (st' := [.int (Int32.ofInt (n : Int)), .ref 192]) 1 rfl ?_
      refine ym_iaload (e := T 192 (n : Int).toNat) hA rfl rfl (by decide) (by omega) (by omega) rfl ?_
      rw [show (n : Int).toNat = n by omega]
      rw [hq]
      refine xr_steps (pc' := 42) (L' := [(5, .int (Int32.ofInt (q : Int))), (4, .int (Int32.ofInt (p : Int))), (3, .int (Int32.ofInt (n : Int))), (0, .ref 165)]) (st' := [.int (Int32.ofInt (p : Int)), .ref 165]) 3 rfl ?_
      refine xr_call (q := (.invokevirtual 125, 3, 217, 2)) (av := [.ref 165, .int (Int32.ofInt (p : Int))]) (rest := []) rfl rfl (by decide) rfl (ym_rcv hA rfl) (Nat.le_of_ble_eq_true rfl) (mo_217 hA hE (by omega)) ?_
      rintro _ _ ⟨rfl, eA⟩
      rw [eA, hku]
      clear eA
      refine xr_steps (pc' := 48) (L' := [(5, .int (Int32.ofInt (q : Int))), (4, .int (Int32.ofInt (p : Int))), (3, .int (Int32.ofInt (n : Int))), (0, .ref 165)]) (st' := [.int (Int32.ofInt (q : Int)), .ref 165, .int (Int32.ofInt ((xv_k u : Nat) : Int))]) 2 rfl ?_
      refine xr_call (q := (.invokevirtual 125, 3, 217, 2)) (av := [.ref 165, .int (Int32.ofInt (q : Int))]) (rest := [.int (Int32.ofInt ((xv_k u : Nat) : Int))]) rfl rfl (by decide) rfl (ym_rcv hA rfl) (Nat.le_of_ble_eq_true rfl) (mo_217 hA hE (by omega)) ?_
      rintro _ _ ⟨rfl, eA⟩
      rw [eA, hkv]
      clear eA
      refine xr_icmp_ne rfl (by omega) (by omega) (fun z32 => ?_) (fun z32 => ?_)
      · refine xr_steps (pc' := 101) (L' := [(5, .int (Int32.ofInt (q : Int))), (4, .int (Int32.ofInt (p : Int))), (3, .int (Int32.ofInt (n : Int))), (0, .ref 165)]) (st' := [.int (Int32.ofInt 0)]) 1 rfl ?_
        exact xr_retZ rfl rfl (by omega) (hno (fun h => z32 (by rw [h.1.1])))
      · refine xr_steps (pc' := 57) (L' := [(5, .int (Int32.ofInt (q : Int))), (4, .int (Int32.ofInt (p : Int))), (3, .int (Int32.ofInt (n : Int))), (0, .ref 165)]) (st' := [.int (Int32.ofInt (p : Int)), .ref 165]) 2 rfl ?_
        refine xr_call (q := (.invokevirtual 125, 3, 217, 2)) (av := [.ref 165, .int (Int32.ofInt (p : Int))]) (rest := []) rfl rfl (by decide) rfl (ym_rcv hA rfl) (Nat.le_of_ble_eq_true rfl) (mo_217 hA hE (by omega)) ?_
        rintro _ _ ⟨rfl, eA⟩
        rw [eA, hku]
        clear eA
        refine xr_steps (pc' := 61) (L' := [(5, .int (Int32.ofInt (q : Int))), (4, .int (Int32.ofInt (p : Int))), (3, .int (Int32.ofInt (n : Int))), (0, .ref 165)]) (st' := [.int (Int32.ofInt 4), .int (Int32.ofInt ((xv_k u : Nat) : Int))]) 1 rfl ?_
        refine xr_icmp_ge rfl (by omega) (by omega) (fun z33 => ?_) (fun z33 => ?_)
        · refine xr_steps (pc' := 78) (L' := [(5, .int (Int32.ofInt (q : Int))), (4, .int (Int32.ofInt (p : Int))), (3, .int (Int32.ofInt (n : Int))), (0, .ref 165)]) (st' := [.int (Int32.ofInt (p : Int)), .ref 165]) 2 rfl ?_
          refine xr_call (q := (.invokevirtual 125, 3, 217, 2)) (av := [.ref 165, .int (Int32.ofInt (p : Int))]) (rest := []) rfl rfl (by decide) rfl (ym_rcv hA rfl) (Nat.le_of_ble_eq_true rfl) (mo_217 hA hE (by omega)) ?_
          rintro _ _ ⟨rfl, eA⟩
          rw [eA, hku]
          clear eA
          refine xr_steps (pc' := 82) (L' := [(5, .int (Int32.ofInt (q : Int))), (4, .int (Int32.ofInt (p : Int))), (3, .int (Int32.ofInt (n : Int))), (0, .ref 165)]) (st' := [.int (Int32.ofInt 3), .int (Int32.ofInt ((xv_k u : Nat) : Int))]) 1 rfl ?_
          refine xr_icmp_le rfl (by omega) (by omega) (fun z34 => ?_) (fun z34 => ?_)
          · refine xr_steps (pc' := 105) (L' := [(5, .int (Int32.ofInt (q : Int))), (4, .int (Int32.ofInt (p : Int))), (3, .int (Int32.ofInt (n : Int))), (0, .ref 165)]) (st' := [.int (Int32.ofInt (p : Int)), .ref 165]) 2 rfl ?_
            refine xr_call (q := (.invokevirtual 125, 3, 217, 2)) (av := [.ref 165, .int (Int32.ofInt (p : Int))]) (rest := []) rfl rfl (by decide) rfl (ym_rcv hA rfl) (Nat.le_of_ble_eq_true rfl) (mo_217 hA hE (by omega)) ?_
            rintro _ _ ⟨rfl, eA⟩
            rw [eA, hku]
            clear eA
            refine xr_steps (pc' := 109) (L' := [(5, .int (Int32.ofInt (q : Int))), (4, .int (Int32.ofInt (p : Int))), (3, .int (Int32.ofInt (n : Int))), (0, .ref 165)]) (st' := [.int (Int32.ofInt 3), .int (Int32.ofInt ((xv_k u : Nat) : Int))]) 1 rfl ?_
            refine xr_icmp_le rfl (by omega) (by omega) (fun z35 => ?_) (fun z35 => ?_)
            · refine xr_steps (pc' := 127) (L' := [(7, .int (Int32.ofInt 0)), (6, .int (Int32.ofInt 0)), (5, .int (Int32.ofInt (q : Int))), (4, .int (Int32.ofInt (p : Int))), (3, .int (Int32.ofInt (n : Int))), (0, .ref 165)]) (st' := []) 4 rfl ?_
              refine xr_loc (L := [(7, .int (Int32.ofInt 0)), (6, .int (Int32.ofInt 0)), (3, .int (Int32.ofInt (n : Int))), (4, .int (Int32.ofInt (p : Int))), (5, .int (Int32.ofInt (q : Int))), (0, .ref 165)]) (show [7, 6, 3, 4, 5, 0].Nodup by decide) ⟨rfl, rfl, rfl, rfl, rfl, rfl, trivial⟩ ?_
              exfalso; omega
            · refine xr_steps (pc' := 115) (L' := [(5, .int (Int32.ofInt (q : Int))), (4, .int (Int32.ofInt (p : Int))), (3, .int (Int32.ofInt (n : Int))), (0, .ref 165)]) (st' := [.int (Int32.ofInt (p : Int)), .ref 165]) 2 rfl ?_
              refine xr_call (q := (.invokevirtual 135, 3, 221, 2)) (av := [.ref 165, .int (Int32.ofInt (p : Int))]) (rest := []) rfl rfl (by decide) rfl (ym_rcv hA rfl) (Nat.le_of_ble_eq_true rfl) (mo_221 hA hE (by omega) hu (by omega) (by omega) (by omega)) ?_
              rintro _ _ ⟨rfl, eA⟩
              rw [eA]
              clear eA
              refine xr_steps (pc' := 127) (L' := [(7, .int (Int32.ofInt 0)), (6, .int (Int32.ofInt ((xv_p u).length : Int))), (5, .int (Int32.ofInt (q : Int))), (4, .int (Int32.ofInt (p : Int))), (3, .int (Int32.ofInt (n : Int))), (0, .ref 165)]) (st' := []) 4 rfl ?_
              refine xr_loc (L := [(7, .int (Int32.ofInt 0)), (6, .int (Int32.ofInt ((xv_p u).length : Int))), (3, .int (Int32.ofInt (n : Int))), (4, .int (Int32.ofInt (p : Int))), (5, .int (Int32.ofInt (q : Int))), (0, .ref 165)]) (show [7, 6, 3, 4, 5, 0].Nodup by decide) ⟨rfl, rfl, rfl, rfl, rfl, rfl, trivial⟩ ?_
              have hkk : xv_k u = xv_k v := by omega
              have hlen : (xv_p u).length = (xv_p v).length := by omega
              have hal : xv_k u = xv_k v ∧ xv_l u = xv_l v := ⟨hkk, by rw [hwu.2.2.1 (by omega), hwv.2.2.1 (by omega)]⟩
              have hsum : (es'.map fun e => e.1).sum + (((xv_p u).drop 0).map fun q => xsz m q.2).sum + 1 ≤ N + 1 := by
                rw [xsz] at hsz
                rw [List.drop_zero]
                omega
              have hfin : ∀ (es2 : List (Nat × Prop)) (T2 : Nat → Nat → Int), T2 166 = T 166 → xPL (T 166) (T2 191) (T2 192) es2 → (es2.map fun e => e.1).sum = (es'.map fun e => e.1).sum + (((xv_p u).drop 0).map fun q => xsz m q.2).sum → ((∀ e ∈ es2, e.2) ↔ ((∀ e ∈ es', e.2) ∧ ∀ (j : Nat) (c : Int × xv m), 0 ≤ j → (xv_p u)[j]? = some c → ∃ q', xtw (xv_k u) (xv_p v) j c.1 = some q' ∧ xeq m c.2 q')) → xsm T T2 → xr_ok (xt_G w) (d + 1 + 1 + 1 + 1 + 1) 216 16 [(3, .int (Int32.ofInt (es2.length : Int))), (0, .ref 165)] [] (ym A s T2) Q := by
                intro es2 T2 g1 g2 g3 g4 g5
                refine ih es2 T2 ?_ (by omega) g1 g2 (fun T' b f1 f2 => hQ T' b (xsm_trans g5 f1) ?_)
                · rw [g3]
                  omega
                · rw [hall]
                  have hiff : (∀ e ∈ es2, e.2) ↔ ((∀ e' ∈ es', e'.2) ∧ xeq (m + 1) u v) := by
                    rw [g4]
                    exact and_congr Iff.rfl ⟨fun h => ⟨hal, hlen, fun i c hc => h i c (Nat.zero_le _) hc⟩, fun h j c _ hc => h.2.2 j c hc⟩
                  rw [← hiff]
                  exact f2
              have hbad : ∀ T' : Nat → Nat → Int, (¬ ∀ (j : Nat) (c : Int × xv m), 0 ≤ j → (xv_p u)[j]? = some c → ∃ q', xtw (xv_k u) (xv_p v) j c.1 = some q' ∧ xeq m c.2 q') → xsm T T' → Q (.inl (some (.int (Int32.ofInt 0)))) (ym A s T') := fun T' g1 g2 => hQ T' 0 g2 (Or.inr ⟨rfl, fun g => g1 fun j c _ hc => (hall.mp g).2.2.2 j c hc⟩)
              rw [← hn]
              have hcase : xv_k u = 4 ∨ xv_k u = 5 := by omega
              rcases hcase with h4 | h5
              · exact mo_216a hA hE (by omega) hu hv ⟨hz1, hz3⟩ hz2 hz4 h4 (by omega) hlen (xv_p u).length 0 es'.length es' T (by omega) rfl rfl hes' (by omega) hfin hbad
              · exact mo_216o hA hE (by omega) hu hv ⟨hz1, hz3⟩ hz2 hz4 h5 (by omega) hlen (xv_p u).length 0 es'.length es' T (by omega) rfl rfl hes' (by omega) hfin hbad
          · refine xr_steps (pc' := 88) (L' := [(5, .int (Int32.ofInt (q : Int))), (4, .int (Int32.ofInt (p : Int))), (3, .int (Int32.ofInt (n : Int))), (0, .ref 165)]) (st' := [.int (Int32.ofInt (p : Int)), .ref 165]) 2 rfl ?_
            refine xr_call (q := (.invokevirtual 135, 3, 221, 2)) (av := [.ref 165, .int (Int32.ofInt (p : Int))]) (rest := []) rfl rfl (by decide) rfl (ym_rcv hA rfl) (Nat.le_of_ble_eq_true rfl) (mo_221 hA hE (by omega) hu (by omega) (by omega) (by omega)) ?_
            rintro _ _ ⟨rfl, eA⟩
            rw [eA]
            clear eA
            refine xr_steps (pc' := 94) (L' := [(5, .int (Int32.ofInt (q : Int))), (4, .int (Int32.ofInt (p : Int))), (3, .int (Int32.ofInt (n : Int))), (0, .ref 165)]) (st' := [.int (Int32.ofInt (q : Int)), .ref 165, .int (Int32.ofInt ((xv_p u).length : Int))]) 2 rfl ?_
            refine xr_call (q := (.invokevirtual 135, 3, 221, 2)) (av := [.ref 165, .int (Int32.ofInt (q : Int))]) (rest := [.int (Int32.ofInt ((xv_p u).length : Int))]) rfl rfl (by decide) rfl (ym_rcv hA rfl) (Nat.le_of_ble_eq_true rfl) (mo_221 hA hE (by omega) hv (by omega) (by omega) (by omega)) ?_
            rintro _ _ ⟨rfl, eA⟩
            rw [eA]
            clear eA
            refine xr_icmp_eq rfl (by omega) (by omega) (fun z36 => ?_) (fun z36 => ?_)
            · refine xr_steps (pc' := 105) (L' := [(5, .int (Int32.ofInt (q : Int))), (4, .int (Int32.ofInt (p : Int))), (3, .int (Int32.ofInt (n : Int))), (0, .ref 165)]) (st' := [.int (Int32.ofInt (p : Int)), .ref 165]) 2 rfl ?_
              refine xr_call (q := (.invokevirtual 125, 3, 217, 2)) (av := [.ref 165, .int (Int32.ofInt (p : Int))]) (rest := []) rfl rfl (by decide) rfl (ym_rcv hA rfl) (Nat.le_of_ble_eq_true rfl) (mo_217 hA hE (by omega)) ?_
              rintro _ _ ⟨rfl, eA⟩
              rw [eA, hku]
              clear eA
              refine xr_steps (pc' := 109) (L' := [(5, .int (Int32.ofInt (q : Int))), (4, .int (Int32.ofInt (p : Int))), (3, .int (Int32.ofInt (n : Int))), (0, .ref 165)]) (st' := [.int (Int32.ofInt 3), .int (Int32.ofInt ((xv_k u : Nat) : Int))]) 1 rfl ?_
              refine xr_icmp_le rfl (by omega) (by omega) (fun z37 => ?_) (fun z37 => ?_)
              · refine xr_steps (pc' := 127) (L' := [(7, .int (Int32.ofInt 0)), (6, .int (Int32.ofInt 0)), (5, .int (Int32.ofInt (q : Int))), (4, .int (Int32.ofInt (p : Int))), (3, .int (Int32.ofInt (n : Int))), (0, .ref 165)]) (st' := []) 4 rfl ?_
                refine xr_loc (L := [(7, .int (Int32.ofInt 0)), (6, .int (Int32.ofInt 0)), (3, .int (Int32.ofInt (n : Int))), (4, .int (Int32.ofInt (p : Int))), (5, .int (Int32.ofInt (q : Int))), (0, .ref 165)]) (show [7, 6, 3, 4, 5, 0].Nodup by decide) ⟨rfl, rfl, rfl, rfl, rfl, rfl, trivial⟩ ?_
                exfalso; omega
              · refine xr_steps (pc' := 115) (L' := [(5, .int (Int32.ofInt (q : Int))), (4, .int (Int32.ofInt (p : Int))), (3, .int (Int32.ofInt (n : Int))), (0, .ref 165)]) (st' := [.int (Int32.ofInt (p : Int)), .ref 165]) 2 rfl ?_
                refine xr_call (q := (.invokevirtual 135, 3, 221, 2)) (av := [.ref 165, .int (Int32.ofInt (p : Int))]) (rest := []) rfl rfl (by decide) rfl (ym_rcv hA rfl) (Nat.le_of_ble_eq_true rfl) (mo_221 hA hE (by omega) hu (by omega) (by omega) (by omega)) ?_
                rintro _ _ ⟨rfl, eA⟩
                rw [eA]
                clear eA
                refine xr_steps (pc' := 127) (L' := [(7, .int (Int32.ofInt 0)), (6, .int (Int32.ofInt ((xv_p u).length : Int))), (5, .int (Int32.ofInt (q : Int))), (4, .int (Int32.ofInt (p : Int))), (3, .int (Int32.ofInt (n : Int))), (0, .ref 165)]) (st' := []) 4 rfl ?_
                refine xr_loc (L := [(7, .int (Int32.ofInt 0)), (6, .int (Int32.ofInt ((xv_p u).length : Int))), (3, .int (Int32.ofInt (n : Int))), (4, .int (Int32.ofInt (p : Int))), (5, .int (Int32.ofInt (q : Int))), (0, .ref 165)]) (show [7, 6, 3, 4, 5, 0].Nodup by decide) ⟨rfl, rfl, rfl, rfl, rfl, rfl, trivial⟩ ?_
                have hkk : xv_k u = xv_k v := by omega
                have hlen : (xv_p u).length = (xv_p v).length := by omega
                have hal : xv_k u = xv_k v ∧ xv_l u = xv_l v := ⟨hkk, by rw [hwu.2.2.1 (by omega), hwv.2.2.1 (by omega)]⟩
                have hsum : (es'.map fun e => e.1).sum + (((xv_p u).drop 0).map fun q => xsz m q.2).sum + 1 ≤ N + 1 := by
                  rw [xsz] at hsz
                  rw [List.drop_zero]
                  omega
                have hfin : ∀ (es2 : List (Nat × Prop)) (T2 : Nat → Nat → Int), T2 166 = T 166 → xPL (T 166) (T2 191) (T2 192) es2 → (es2.map fun e => e.1).sum = (es'.map fun e => e.1).sum + (((xv_p u).drop 0).map fun q => xsz m q.2).sum → ((∀ e ∈ es2, e.2) ↔ ((∀ e ∈ es', e.2) ∧ ∀ (j : Nat) (c : Int × xv m), 0 ≤ j → (xv_p u)[j]? = some c → ∃ q', xtw (xv_k u) (xv_p v) j c.1 = some q' ∧ xeq m c.2 q')) → xsm T T2 → xr_ok (xt_G w) (d + 1 + 1 + 1 + 1 + 1) 216 16 [(3, .int (Int32.ofInt (es2.length : Int))), (0, .ref 165)] [] (ym A s T2) Q := by
                  intro es2 T2 g1 g2 g3 g4 g5
                  refine ih es2 T2 ?_ (by omega) g1 g2 (fun T' b f1 f2 => hQ T' b (xsm_trans g5 f1) ?_)
                  · rw [g3]
                    omega
                  · rw [hall]
                    have hiff : (∀ e ∈ es2, e.2) ↔ ((∀ e' ∈ es', e'.2) ∧ xeq (m + 1) u v) := by
                      rw [g4]
                      exact and_congr Iff.rfl ⟨fun h => ⟨hal, hlen, fun i c hc => h i c (Nat.zero_le _) hc⟩, fun h j c _ hc => h.2.2 j c hc⟩
                    rw [← hiff]
                    exact f2
                have hbad : ∀ T' : Nat → Nat → Int, (¬ ∀ (j : Nat) (c : Int × xv m), 0 ≤ j → (xv_p u)[j]? = some c → ∃ q', xtw (xv_k u) (xv_p v) j c.1 = some q' ∧ xeq m c.2 q') → xsm T T' → Q (.inl (some (.int (Int32.ofInt 0)))) (ym A s T') := fun T' g1 g2 => hQ T' 0 g2 (Or.inr ⟨rfl, fun g => g1 fun j c _ hc => (hall.mp g).2.2.2 j c hc⟩)
                rw [← hn]
                have hcase : xv_k u = 4 ∨ xv_k u = 5 := by omega
                rcases hcase with h4 | h5
                · exact mo_216a hA hE (by omega) hu hv ⟨hz1, hz3⟩ hz2 hz4 h4 (by omega) hlen (xv_p u).length 0 es'.length es' T (by omega) rfl rfl hes' (by omega) hfin hbad
                · exact mo_216o hA hE (by omega) hu hv ⟨hz1, hz3⟩ hz2 hz4 h5 (by omega) hlen (xv_p u).length 0 es'.length es' T (by omega) rfl rfl hes' (by omega) hfin hbad
            · refine xr_steps (pc' := 101) (L' := [(5, .int (Int32.ofInt (q : Int))), (4, .int (Int32.ofInt (p : Int))), (3, .int (Int32.ofInt (n : Int))), (0, .ref 165)]) (st' := [.int (Int32.ofInt 0)]) 1 rfl ?_
              exact xr_retZ rfl rfl (by omega) (hno (fun h => z36 (by rw [h.2.1])))
        · refine xr_steps (pc' := 69) (L' := [(5, .int (Int32.ofInt (q : Int))), (4, .int (Int32.ofInt (p : Int))), (3, .int (Int32.ofInt (n : Int))), (0, .ref 165)]) (st' := [.int (Int32.ofInt (q : Int)), .int (Int32.ofInt (p : Int)), .ref 165]) 3 rfl ?_
          refine xr_call (q := (.invokevirtual 138, 3, 218, 3)) (av := [.ref 165, .int (Int32.ofInt (p : Int)), .int (Int32.ofInt (q : Int))]) (rest := []) rfl rfl (by decide) rfl (ym_rcv hA rfl) (Nat.le_of_ble_eq_true rfl) (mo_218 hA hE (m := m + 1) (by omega) hu hv (by omega) (by omega)) ?_
          rintro _ _ ⟨bs, ⟨rfl, eA⟩, hbs⟩
          rw [eA]
          clear eA
          refine xr_if_eq rfl (by omega) (fun z38 => ?_) (fun z38 => ?_)
          · refine xr_steps (pc' := 101) (L' := [(5, .int (Int32.ofInt (q : Int))), (4, .int (Int32.ofInt (p : Int))), (3, .int (Int32.ofInt (n : Int))), (0, .ref 165)]) (st' := [.int (Int32.ofInt 0)]) 1 rfl ?_
            refine xr_retZ rfl rfl (by omega) (hno (fun h => ?_))
            obtain ⟨-, -, ⟨-, a1⟩ | ⟨-, a1⟩⟩ := hu
            · obtain ⟨-, -, ⟨-, a2⟩ | ⟨-, a2⟩⟩ := hv
              · rw [← h.1.1] at a2
                rcases hbs with hbs | hbs
                · omega
                · exact hbs.2 ((xV0_same a1 a2).mpr h.1.2)
              · rcases a2 with ⟨a2, -⟩ | ⟨a2, -⟩ <;> omega
            · rcases a1 with ⟨a1, -⟩ | ⟨a1, -⟩ <;> omega
          · refine xr_steps (pc' := 78) (L' := [(5, .int (Int32.ofInt (q : Int))), (4, .int (Int32.ofInt (p : Int))), (3, .int (Int32.ofInt (n : Int))), (0, .ref 165)]) (st' := [.int (Int32.ofInt (p : Int)), .ref 165]) 2 rfl ?_
            refine xr_call (q := (.invokevirtual 125, 3, 217, 2)) (av := [.ref 165, .int (Int32.ofInt (p : Int))]) (rest := []) rfl rfl (by decide) rfl (ym_rcv hA rfl) (Nat.le_of_ble_eq_true rfl) (mo_217 hA hE (by omega)) ?_
            rintro _ _ ⟨rfl, eA⟩
            rw [eA, hku]
            clear eA
            refine xr_steps (pc' := 82) (L' := [(5, .int (Int32.ofInt (q : Int))), (4, .int (Int32.ofInt (p : Int))), (3, .int (Int32.ofInt (n : Int))), (0, .ref 165)]) (st' := [.int (Int32.ofInt 3), .int (Int32.ofInt ((xv_k u : Nat) : Int))]) 1 rfl ?_
            refine xr_icmp_le rfl (by omega) (by omega) (fun z39 => ?_) (fun z39 => ?_)
            · refine xr_steps (pc' := 105) (L' := [(5, .int (Int32.ofInt (q : Int))), (4, .int (Int32.ofInt (p : Int))), (3, .int (Int32.ofInt (n : Int))), (0, .ref 165)]) (st' := [.int (Int32.ofInt (p : Int)), .ref 165]) 2 rfl ?_
              refine xr_call (q := (.invokevirtual 125, 3, 217, 2)) (av := [.ref 165, .int (Int32.ofInt (p : Int))]) (rest := []) rfl rfl (by decide) rfl (ym_rcv hA rfl) (Nat.le_of_ble_eq_true rfl) (mo_217 hA hE (by omega)) ?_
              rintro _ _ ⟨rfl, eA⟩
              rw [eA, hku]
              clear eA
              refine xr_steps (pc' := 109) (L' := [(5, .int (Int32.ofInt (q : Int))), (4, .int (Int32.ofInt (p : Int))), (3, .int (Int32.ofInt (n : Int))), (0, .ref 165)]) (st' := [.int (Int32.ofInt 3), .int (Int32.ofInt ((xv_k u : Nat) : Int))]) 1 rfl ?_
              refine xr_icmp_le rfl (by omega) (by omega) (fun z40 => ?_) (fun z40 => ?_)
              · refine xr_steps (pc' := 127) (L' := [(7, .int (Int32.ofInt 0)), (6, .int (Int32.ofInt 0)), (5, .int (Int32.ofInt (q : Int))), (4, .int (Int32.ofInt (p : Int))), (3, .int (Int32.ofInt (n : Int))), (0, .ref 165)]) (st' := []) 4 rfl ?_
                refine xr_loc (L := [(7, .int (Int32.ofInt 0)), (6, .int (Int32.ofInt 0)), (3, .int (Int32.ofInt (n : Int))), (4, .int (Int32.ofInt (p : Int))), (5, .int (Int32.ofInt (q : Int))), (0, .ref 165)]) (show [7, 6, 3, 4, 5, 0].Nodup by decide) ⟨rfl, rfl, rfl, rfl, rfl, rfl, trivial⟩ ?_
                have hkk : xv_k u = xv_k v := by omega
                have hk4 : xv_k u < 4 := by omega
                have hpu : xv_p u = [] := hwu.2.1 hk4
                have hpv : xv_p v = [] := hwv.2.1 (by omega)
                have hal : xv_l u = xv_l v := by
                  obtain ⟨-, -, ⟨-, a1⟩ | ⟨-, a1⟩⟩ := hu
                  · obtain ⟨-, -, ⟨-, a2⟩ | ⟨-, a2⟩⟩ := hv
                    · rw [← hkk] at a2
                      rcases hbs with hbs | hbs
                      · exact (xV0_same a1 a2).mp hbs.2
                      · omega
                    · rcases a2 with ⟨a2, -⟩ | ⟨a2, -⟩ <;> omega
                  · rcases a1 with ⟨a1, -⟩ | ⟨a1, -⟩ <;> omega
                have hxq : xeq (m + 1) u v := ⟨⟨hkk, hal⟩, by rw [hpu, hpv], fun i c hc => by rw [hpu] at hc; cases i <;> cases hc⟩
                refine xr_steps (pc' := 131) (L' := [(7, .int (Int32.ofInt 0)), (6, .int (Int32.ofInt 0)), (3, .int (Int32.ofInt (n : Int))), (4, .int (Int32.ofInt (p : Int))), (5, .int (Int32.ofInt (q : Int))), (0, .ref 165)]) (st' := [.int (Int32.ofInt 0), .int (Int32.ofInt 0)]) 2 rfl ?_
                refine xr_icmp_ge rfl (by omega) (by omega) (fun _ => ?_) (fun h => absurd (Int.le_refl 0) h)
                refine xr_steps (pc' := 16) (L' := [(7, .int (Int32.ofInt 0)), (6, .int (Int32.ofInt 0)), (3, .int (Int32.ofInt (n : Int))), (4, .int (Int32.ofInt (p : Int))), (5, .int (Int32.ofInt (q : Int))), (0, .ref 165)]) (st' := []) 1 rfl ?_
                refine xr_loc (L := [(3, .int (Int32.ofInt (n : Int))), (0, .ref 165)]) (show [3, 0].Nodup by decide) ⟨rfl, rfl, trivial⟩ ?_
                rw [← hn]
                have hs1 : 1 ≤ e.1 := by rw [← hsz, xsz]; omega
                refine ih es' T (by omega) (by omega) rfl hes' (fun T' b f1 f2 => hQ T' b f1 ?_)
                rw [hall]
                rcases f2 with ⟨f2, f3⟩ | ⟨f2, f3⟩
                · exact Or.inl ⟨f2, f3, hxq⟩
                · exact Or.inr ⟨f2, fun h => f3 h.1⟩
              · refine xr_steps (pc' := 115) (L' := [(5, .int (Int32.ofInt (q : Int))), (4, .int (Int32.ofInt (p : Int))), (3, .int (Int32.ofInt (n : Int))), (0, .ref 165)]) (st' := [.int (Int32.ofInt (p : Int)), .ref 165]) 2 rfl ?_
                refine xr_call (q := (.invokevirtual 135, 3, 221, 2)) (av := [.ref 165, .int (Int32.ofInt (p : Int))]) (rest := []) rfl rfl (by decide) rfl (ym_rcv hA rfl) (Nat.le_of_ble_eq_true rfl) (mo_221 hA hE (by omega) hu (by omega) (by omega) (by omega)) ?_
                rintro _ _ ⟨rfl, eA⟩
                rw [eA]
                clear eA
                refine xr_steps (pc' := 127) (L' := [(7, .int (Int32.ofInt 0)), (6, .int (Int32.ofInt ((xv_p u).length : Int))), (5, .int (Int32.ofInt (q : Int))), (4, .int (Int32.ofInt (p : Int))), (3, .int (Int32.ofInt (n : Int))), (0, .ref 165)]) (st' := []) 4 rfl ?_
                refine xr_loc (L := [(7, .int (Int32.ofInt 0)), (6, .int (Int32.ofInt ((xv_p u).length : Int))), (3, .int (Int32.ofInt (n : Int))), (4, .int (Int32.ofInt (p : Int))), (5, .int (Int32.ofInt (q : Int))), (0, .ref 165)]) (show [7, 6, 3, 4, 5, 0].Nodup by decide) ⟨rfl, rfl, rfl, rfl, rfl, rfl, trivial⟩ ?_
                have hkk : xv_k u = xv_k v := by omega
                have hlen : (xv_p u).length = (xv_p v).length := by omega
                have hal : xv_k u = xv_k v ∧ xv_l u = xv_l v := ⟨hkk, by rw [hwu.2.2.1 (by omega), hwv.2.2.1 (by omega)]⟩
                have hsum : (es'.map fun e => e.1).sum + (((xv_p u).drop 0).map fun q => xsz m q.2).sum + 1 ≤ N + 1 := by
                  rw [xsz] at hsz
                  rw [List.drop_zero]
                  omega
                have hfin : ∀ (es2 : List (Nat × Prop)) (T2 : Nat → Nat → Int), T2 166 = T 166 → xPL (T 166) (T2 191) (T2 192) es2 → (es2.map fun e => e.1).sum = (es'.map fun e => e.1).sum + (((xv_p u).drop 0).map fun q => xsz m q.2).sum → ((∀ e ∈ es2, e.2) ↔ ((∀ e ∈ es', e.2) ∧ ∀ (j : Nat) (c : Int × xv m), 0 ≤ j → (xv_p u)[j]? = some c → ∃ q', xtw (xv_k u) (xv_p v) j c.1 = some q' ∧ xeq m c.2 q')) → xsm T T2 → xr_ok (xt_G w) (d + 1 + 1 + 1 + 1 + 1) 216 16 [(3, .int (Int32.ofInt (es2.length : Int))), (0, .ref 165)] [] (ym A s T2) Q := by
                  intro es2 T2 g1 g2 g3 g4 g5
                  refine ih es2 T2 ?_ (by omega) g1 g2 (fun T' b f1 f2 => hQ T' b (xsm_trans g5 f1) ?_)
                  · rw [g3]
                    omega
                  · rw [hall]
                    have hiff : (∀ e ∈ es2, e.2) ↔ ((∀ e' ∈ es', e'.2) ∧ xeq (m + 1) u v) := by
                      rw [g4]
                      exact and_congr Iff.rfl ⟨fun h => ⟨hal, hlen, fun i c hc => h i c (Nat.zero_le _) hc⟩, fun h j c _ hc => h.2.2 j c hc⟩
                    rw [← hiff]
                    exact f2
                have hbad : ∀ T' : Nat → Nat → Int, (¬ ∀ (j : Nat) (c : Int × xv m), 0 ≤ j → (xv_p u)[j]? = some c → ∃ q', xtw (xv_k u) (xv_p v) j c.1 = some q' ∧ xeq m c.2 q') → xsm T T' → Q (.inl (some (.int (Int32.ofInt 0)))) (ym A s T') := fun T' g1 g2 => hQ T' 0 g2 (Or.inr ⟨rfl, fun g => g1 fun j c _ hc => (hall.mp g).2.2.2 j c hc⟩)
                rw [← hn]
                have hcase : xv_k u = 4 ∨ xv_k u = 5 := by omega
                rcases hcase with h4 | h5
                · exact mo_216a hA hE (by omega) hu hv ⟨hz1, hz3⟩ hz2 hz4 h4 (by omega) hlen (xv_p u).length 0 es'.length es' T (by omega) rfl rfl hes' (by omega) hfin hbad
                · exact mo_216o hA hE (by omega) hu hv ⟨hz1, hz3⟩ hz2 hz4 h5 (by omega) hlen (xv_p u).length 0 es'.length es' T (by omega) rfl rfl hes' (by omega) hfin hbad
            · refine xr_steps (pc' := 88) (L' := [(5, .int (Int32.ofInt (q : Int))), (4, .int (Int32.ofInt (p : Int))), (3, .int (Int32.ofInt (n : Int))), (0, .ref 165)]) (st' := [.int (Int32.ofInt (p : Int)), .ref 165]) 2 rfl ?_
              refine xr_call (q := (.invokevirtual 135, 3, 221, 2)) (av := [.ref 165, .int (Int32.ofInt (p : Int))]) (rest := []) rfl rfl (by decide) rfl (ym_rcv hA rfl) (Nat.le_of_ble_eq_true rfl) (mo_221 hA hE (by omega) hu (by omega) (by omega) (by omega)) ?_
              rintro _ _ ⟨rfl, eA⟩
              rw [eA]
              clear eA
              refine xr_steps (pc' := 94) (L' := [(5, .int (Int32.ofInt (q : Int))), (4, .int (Int32.ofInt (p : Int))), (3, .int (Int32.ofInt (n : Int))), (0, .ref 165)]) (st' := [.int (Int32.ofInt (q : Int)), .ref 165, .int (Int32.ofInt ((xv_p u).length : Int))]) 2 rfl ?_
              refine xr_call (q := (.invokevirtual 135, 3, 221, 2)) (av := [.ref 165, .int (Int32.ofInt (q : Int))]) (rest := [.int (Int32.ofInt ((xv_p u).length : Int))]) rfl rfl (by decide) rfl (ym_rcv hA rfl) (Nat.le_of_ble_eq_true rfl) (mo_221 hA hE (by omega) hv (by omega) (by omega) (by omega)) ?_
              rintro _ _ ⟨rfl, eA⟩
              rw [eA]
              clear eA
              refine xr_icmp_eq rfl (by omega) (by omega) (fun z41 => ?_) (fun z41 => ?_)
              · refine xr_steps (pc' := 105) (L' := [(5, .int (Int32.ofInt (q : Int))), (4, .int (Int32.ofInt (p : Int))), (3, .int (Int32.ofInt (n : Int))), (0, .ref 165)]) (st' := [.int (Int32.ofInt (p : Int)), .ref 165]) 2 rfl ?_
                refine xr_call (q := (.invokevirtual 125, 3, 217, 2)) (av := [.ref 165, .int (Int32.ofInt (p : Int))]) (rest := []) rfl rfl (by decide) rfl (ym_rcv hA rfl) (Nat.le_of_ble_eq_true rfl) (mo_217 hA hE (by omega)) ?_
                rintro _ _ ⟨rfl, eA⟩
                rw [eA, hku]
                clear eA
                refine xr_steps (pc' := 109) (L' := [(5, .int (Int32.ofInt (q : Int))), (4, .int (Int32.ofInt (p : Int))), (3, .int (Int32.ofInt (n : Int))), (0, .ref 165)]) (st' := [.int (Int32.ofInt 3), .int (Int32.ofInt ((xv_k u : Nat) : Int))]) 1 rfl ?_
                refine xr_icmp_le rfl (by omega) (by omega) (fun z42 => ?_) (fun z42 => ?_)
                · refine xr_steps (pc' := 127) (L' := [(7, .int (Int32.ofInt 0)), (6, .int (Int32.ofInt 0)), (5, .int (Int32.ofInt (q : Int))), (4, .int (Int32.ofInt (p : Int))), (3, .int (Int32.ofInt (n : Int))), (0, .ref 165)]) (st' := []) 4 rfl ?_
                  refine xr_loc (L := [(7, .int (Int32.ofInt 0)), (6, .int (Int32.ofInt 0)), (3, .int (Int32.ofInt (n : Int))), (4, .int (Int32.ofInt (p : Int))), (5, .int (Int32.ofInt (q : Int))), (0, .ref 165)]) (show [7, 6, 3, 4, 5, 0].Nodup by decide) ⟨rfl, rfl, rfl, rfl, rfl, rfl, trivial⟩ ?_
                  have hkk : xv_k u = xv_k v := by omega
                  have hk4 : xv_k u < 4 := by omega
                  have hpu : xv_p u = [] := hwu.2.1 hk4
                  have hpv : xv_p v = [] := hwv.2.1 (by omega)
                  have hal : xv_l u = xv_l v := by
                    obtain ⟨-, -, ⟨-, a1⟩ | ⟨-, a1⟩⟩ := hu
                    · obtain ⟨-, -, ⟨-, a2⟩ | ⟨-, a2⟩⟩ := hv
                      · rw [← hkk] at a2
                        rcases hbs with hbs | hbs
                        · exact (xV0_same a1 a2).mp hbs.2
                        · omega
                      · rcases a2 with ⟨a2, -⟩ | ⟨a2, -⟩ <;> omega
                    · rcases a1 with ⟨a1, -⟩ | ⟨a1, -⟩ <;> omega
                  have hxq : xeq (m + 1) u v := ⟨⟨hkk, hal⟩, by rw [hpu, hpv], fun i c hc => by rw [hpu] at hc; cases i <;> cases hc⟩
                  refine xr_steps (pc' := 131) (L' := [(7, .int (Int32.ofInt 0)), (6, .int (Int32.ofInt 0)), (3, .int (Int32.ofInt (n : Int))), (4, .int (Int32.ofInt (p : Int))), (5, .int (Int32.ofInt (q : Int))), (0, .ref 165)]) (st' := [.int (Int32.ofInt 0), .int (Int32.ofInt 0)]) 2 rfl ?_
                  refine xr_icmp_ge rfl (by omega) (by omega) (fun _ => ?_) (fun h => absurd (Int.le_refl 0) h)
                  refine xr_steps (pc' := 16) (L' := [(7, .int (Int32.ofInt 0)), (6, .int (Int32.ofInt 0)), (3, .int (Int32.ofInt (n : Int))), (4, .int (Int32.ofInt (p : Int))), (5, .int (Int32.ofInt (q : Int))), (0, .ref 165)]) (st' := []) 1 rfl ?_
                  refine xr_loc (L := [(3, .int (Int32.ofInt (n : Int))), (0, .ref 165)]) (show [3, 0].Nodup by decide) ⟨rfl, rfl, trivial⟩ ?_
                  rw [← hn]
                  have hs1 : 1 ≤ e.1 := by rw [← hsz, xsz]; omega
                  refine ih es' T (by omega) (by omega) rfl hes' (fun T' b f1 f2 => hQ T' b f1 ?_)
                  rw [hall]
                  rcases f2 with ⟨f2, f3⟩ | ⟨f2, f3⟩
                  · exact Or.inl ⟨f2, f3, hxq⟩
                  · exact Or.inr ⟨f2, fun h => f3 h.1⟩
                · refine xr_steps (pc' := 115) (L' := [(5, .int (Int32.ofInt (q : Int))), (4, .int (Int32.ofInt (p : Int))), (3, .int (Int32.ofInt (n : Int))), (0, .ref 165)]) (st' := [.int (Int32.ofInt (p : Int)), .ref 165]) 2 rfl ?_
                  refine xr_call (q := (.invokevirtual 135, 3, 221, 2)) (av := [.ref 165, .int (Int32.ofInt (p : Int))]) (rest := []) rfl rfl (by decide) rfl (ym_rcv hA rfl) (Nat.le_of_ble_eq_true rfl) (mo_221 hA hE (by omega) hu (by omega) (by omega) (by omega)) ?_
                  rintro _ _ ⟨rfl, eA⟩
                  rw [eA]
                  clear eA
                  refine xr_steps (pc' := 127) (L' := [(7, .int (Int32.ofInt 0)), (6, .int (Int32.ofInt ((xv_p u).length : Int))), (5, .int (Int32.ofInt (q : Int))), (4, .int (Int32.ofInt (p : Int))), (3, .int (Int32.ofInt (n : Int))), (0, .ref 165)]) (st' := []) 4 rfl ?_
                  refine xr_loc (L := [(7, .int (Int32.ofInt 0)), (6, .int (Int32.ofInt ((xv_p u).length : Int))), (3, .int (Int32.ofInt (n : Int))), (4, .int (Int32.ofInt (p : Int))), (5, .int (Int32.ofInt (q : Int))), (0, .ref 165)]) (show [7, 6, 3, 4, 5, 0].Nodup by decide) ⟨rfl, rfl, rfl, rfl, rfl, rfl, trivial⟩ ?_
                  have hkk : xv_k u = xv_k v := by omega
                  have hlen : (xv_p u).length = (xv_p v).length := by omega
                  have hal : xv_k u = xv_k v ∧ xv_l u = xv_l v := ⟨hkk, by rw [hwu.2.2.1 (by omega), hwv.2.2.1 (by omega)]⟩
                  have hsum : (es'.map fun e => e.1).sum + (((xv_p u).drop 0).map fun q => xsz m q.2).sum + 1 ≤ N + 1 := by
                    rw [xsz] at hsz
                    rw [List.drop_zero]
                    omega
                  have hfin : ∀ (es2 : List (Nat × Prop)) (T2 : Nat → Nat → Int), T2 166 = T 166 → xPL (T 166) (T2 191) (T2 192) es2 → (es2.map fun e => e.1).sum = (es'.map fun e => e.1).sum + (((xv_p u).drop 0).map fun q => xsz m q.2).sum → ((∀ e ∈ es2, e.2) ↔ ((∀ e ∈ es', e.2) ∧ ∀ (j : Nat) (c : Int × xv m), 0 ≤ j → (xv_p u)[j]? = some c → ∃ q', xtw (xv_k u) (xv_p v) j c.1 = some q' ∧ xeq m c.2 q')) → xsm T T2 → xr_ok (xt_G w) (d + 1 + 1 + 1 + 1 + 1) 216 16 [(3, .int (Int32.ofInt (es2.length : Int))), (0, .ref 165)] [] (ym A s T2) Q := by
                    intro es2 T2 g1 g2 g3 g4 g5
                    refine ih es2 T2 ?_ (by omega) g1 g2 (fun T' b f1 f2 => hQ T' b (xsm_trans g5 f1) ?_)
                    · rw [g3]
                      omega
                    · rw [hall]
                      have hiff : (∀ e ∈ es2, e.2) ↔ ((∀ e' ∈ es', e'.2) ∧ xeq (m + 1) u v) := by
                        rw [g4]
                        exact and_congr Iff.rfl ⟨fun h => ⟨hal, hlen, fun i c hc => h i c (Nat.zero_le _) hc⟩, fun h j c _ hc => h.2.2 j c hc⟩
                      rw [← hiff]
                      exact f2
                  have hbad : ∀ T' : Nat → Nat → Int, (¬ ∀ (j : Nat) (c : Int × xv m), 0 ≤ j → (xv_p u)[j]? = some c → ∃ q', xtw (xv_k u) (xv_p v) j c.1 = some q' ∧ xeq m c.2 q') → xsm T T' → Q (.inl (some (.int (Int32.ofInt 0)))) (ym A s T') := fun T' g1 g2 => hQ T' 0 g2 (Or.inr ⟨rfl, fun g => g1 fun j c _ hc => (hall.mp g).2.2.2 j c hc⟩)
                  rw [← hn]
                  have hcase : xv_k u = 4 ∨ xv_k u = 5 := by omega
                  rcases hcase with h4 | h5
                  · exact mo_216a hA hE (by omega) hu hv ⟨hz1, hz3⟩ hz2 hz4 h4 (by omega) hlen (xv_p u).length 0 es'.length es' T (by omega) rfl rfl hes' (by omega) hfin hbad
                  · exact mo_216o hA hE (by omega) hu hv ⟨hz1, hz3⟩ hz2 hz4 h5 (by omega) hlen (xv_p u).length 0 es'.length es' T (by omega) rfl rfl hes' (by omega) hfin hbad
              · refine xr_steps (pc' := 101) (L' := [(5, .int (Int32.ofInt (q : Int))), (4, .int (Int32.ofInt (p : Int))), (3, .int (Int32.ofInt (n : Int))), (0, .ref 165)]) (st' := [.int (Int32.ofInt 0)]) 1 rfl ?_
                exact xr_retZ rfl rfl (by omega) (hno (fun h => z41 (by rw [h.2.1])))
end MEQ
theorem mo_216 {w : Value} {d : Nat} {A : xb_H} {s : Nat → Int} {t : Nat → Nat → Int} {p q m z1 z2 : Nat} {u v : xv m} (hA : 194 ≤ A.1) (hE : ∀ j : Nat, 0 ≤ t 166 j ∧ t 166 j ≤ 127) (hm : m ≤ 6) (hu : xV (t 166) m p u z1) (hv : xV (t 166) m q v z2) (hz1 : z1 ≤ p + 100 ∧ z1 < 3711) (hz2 : z2 ≤ q + 100 ∧ z2 < 3711) : xr_ok (xt_G w) (d + 1 + 1 + 1 + 1 + 1) 216 0 [(0, .ref 165), (1, .int (Int32.ofInt (p : Int))), (2, .int (Int32.ofInt (q : Int)))] [] (ym A s t) (fun o A' => ∃ v0, o = .inl v0 ∧ ∃ (b : Int) (T : Nat → Nat → Int), (v0 = some (.int (Int32.ofInt b)) ∧ A' = ym A s T ∧ xsm t T) ∧ ((b = 1 ∧ xeq m u v) ∨ (b = 0 ∧ ¬ xeq m u v))) := by
  have hs : xsz m u ≤ 100 := by
    have := xV_sz _ _ _ _ hu
    omega
  refine xr_steps (pc' := 3) (L' := [(3, .int (Int32.ofInt 1)), (0, .ref 165), (1, .int (Int32.ofInt (p : Int))), (2, .int (Int32.ofInt (q : Int)))]) (st' := [.ref 165]) 3 rfl ?_
  refine xr_getf (v := .ref 191) rfl (ym_165 hA) rfl ?_
  refine xr_steps (pc' := 8) (L' := [(3, .int (Int32.ofInt 1)), (0, .ref 165), (1, .int (Int32.ofInt (p : Int))), (2, .int (Int32.ofInt (q : Int)))]) (st' := [.int (Int32.ofInt (p : Int)), .int (Int32.ofInt 0), .ref 191]) 2 rfl ?_
  refine ym_iastore hA rfl rfl (by decide) (by omega) (by omega) ?_
  refine xr_steps (pc' := 10) (L' := [(3, .int (Int32.ofInt 1)), (0, .ref 165), (1, .int (Int32.ofInt (p : Int))), (2, .int (Int32.ofInt (q : Int)))]) (st' := [.ref 165]) 1 rfl ?_
  refine xr_getf (v := .ref 192) rfl (ym_165 hA) rfl ?_
  refine xr_steps (pc' := 15) (L' := [(3, .int (Int32.ofInt 1)), (0, .ref 165), (1, .int (Int32.ofInt (p : Int))), (2, .int (Int32.ofInt (q : Int)))]) (st' := [.int (Int32.ofInt (q : Int)), .int (Int32.ofInt 0), .ref 192]) 2 rfl ?_
  refine ym_iastore hA rfl rfl (by decide) (by omega) (by omega) ?_
  refine xr_loc (L := [(3, .int (Int32.ofInt 1)), (0, .ref 165)]) (show [3, 0].Nodup by decide) ⟨rfl, rfl, trivial⟩ ?_
  have hen : xEN (t 166) (p : Int) (q : Int) (xsz m u, xeq m u v) := ⟨m, p, q, z1, z2, u, v, rfl, rfl, hm, hu, hv, ⟨by omega, by omega, by omega, by omega⟩, rfl, Iff.rfl⟩
  refine mo_216l (E := t 166) hA hE 100 [(xsz m u, xeq m u v)] _ ?_ (Nat.le_refl _) rfl (xPL_push (es := []) (fun i e h => by cases i <;> cases h) hen) (fun T' b f1 f2 => ⟨_, rfl, b, T', ⟨rfl, rfl, xsm_trans (xsm_put (xsm_refl _) _ _) f1⟩, ?_⟩)
  · rw [List.map_singleton, List.sum_singleton]
    exact hs
  · rcases f2 with ⟨f2, f3⟩ | ⟨f2, f3⟩
    · exact Or.inl ⟨f2, f3 _ List.mem_cons_self⟩
    · refine Or.inr ⟨f2, fun h => f3 fun e he => ?_⟩
      rw [List.mem_singleton] at he
      rw [he]
      exact h
