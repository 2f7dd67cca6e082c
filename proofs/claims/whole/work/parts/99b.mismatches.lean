/-! Mismatches are noted -/
theorem ybl_fr {A A' : xb_H} {a v n : Nat} {L : List Int} {M : List Nat} {p q : Nat} (h : ybl A a v n L) (hf : yfr A A' M p q) (h1 : ¬ a ∈ M) (h2 : ¬ v ∈ M) : ybl A' a v n L := by
  obtain ⟨m, f, e1, e2⟩ := h
  exact ⟨m, f, yb_fr e1 hf h1 h2, e2⟩
theorem ybl_keep {A A' : xb_H} {a v n : Nat} {L : List Int} (h : ybl A a v n L) (hk : ∀ y o, y = a ∨ y = v → xb_get A y = some o → xb_get A' y = some o) : ybl A' a v n L := by
  obtain ⟨m, f, ⟨e1, e2, e3⟩, e4⟩ := h
  exact ⟨m, f, ⟨hk _ _ (Or.inl rfl) e1, hk _ _ (Or.inr rfl) e2, e3⟩, e4⟩
/-- a mismatch in the heap -/
def ymm (A : xb_H) (mm bb : Nat) (kd : Int) (v n : Nat) (L : List Int) : Prop := xb_get A mm = some (.inr (5, [.ref bb, .int (Int32.ofInt kd)])) ∧ ybl A bb v n L ∧ (16 ≤ n ∧ n ≤ 60) ∧ 64 ≤ mm
theorem ymm_keep {A A' : xb_H} {mm bb v n : Nat} {kd : Int} {L : List Int} (h : ymm A mm bb kd v n L) (hk : ∀ y o, y = mm ∨ y = bb ∨ y = v → xb_get A y = some o → xb_get A' y = some o) : ymm A' mm bb kd v n L :=
  ⟨hk _ _ (Or.inl rfl) h.1, ybl_keep h.2.1 (fun y o hy => hk y o (Or.inr hy)), h.2.2⟩
/-- steps that a place can have -/
def xok (l : List Int) : Prop := ∀ i : Nat, i < l.length → (0 ≤ l.getD i 0 ∧ l.getD i 0 ≤ 99) ∨ (1000 ≤ l.getD i 0 ∧ l.getD i 0 ≤ 1127)
theorem ms_178 {w : Value} {d : Nat} {A : xb_H} {mm bb v n pa ro rm : Nat} {kd kd2 : Int} {L l : List Int} (hm : ymm A mm bb kd v n L) (hp : ypa A pa ro rm l) (hs : xok l) (hl5 : l.length ≤ 5) (hk3 : yk3 A) : xr_ok (xt_G w) (d + 1 + 1 + 1 + 1 + 1 + 1 + 1) 178 0 [(0, .ref mm), (1, .int (Int32.ofInt kd2)), (2, .ref pa)] [] A (fun o A' => ∃ v0, o = .inl v0 ∧ v0 = none ∧ ∃ v' n' : Nat, ymm A' mm bb kd2 v' n' (36 :: xwP l) ∧ ypa A' pa ro rm l ∧ yfr A A' [mm, bb, v] 1 60 ∧ (v' = v ∨ (A.1 ≤ v' ∧ v' < A'.1))) := by
  obtain ⟨h1, h2, h3, h4⟩ := hm
  have hll := ybl_lt h2
  have hmm := xb_get_lt h1
  have hne : ¬ bb = mm ∧ ¬ v = mm := by
    obtain ⟨m, f, ⟨b1, b2, -⟩, -⟩ := h2
    refine ⟨fun e => ?_, fun e => ?_⟩
    · rw [e, h1] at b1; cases b1
    · rw [e, h1] at b2; cases b2
  have hpm : ¬ pa = mm ∧ ¬ ro = mm := by
    obtain ⟨g, p1, p2, -⟩ := hp
    refine ⟨fun e => ?_, fun e => ?_⟩
    · rw [e, h1] at p1; cases p1
    · rw [e, h1] at p2; cases p2
  refine xr_steps (pc' := 2) (L' := [(0, .ref mm), (1, .int (Int32.ofInt kd2)), (2, .ref pa)]) (st' := [.int (Int32.ofInt kd2), .ref mm]) 2 rfl ?_
  obtain ⟨A1, e1⟩ : ∃ A0, xb_set A mm (.inr (5, [.ref bb, .int (Int32.ofInt kd2)])) = A0 := ⟨_, rfl⟩
  refine xr_putf (t := .int) rfl h1 h4 (Nat.le_of_ble_eq_true rfl) rfl (xr_fitI _) (xr_heap e1 ?_)
  have g1 := xr_mv e1 (xb_get_set_same (o := .inr (5, [.ref bb, .int (Int32.ofInt kd2)])) h1)
  have fr1 : yfr A A1 [mm] 0 0 := by rw [← e1]; exact yfr_set h1 (List.mem_singleton.mpr rfl) 0 0
  have b1 := ybl_fr h2 fr1 (by rw [List.mem_singleton]; exact hne.1) (by rw [List.mem_singleton]; exact hne.2)
  have p1 := ypa_fr hp fr1 (by rw [List.mem_singleton]; exact hpm.1) (by rw [List.mem_singleton]; exact hpm.2)
  have k1 := yk3_fr hk3 fr1 (fun x hx => by rw [List.mem_singleton] at hx; omega)
  have c1 := b1.choose_spec.choose_spec.1.1
  refine xr_steps (pc' := 6) (L' := [(0, .ref mm), (1, .int (Int32.ofInt kd2)), (2, .ref pa)]) (st' := [.ref mm]) 1 rfl ?_
  refine xr_getf (v := .ref bb) rfl g1 rfl ?_
  refine xr_steps (pc' := 10) (L' := [(0, .ref mm), (1, .int (Int32.ofInt kd2)), (2, .ref pa)]) (st' := [.int (Int32.ofInt 0), .ref bb]) 1 rfl ?_
  refine xr_call (q := (.invokevirtual 22, 3, 59, 2)) (av := [.ref bb, .int (Int32.ofInt 0)]) (rest := []) rfl rfl (by decide) rfl (xr_rcv rfl c1) (Nat.le_of_ble_eq_true rfl) (mk_59 b1.choose_spec.choose_spec.1) ?_
  rintro _ A2 ⟨rfl, ⟨m2, y2⟩, fr2, n2⟩
  have b2 : ybl A2 bb v n [] := ⟨m2, _, y2, fun j hj => absurd hj (Nat.not_lt_zero _)⟩
  have g2 := yfr_get fr2 g1 (by rw [List.mem_singleton]; exact fun e => hne.1 e.symm)
  have hpb := ypa_bl p1 b1
  have p2 := ypa_fr p1 fr2 (by rw [List.mem_singleton]; exact fun e => hpb.1 (by rw [e]; exact List.mem_cons_self)) (by rw [List.mem_singleton]; exact fun e => hpb.2 (by rw [e]; exact List.mem_cons_self))
  have k2 := yk3_fr k1 fr2 (fun x hx => by rw [List.mem_singleton] at hx; omega)
  refine xr_steps (pc' := 15) (L' := [(0, .ref mm), (1, .int (Int32.ofInt kd2)), (2, .ref pa)]) (st' := [.ref mm, .ref pa]) 2 rfl ?_
  refine xr_getf (v := .ref bb) rfl g2 rfl ?_
  refine xr_call (q := (.invokevirtual 26, 3, 179, 2)) (av := [.ref pa, .ref bb]) (rest := []) rfl rfl (by decide) rfl (xr_rcv rfl p2.choose_spec.1) (Nat.le_of_ble_eq_true rfl) (mb_179 hs hl5 b2 p2 k2 h3.1) ?_
  rintro _ A3 ⟨rfl, v', n', bg⟩
  obtain ⟨q1, q2, q3, q4, q5⟩ := id bg
  have hw := xwP_len l
  have hpb2 := ypa_bl p2 b2
  have p3 := ypa_fr p2 q2 hpb2.1 hpb2.2
  have g3 := yfr_get q2 g2 (by simp only [List.mem_cons, List.not_mem_nil, or_false]; omega)
  rw [List.length_cons] at q4
  have nA1 := fr1.1
  have nA2 := fr2.1
  refine xr_retN rfl rfl ⟨_, rfl, rfl, v', n', ⟨g3, q1, by omega, h4⟩, p3, ?_, ?_⟩
  · refine yfr_mono (yfr_trans (yfr_trans (yfr_mono fr1 (N := [mm, bb, v]) (p' := 0) (q' := 0) (fun x hx => Or.inl ?_) (Nat.le_refl _) (Nat.le_refl _)) fr2 (fun x hx => Or.inl ?_)) q2 (fun x hx => Or.inl ?_)) (fun x hx => Or.inl hx) (by omega) (by omega)
    · rw [List.mem_singleton] at hx; simp only [List.mem_cons, List.not_mem_nil, or_false]; omega
    · rw [List.mem_singleton] at hx; simp only [List.mem_cons, List.not_mem_nil, or_false]; omega
    · simp only [List.mem_cons, List.not_mem_nil, or_false] at hx ⊢; omega
  · omega
/-- the thirty mismatches: those of es stand in them -/
def yml (A : xb_H) (P : Nat → Prop) (vv : Nat → Nat) (es : List (Int × List Int)) : Prop := (∃ fm : Nat → Option Nat, xb_get A 74 = some (.inl (.object "ContractDesk$Mismatch", 30, .inr (.inr fm))) ∧ ∀ k : Nat, k < 30 → fm k = some (75 + 3 * k)) ∧ (∀ k : Nat, k < 30 → ∃ (kd : Int) (n : Nat) (L : List Int), ymm A (75 + 3 * k) (76 + 3 * k) kd (vv k) n L ∧ ∀ e, es[k]? = some e → kd = e.1 ∧ L = 36 :: xwP e.2) ∧ (∀ k : Nat, k < 30 → ¬ P (vv k) ∧ (vv k = 77 + 3 * k ∨ 194 ≤ vv k)) ∧ ∀ k k' : Nat, k < 30 → k' < 30 → vv k = vv k' → k = k'
/-- a comparison under way: B is where its cells begin, P what stays -/
def ycs (A : xb_H) (B : Nat) (P : Nat → Prop) (vv : Nat → Nat) (ir : Value) (es : List (Int × List Int)) (l : List Int) : Prop := (194 ≤ B ∧ B ≤ A.1) ∧ xb_get A 71 = some (.inr (1, [.ref 72, .ref 74, .int (Int32.ofInt (es.length : Int)), ir])) ∧ ypa A 72 73 5 l ∧ yml A P vv es ∧ yk2 A ∧ yk3 A
/-- what stays, and what is taken -/
def ykp (A A' : xb_H) (P : Nat → Prop) (p q : Nat) : Prop := (A.1 ≤ A'.1 ∧ A'.1 ≤ A.1 + p) ∧ (A.2.1 ≤ A'.2.1 ∧ A'.2.1 ≤ A.2.1 + q) ∧ ∀ y o, P y → xb_get A y = some o → xb_get A' y = some o
theorem ykp_trans {A B C : xb_H} {P : Nat → Prop} {p q p' q' : Nat} (h1 : ykp A B P p q) (h2 : ykp B C P p' q') : ykp A C P (p + p') (q + q') := by
  obtain ⟨a1, a2, a3⟩ := h1
  obtain ⟨b1, b2, b3⟩ := h2
  exact ⟨by omega, by omega, fun y o hy h => b3 y o hy (a3 y o hy h)⟩
theorem ykp_refl (A : xb_H) (P : Nat → Prop) : ykp A A P 0 0 := ⟨by omega, by omega, fun _ _ _ h => h⟩
theorem ykp_mono {A B : xb_H} {P : Nat → Prop} {p q p' q' : Nat} (h : ykp A B P p q) (hp : p ≤ p') (hq : q ≤ q') : ykp A B P p' q' := by
  obtain ⟨a1, a2, a3⟩ := h
  exact ⟨by omega, by omega, a3⟩
theorem ykp_fr {A B : xb_H} {P : Nat → Prop} {M : List Nat} {p q : Nat} (h : yfr A B M p q) (hM : ∀ y ∈ M, ¬ P y) : ykp A B P p q := by
  obtain ⟨a1, a2, a3⟩ := id h
  exact ⟨a1, a2, fun y o hy hg => yfr_get h hg (fun hm => hM y hm hy)⟩
/-- how many of a list are listed -/
def xmn (es : List (Int × List Int)) : Nat := min 30 es.length
/-- what a step of a comparison does: es1 are added -/
def yco (A A' : xb_H) (B : Nat) (P : Nat → Prop) (ir : Value) (es es1 : List (Int × List Int)) (l : List Int) : Prop := ∃ vv : Nat → Nat, ycs A' B P vv ir (es ++ es1) l ∧ ykp A A' P (xmn (es ++ es1) - xmn es) (60 * (xmn (es ++ es1) - xmn es))
theorem yco_trans {A A1 A2 : xb_H} {B : Nat} {P : Nat → Prop} {ir : Value} {es es1 es2 : List (Int × List Int)} {l : List Int} (h1 : yco A A1 B P ir es es1 l) (h2 : yco A1 A2 B P ir (es ++ es1) es2 l) : yco A A2 B P ir es (es1 ++ es2) l := by
  obtain ⟨vv1, a1, a2⟩ := h1
  obtain ⟨vv2, b1, b2⟩ := h2
  rw [List.append_assoc] at b1 b2
  refine ⟨vv2, b1, ykp_mono (ykp_trans a2 b2) ?_ ?_⟩
  · unfold xmn; simp only [List.length_append]; omega
  · unfold xmn; simp only [List.length_append]; omega
/-! Comparison.note -/
theorem yml_fr {A A' : xb_H} {P : Nat → Prop} {vv : Nat → Nat} {es : List (Int × List Int)} {M : List Nat} {p q : Nat} (h : yml A P vv es) (hf : yfr A A' M p q) (hM : ∀ y ∈ M, ¬ (74 ≤ y ∧ y < 165) ∧ ∀ k : Nat, k < 30 → ¬ y = vv k) : yml A' P vv es := by
  obtain ⟨⟨fm, h1, h2⟩, h3, h4, h5⟩ := h
  refine ⟨⟨fm, yfr_get hf h1 (fun hm => (hM _ hm).1 (by omega)), h2⟩, fun k hk => ?_, h4, h5⟩
  obtain ⟨kd, n, L, e1, e2⟩ := h3 k hk
  refine ⟨kd, n, L, ymm_keep e1 (fun y o hy hg => yfr_get hf hg (fun hm => ?_)), e2⟩
  rcases hy with rfl | rfl | rfl
  · exact (hM _ hm).1 (by omega)
  · exact (hM _ hm).1 (by omega)
  · exact (hM _ hm).2 k hk rfl
theorem mn_177e {w : Value} {d : Nat} {A A0 : xb_H} {B : Nat} {P : Nat → Prop} {vv : Nat → Nat} {x : Nat} {es : List (Int × List Int)} {l : List Int} {kd : Int} {p q : Nat} (hP : ∀ y, P y → y < B ∧ (y < 71 ∨ 165 ≤ y)) (hB : 194 ≤ B ∧ B ≤ A.1) (h71 : xb_get A 71 = some (.inr (1, [.ref 72, .ref 74, .int (Int32.ofInt (es.length : Int)), .ref x]))) (hp : ypa A 72 73 5 l) (hm : yml A P vv (es ++ [(kd, l)])) (hk2 : yk2 A) (hk3 : yk3 A) (h0 : ykp A0 A P p q) (hpq : p ≤ xmn (es ++ [(kd, l)]) - xmn es ∧ q ≤ 60 * (xmn (es ++ [(kd, l)]) - xmn es)) : xr_ok (xt_G w) d 177 26 [(0, .ref 71), (1, .int (Int32.ofInt kd))] [] A (fun o A' => ∃ v0, o = .inl v0 ∧ v0 = none ∧ yco A0 A' B P (.ref x) es [(kd, l)] l) := by
  refine xr_steps (pc' := 28) (L' := [(0, .ref 71), (1, .int (Int32.ofInt kd))]) (st' := [.ref 71, .ref 71]) 2 rfl ?_
  refine xr_getf (v := .int (Int32.ofInt (es.length : Int))) rfl h71 rfl ?_
  refine xr_steps (pc' := 32) (L' := [(0, .ref 71), (1, .int (Int32.ofInt kd))]) (st' := [.int (Int32.ofInt 1), .int (Int32.ofInt (es.length : Int)), .ref 71]) 1 rfl ?_
  refine xr_iadd rfl ?_
  have el : (es.length : Int) + 1 = ((es ++ [(kd, l)]).length : Int) := by rw [List.length_append, List.length_singleton]; omega
  rw [el]
  obtain ⟨A3, e3⟩ : ∃ A3, xb_set A 71 (.inr (1, [.ref 72, .ref 74, .int (Int32.ofInt ((es ++ [(kd, l)]).length : Int)), .ref x])) = A3 := ⟨_, rfl⟩
  refine xr_putf (t := .int) rfl h71 (by decide) (Nat.le_of_ble_eq_true rfl) rfl (xr_fitI _) (xr_heap e3 ?_)
  have g3 := xr_mv e3 (xb_get_set_same (o := .inr (1, [.ref 72, .ref 74, .int (Int32.ofInt ((es ++ [(kd, l)]).length : Int)), .ref x])) h71)
  have fr3 : yfr A A3 [71] 0 0 := by rw [← e3]; exact yfr_set h71 (List.mem_singleton.mpr rfl) 0 0
  have n3 := fr3.1
  refine xr_retN rfl rfl ⟨_, rfl, rfl, vv, ⟨by omega, g3, ypa_fr hp fr3 (by decide) (by decide), yml_fr hm fr3 (fun y hy => ?_), yk2_fr hk2 fr3 (fun y hy => by rw [List.mem_singleton] at hy; omega), yk3_fr hk3 fr3 (fun y hy => by rw [List.mem_singleton] at hy; omega)⟩, ykp_mono (ykp_trans h0 (ykp_fr fr3 (fun y hy hh => ?_))) (by omega) (by omega)⟩
  · rw [List.mem_singleton] at hy
    refine ⟨by omega, fun k hk e => ?_⟩
    have := (hm.2.2.1 k hk).2
    omega
  · rw [List.mem_singleton] at hy
    have := hP y hh
    omega
theorem mn_177 {w : Value} {d : Nat} {A : xb_H} {B : Nat} {P : Nat → Prop} {vv : Nat → Nat} {x : Nat} {es : List (Int × List Int)} {l : List Int} {kd : Int} (hP : ∀ y, P y → y < B ∧ (y < 71 ∨ 165 ≤ y)) (h : ycs A B P vv (.ref x) es l) (hs : xok l) (hle : es.length ≤ 100000) : xr_ok (xt_G w) (d + 1 + 1 + 1 + 1 + 1 + 1 + 1 + 1) 177 0 [(0, .ref 71), (1, .int (Int32.ofInt kd))] [] A (fun o A' => ∃ v0, o = .inl v0 ∧ v0 = none ∧ yco A A' B P (.ref x) es [(kd, l)] l) := by
  obtain ⟨hB, h71, hp, hm, hk2, hk3⟩ := h
  have hl5 : l.length ≤ 5 := hp.choose_spec.2.2.2.1.1
  refine xr_steps (pc' := 1) (L' := [(0, .ref 71), (1, .int (Int32.ofInt kd))]) (st' := [.ref 71]) 1 rfl ?_
  refine xr_getf (v := .int (Int32.ofInt (es.length : Int))) rfl h71 rfl ?_
  refine xr_steps (pc' := 6) (L' := [(0, .ref 71), (1, .int (Int32.ofInt kd))]) (st' := [.int (Int32.ofInt 30), .int (Int32.ofInt (es.length : Int))]) 1 rfl ?_
  refine xr_icmp_ge rfl (by omega) (by omega) (fun h30 => ?_) (fun h30 => ?_)
  · obtain ⟨⟨fm, m1, m2⟩, m3, m4, m5⟩ := hm
    refine mn_177e hP hB h71 hp ⟨⟨fm, m1, m2⟩, fun k hk => ?_, m4, m5⟩ hk2 hk3 (ykp_refl A P) (by omega)
    obtain ⟨kd', n, L, e1, e2⟩ := m3 k hk
    refine ⟨kd', n, L, e1, fun e he => e2 e ?_⟩
    rw [List.getElem?_append_left (by omega)] at he
    exact he
  · obtain ⟨⟨fm, m1, m2⟩, m3, m4, m5⟩ := id hm
    obtain ⟨k, ek⟩ : ∃ k : Nat, k = es.length := ⟨_, rfl⟩
    have hk : k < 30 := by omega
    obtain ⟨kd0, n0, L0, e1, e2⟩ := m3 k hk
    have hvk := (m4 k hk).2
    refine xr_steps (pc' := 10) (L' := [(0, .ref 71), (1, .int (Int32.ofInt kd))]) (st' := [.ref 71]) 1 rfl ?_
    refine xr_getf (v := .ref 74) rfl h71 rfl ?_
    refine xr_steps (pc' := 14) (L' := [(0, .ref 71), (1, .int (Int32.ofInt kd))]) (st' := [.ref 71, .ref 74]) 1 rfl ?_
    refine xr_getf (v := .int (Int32.ofInt (es.length : Int))) rfl h71 rfl ?_
    refine xr_aaload (v := .ref (75 + 3 * k)) rfl m1 (by omega) (by omega) (by omega) (by rw [Int.toNat_natCast, ← ek, m2 k hk]; rfl) ?_
    refine xr_steps (pc' := 20) (L' := [(0, .ref 71), (1, .int (Int32.ofInt kd))]) (st' := [.ref 71, .int (Int32.ofInt kd), .ref (75 + 3 * k)]) 2 rfl ?_
    refine xr_getf (v := .ref 72) rfl h71 rfl ?_
    refine xr_call (q := (.invokevirtual 52, 3, 178, 3)) (av := [.ref (75 + 3 * k), .int (Int32.ofInt kd), .ref 72]) (rest := []) rfl rfl (by decide) rfl (xr_rcv rfl e1.1) (Nat.le_of_ble_eq_true rfl) (ms_178 (kd2 := kd) e1 hp hs hl5 hk3) ?_
    rintro _ A1 ⟨rfl, v', n', q1, q2, fr, q3⟩
    have nA := fr.1
    have hM : ∀ y ∈ [75 + 3 * k, 76 + 3 * k, vv k], 64 ≤ y ∧ (74 < y) := by
      intro y hy
      simp only [List.mem_cons, List.not_mem_nil, or_false] at hy
      omega
    have h71' := yfr_get fr h71 (fun hm => by have := (hM _ hm).2; omega)
    refine mn_177e (vv := va_up vv k v') hP (by omega) h71' q2 ⟨⟨fm, yfr_get fr m1 (fun hm => by have := (hM _ hm).2; omega), m2⟩, fun j hj => ?_, fun j hj => ?_, fun j j' hj hj' e => ?_⟩ (yk2_fr hk2 fr (fun y hy => (hM y hy).1)) (yk3_fr hk3 fr (fun y hy => (hM y hy).1)) (ykp_fr fr (fun y hy hh => ?_)) ?_
    · by_cases ej : j = k
      · rw [ej, ya_up_same]
        refine ⟨kd, n', _, q1, fun e he => ?_⟩
        rw [ek, List.getElem?_append_right (Nat.le_refl _), Nat.sub_self] at he
        cases he
        exact ⟨rfl, rfl⟩
      · rw [ya_up_ne _ _ ej]
        obtain ⟨kd', n, L, f1, f2⟩ := m3 j hj
        have hvj := (m4 j hj).2
        have hd : ¬ vv j = vv k := fun e => ej (m5 j k hj hk e)
        refine ⟨kd', n, L, ymm_keep f1 (fun y o hy hg => yfr_get fr hg (fun hm => ?_)), fun e he => f2 e ?_⟩
        · simp only [List.mem_cons, List.not_mem_nil, or_false] at hm
          omega
        · by_cases hj2 : j < es.length
          · rw [List.getElem?_append_left hj2] at he
            exact he
          · have := (List.getElem?_eq_some_iff.mp he).1
            rw [List.length_append, List.length_singleton] at this
            omega
    · by_cases ej : j = k
      · rw [ej, ya_up_same]
        refine ⟨fun hh => ?_, by omega⟩
        rcases q3 with q3 | q3
        · rw [q3] at hh; exact (m4 k hk).1 hh
        · have := hP _ hh; omega
      · rw [ya_up_ne _ _ ej]; exact m4 j hj
    · have hlt : ∀ i, i < 30 → vv i < A.1 := fun i hi => by
        obtain ⟨kd', n, L, f1, f2⟩ := m3 i hi
        exact (ybl_lt f1.2.1).2.1
      have l1 := hlt j hj
      have l2 := hlt j' hj'
      by_cases ej : j = k <;> by_cases ej' : j' = k
      · omega
      · rw [ej, ya_up_same, ya_up_ne _ _ ej'] at e
        rcases q3 with q3 | q3
        · rw [q3] at e; have := m5 k j' hk hj' e; omega
        · omega
      · rw [ej', ya_up_same, ya_up_ne _ _ ej] at e
        rcases q3 with q3 | q3
        · rw [q3] at e; have := m5 j k hj hk e; omega
        · omega
      · rw [ya_up_ne _ _ ej, ya_up_ne _ _ ej'] at e
        exact m5 j j' hj hj' e
    · simp only [List.mem_cons, List.not_mem_nil, or_false] at hy
      rcases hy with rfl | rfl | rfl
      · have := hP _ hh; omega
      · have := hP _ hh; omega
      · exact (m4 k hk).1 hh
    · unfold xmn
      rw [List.length_append, List.length_singleton]
      omega
/-! What a comparison finds -/
def xel {α : Type} (g : α → α → List Int → List (Int × List Int)) (ps : List (Int × α)) (lo : Bool) (l : List Int) : List (Int × α) → Nat → List (Int × List Int)
  | [], _ => []
  | q :: us, i => (match ps[(if lo = true ∧ ps.length ≤ i then ps.length - 1 else i)]? with
    | none => []
    | some p => g p.2 q.2 (l ++ [(i : Int)])) ++ xel g ps lo l us (i + 1)
def xme {α : Type} (g : α → α → List Int → List (Int × List Int)) (us : List (Int × α)) (l : List Int) : List (Int × α) → List (Int × List Int)
  | [] => []
  | p :: ps => (match xmem us p.1 with
    | none => [(3, l ++ [1000 + p.1])]
    | some v => g p.2 v (l ++ [1000 + p.1])) ++ xme g us l ps
def xun {α : Type} (ps : List (Int × α)) (l : List Int) : List (Int × α) → List (Int × List Int)
  | [] => []
  | q :: us => (match xmem ps q.1 with
    | none => [(4, l ++ [1000 + q.1])]
    | some _ => []) ++ xun ps l us
/-- the mismatches of the expected t and the actual u at the place l; sl says whether a rule is selected there, H what the rule or the value says: 0 it does not match, 3 it matches loosely -/
def xcm (sl : List Int → Bool) (H : (n : Nat) → xv (n + 1) → xv (n + 1) → List Int → Nat) (st : Int) : (n : Nat) → xv n → xv n → List Int → List (Int × List Int)
  | 0, _, _, _ => []
  | n + 1, t, u, l => if H n t u l = 0 then [(if sl l = true then 5 else 1, l)] else if xv_k t = 4 ∧ xv_k u = 4 then (if ¬ H n t u l = 3 ∧ ¬ (xv_p t).length = (xv_p u).length then [(2, l)] else []) ++ xel (xcm sl H st n) (xv_p t) (decide (H n t u l = 3)) l (xv_p u) 0 else if xv_k t = 5 ∧ xv_k u = 5 then xme (xcm sl H st n) (xv_p u) l (xv_p t) ++ (if st = 1 then xun (xv_p t) l (xv_p u) else []) else []
/-- what sl and H have to be for rules rs -/
def xSL (rs : List (List Int × List (Int × Int × List Int) × Int)) (sl : List Int → Bool) : Prop := ∀ l : List Int, ∃ b : Int, xBS (rs.map fun r => r.1) l rs.length b ∧ (sl l = true ↔ ¬ b = -1)
def xHO (rs : List (List Int × List (Int × Int × List Int) × Int)) (H : (n : Nat) → xv (n + 1) → xv (n + 1) → List Int → Nat) : Prop := ∀ (n : Nat) (t u : xv (n + 1)) (l : List Int) (b : Int), xBS (rs.map fun r => r.1) l rs.length b → (b = -1 → (H n t u l = 0 ∨ H n t u l = 1) ∧ (H n t u l = 1 ↔ (xv_k t = xv_k u ∧ xv_l t = xv_l u))) ∧ ∀ r, 0 ≤ b → rs[b.toNat]? = some r → (H n t u l = 0 ∨ H n t u l = 1 ∨ H n t u l = 3) ∧ (¬ H n t u l = 0 ↔ xRH n r.2.1 r.2.2 t u) ∧ (¬ H n t u l = 0 → (H n t u l = 3 ↔ ∃ m ∈ r.2.1, xlo m))
section TR
variable {w : Value} {d : Nat} {A : xb_H} {n a : Nat} {P : Nat → Prop} {k : Int} {t : xv (n + 1)}
theorem mt_149 (h : yt A P (n + 1) a k t) : xr_ok (xt_G w) (d + 1) 149 0 [(0, .ref a)] [] A (fun o A' => ∃ v0, o = .inl v0 ∧ v0 = some (.int (Int32.ofInt ((xv_p t).length : Int))) ∧ A' = A) := by
  obtain ⟨sa, v, la, ed, cap, f, as, q1, q2, q3, q4, q5, q6⟩ := yt_part h
  rw [← q5]
  exact mv_149 q1 q4
theorem mt_150 {i : Int} (h : yt A P (n + 1) a k t) (hw : xwf (n + 1) t) (hi : -1 ≤ i ∧ i ≤ 1000) : xr_ok (xt_G w) (d + 1 + 1 + 1) 150 0 [(0, .ref a), (1, .int (Int32.ofInt i))] [] A (fun o A' => ∃ v0, o = .inl v0 ∧ ((∃ (q : Int × xv n) (x : Nat), 0 ≤ i ∧ (xv_p t)[i.toNat]? = some q ∧ v0 = some (.ref x) ∧ yt A P n x q.1 q.2 ∧ A' = A) ∨ (v0 = some .null ∧ (i < 0 ∨ ((xv_p t).length : Int) ≤ i) ∧ A' = A))) := by
  obtain ⟨sa, v, la, ed, cap, f, as, q1, q2, q3, q4, q5, q6⟩ := yt_part h
  by_cases h0 : 0 ≤ i
  · obtain ⟨j, rfl⟩ : ∃ j : Nat, i = (j : Int) := ⟨i.toNat, by omega⟩
    by_cases hj : j < (xv_p t).length
    · obtain ⟨x, hx⟩ : ∃ x, as[j]? = some x := ⟨_, List.getElem?_eq_getElem (by omega)⟩
      obtain ⟨q, hq⟩ : ∃ q, (xv_p t)[j]? = some q := ⟨_, List.getElem?_eq_getElem hj⟩
      have hy := q6 j x q hx hq
      obtain ⟨fs, hc, -⟩ := yt_cell hy
      refine xr_conseq (mv_150 q1 q4 hx hc) ?_
      rintro o A' ⟨v0, e1, e2, e3⟩
      exact ⟨v0, e1, Or.inl ⟨q, x, h0, hq, e2, hy, e3⟩⟩
    · refine xr_conseq (mv_150n q1 q4 (by omega)) ?_
      rintro o A' ⟨v0, e1, e2, e3⟩
      exact ⟨v0, e1, Or.inr ⟨e2, Or.inr (by omega), e3⟩⟩
  · refine xr_steps (pc' := 1) (L' := [(0, .ref a), (1, .int (Int32.ofInt i))]) (st' := [.int (Int32.ofInt i)]) 1 rfl ?_
    refine xr_if_lt rfl (by omega) (fun _ => ?_) (fun h => absurd h (by omega))
    refine xr_steps (L' := [(0, .ref a), (1, .int (Int32.ofInt i))]) (st' := [.null]) 1 rfl ?_
    exact xr_retNull rfl rfl ⟨_, rfl, Or.inr ⟨rfl, Or.inl (by omega), rfl⟩⟩
theorem mt_126 {c : Int} (h : yt A P (n + 1) a k t) (hw : xwf (n + 1) t) (hc : 0 ≤ c ∧ c ≤ 127) : xr_ok (xt_G w) (d + 1 + 1 + 1) 126 0 [(0, .ref a), (1, .int (Int32.ofInt c))] [] A (fun o A' => ∃ v0, o = .inl v0 ∧ ((∃ (q : xv n) (x : Nat), xmem (xv_p t) c = some q ∧ v0 = some (.ref x) ∧ yt A P n x c q ∧ A' = A) ∨ (v0 = some .null ∧ xmem (xv_p t) c = none ∧ A' = A))) := by
  obtain ⟨sa, v, la, ed, cap, f, as, q1, q2, q3, q4, q5, q6⟩ := yt_part h
  refine xr_conseq (mv_126 (ks := (xv_p t).map fun q => q.1) hc q1 rfl q4 (by rw [List.length_map, q5]) (yt_keys hw.2.2.2.2.2.2 q6)) ?_
  rintro o A' ⟨v0, e1, e2, e3⟩
  rcases xfnd_mem (xv_p t) as c q5 q6 with ⟨f1, f2⟩ | ⟨x, u, f1, f2, f3⟩
  · rw [f1] at e2
    exact ⟨v0, e1, Or.inr ⟨e2, f2, e3⟩⟩
  · rw [f1] at e2
    exact ⟨v0, e1, Or.inl ⟨u, x, f2, e2, f3, e3⟩⟩
theorem mt_200 (h : yt A P (n + 1) a k t) (hk : 0 ≤ k ∧ k ≤ 127) : xr_ok (xt_G w) d 200 0 [(0, .ref a)] [] A (fun o A' => ∃ v0, o = .inl v0 ∧ v0 = some (.int (Int32.ofInt k)) ∧ A' = A) := by
  obtain ⟨sa, v, la, ed, cap, f, as, q1, -⟩ := yt_part h
  exact mv_200 q1 hk
theorem mt_189 (h : yt A P (n + 1) a k t) : xr_ok (xt_G w) d 189 0 [(0, .ref a)] [] A (fun o A' => ∃ v0, o = .inl v0 ∧ v0 = some (.ref (xv_k t)) ∧ A' = A) := by
  obtain ⟨sa, v, la, ed, cap, f, as, q1, -⟩ := yt_part h
  exact mv_189 q1
theorem yt_obj (h : yt A P (n + 1) a k t) : ∃ fs, xb_get A a = some (.inr (9, fs)) := by
  obtain ⟨sa, v, la, ed, cap, f, as, q1, -⟩ := yt_part h
  exact ⟨_, q1⟩
end TR
section CP
variable {A A' A1 A2 A3 : xb_H} {B : Nat} {P : Nat → Prop} {vv : Nat → Nat} {ir : Value} {es e1 : List (Int × List Int)} {l l' l1 : List Int}
theorem ycs_path (h : ycs A B P vv ir es l) (hp : ypa A' 72 73 5 l') (hf : yfr A A' [72, 73] 0 0) : ycs A' B P vv ir es l' := by
  obtain ⟨h1, h2, h3, h4, h5, h6⟩ := h
  have hM : ∀ y ∈ [72, 73], 64 ≤ y ∧ y < 74 := by decide
  have n1 := hf.1
  refine ⟨by omega, yfr_get hf h2 (by decide), hp, yml_fr h4 hf (fun y hy => ?_), yk2_fr h5 hf (fun y hy => (hM y hy).1), yk3_fr h6 hf (fun y hy => (hM y hy).1)⟩
  have := hM y hy
  refine ⟨by omega, fun k hk e => ?_⟩
  have := (h4.2.2.1 k hk).2
  omega
theorem ykp_path (hP : ∀ y, P y → y < B ∧ (y < 71 ∨ 165 ≤ y)) (hf : yfr A A' [72, 73] 0 0) : ykp A A' P 0 0 := by
  have hM : ∀ y ∈ [72, 73], 71 ≤ y ∧ y < 74 := by decide
  exact ykp_fr hf (fun y hy hh => by have := hM y hy; have := hP y hh; omega)
theorem yco_in (hP : ∀ y, P y → y < B ∧ (y < 71 ∨ 165 ≤ y)) (f1 : yfr A A1 [72, 73] 0 0) (h2 : yco A1 A2 B P ir es e1 l1) (f2 : yfr A2 A3 [72, 73] 0 0) (hp : ypa A3 72 73 5 l) : yco A A3 B P ir es e1 l := by
  obtain ⟨vv2, a1, a2⟩ := h2
  exact ⟨vv2, ycs_path a1 hp f2, ykp_mono (ykp_trans (ykp_trans (ykp_path hP f1) a2) (ykp_path hP f2)) (by omega) (by omega)⟩
theorem yco_nil (h : ycs A B P vv ir es l) : yco A A B P ir es [] l := by
  refine ⟨vv, ?_, ykp_mono (ykp_refl A P) (Nat.zero_le _) (Nat.zero_le _)⟩
  rw [List.append_nil]
  exact h
end CP
theorem xok_app {l : List Int} {s : Int} (h : xok l) (hs : (0 ≤ s ∧ s ≤ 99) ∨ (1000 ≤ s ∧ s ≤ 1127)) : xok (l ++ [s]) := by
  intro i hi
  rw [xl_snoc l s i hi]
  by_cases e : i = l.length
  · rw [if_pos e]; exact hs
  · rw [if_neg e]
    rw [List.length_append, List.length_singleton] at hi
    exact h i (by omega)
