/-! A rule is read -/
theorem mr_154 {w : Value} {d : Nat} {A : xb_H} {ru pa : Nat} (h1 : xb_get A ru = some (.inr (7, [.null, .null, .int (Int32.ofInt 0), .int (Int32.ofInt 0)]))) (hz : 64 ≤ ru) : xr_ok (xt_G w) (d + 1 + 1 + 1 + 1) 154 0 [(0, .ref ru), (1, .ref pa)] [] A (fun o A' => ∃ v0, o = .inl v0 ∧ v0 = none ∧ xb_get A' ru = some (.inr (7, [.ref pa, .ref A.1, .int (Int32.ofInt 0), .int (Int32.ofInt 0)])) ∧ xb_get A' A.1 = some (.inr (13, [.ref 6, .int (Int32.ofInt 0), .int (Int32.ofInt 0)])) ∧ yfr A A' [ru] 1 3 ∧ A'.1 = A.1 + 1) := by
  have hlt := xb_get_lt h1
  have f31 := yfr_refl A [ru] 0 0
  refine xr_steps (pc' := 1) (L' := [(0, .ref ru), (1, .ref pa)]) (st' := [.ref ru]) 1 rfl ?_
  refine xr_objI rfl (by omega) (by decide) ?_
  refine xr_steps (pc' := 6) (L' := [(0, .ref ru), (1, .ref pa)]) (st' := [.ref pa, .ref ru]) 2 rfl ?_
  obtain ⟨A32, eA32⟩ : ∃ A0, xb_set A ru (.inr (7, [.ref pa, .null, .int (Int32.ofInt 0), .int (Int32.ofInt 0)])) = A0 := ⟨_, rfl⟩
  refine xr_putf (t := .object "ContractDesk$Path") rfl h1 (show 64 ≤ ru by omega) (Nat.le_of_ble_eq_true rfl) rfl (xr_fitR _ rfl) (xr_heap eA32 ?_)
  have g33 := xr_mv eA32 (xb_get_set_same h1)
  have nA32 : A32.1 = A.1 := by rw [← eA32]; rfl
  have f34 := yfr_mv eA32 (yfr_step_set f31 h1 (Or.inl (by simp)))
  refine xr_steps (pc' := 10) (L' := [(0, .ref ru), (1, .ref pa)]) (st' := [.ref ru]) 1 rfl ?_
  obtain ⟨A35, eA35⟩ : ∃ A0, xb_new A32 3 (.inr (13, [.null, .int (Int32.ofInt 0), .int (Int32.ofInt 0)])) = A0 := ⟨_, rfl⟩
  refine xr_newO rfl (xr_heap eA35 ?_)
  have g36 := xr_mv eA35 (xb_get_new_old g33)
  have g37 := xr_mv eA35 xb_get_new_same
  have nA35 : A35.1 = A32.1 + 1 := by rw [← eA35]; rfl
  have f38 := yfr_mv eA35 (yfr_step_new f34)
  refine xr_steps (pc' := 14) (L' := [(0, .ref ru), (1, .ref pa)]) (st' := [.ref A32.1, .ref A32.1, .ref ru]) 1 rfl ?_
  refine xr_call (q := (.invokespecial 17, 3, 114, 1)) (av := [.ref A32.1]) (rest := [.ref A32.1, .ref ru]) rfl rfl (by decide) rfl (xr_rcv rfl g37) (Nat.le_of_ble_eq_true rfl) (ma_114 g37 (by omega)) ?_
  rintro _ A9 ⟨rfl, q1, q3, q4⟩
  have gru := yfr_get q3 g36 (by rw [List.mem_singleton]; omega)
  have fr9 := yfr_trans f38 q3 (fun z hz => Or.inr (by rw [List.mem_singleton] at hz; omega))
  obtain ⟨A39, eA39⟩ : ∃ A0, xb_set A9 ru (.inr (7, [.ref pa, .ref A32.1, .int (Int32.ofInt 0), .int (Int32.ofInt 0)])) = A0 := ⟨_, rfl⟩
  refine xr_putf (t := .object "java/util/ArrayList") rfl gru (show 64 ≤ ru by omega) (Nat.le_of_ble_eq_true rfl) rfl (xr_fitR _ rfl) (xr_heap eA39 ?_)
  have g40 := xr_mv eA39 (xb_get_set_same gru)
  have g41 := xr_mv eA39 (xb_get_set_ne gru q1 (by omega))
  have nA39 : A39.1 = A9.1 := by rw [← eA39]; rfl
  have f42 := yfr_mv eA39 (yfr_step_set fr9 gru (Or.inl (by simp)))
  have e1 : A32.1 = A.1 := by omega
  have y1 := g40
  have y2 := g41
  rw [e1] at y1 y2
  exact xr_retN rfl rfl ⟨_, rfl, rfl, y1, y2, yfr_mono f42 (fun z hz => Or.inl hz) (by omega) (by omega), by omega⟩
/-- a rule in the heap: its steps, its matchers, the sign between them -/
def yru (A : xb_H) (P : Nat → Prop) (ru : Nat) (ps : List Int) (ms : List (Int × Int × List Int)) (sp : Int) : Prop := ∃ (pa ro la ed cap : Nat) (one lo : Int) (as : List Nat), xb_get A ru = some (.inr (7, [.ref pa, .ref la, .int (Int32.ofInt one), .int (Int32.ofInt lo)])) ∧ ypa A pa ro 5 ps ∧ yal A la ed cap as ∧ as.length = ms.length ∧ (∀ (i x : Nat) (m : Int × Int × List Int), as[i]? = some x → ms[i]? = some m → ymt A P x m) ∧ (P ru ∧ P pa ∧ P ro ∧ P la ∧ P ed) ∧ one = (if sp = 124 then 1 else 0) ∧ (lo = 0 ∨ lo = 1) ∧ (lo = 1 ↔ ∃ m ∈ ms, xlo m)
theorem yru_keep {A A' : xb_H} {P : Nat → Prop} {ru : Nat} {ps : List Int} {ms : List (Int × Int × List Int)} {sp : Int} (h : yru A P ru ps ms sp) (hk : ∀ x o, P x → xb_get A x = some o → xb_get A' x = some o) : yru A' P ru ps ms sp := by
  obtain ⟨pa, ro, la, ed, cap, one, lo, as, h1, ⟨g, h2, h2b, h2c⟩, ⟨mc, g2, h3, h3b, h3c⟩, h4, h5, ⟨p1, p2, p3, p4, p5⟩, h7⟩ := h
  exact ⟨pa, ro, la, ed, cap, one, lo, as, hk _ _ p1 h1, ⟨g, hk _ _ p2 h2, hk _ _ p3 h2b, h2c⟩, ⟨mc, g2, hk _ _ p4 h3, hk _ _ p5 h3b, h3c⟩, h4, fun i x m hx hm => ymt_keep (h5 i x m hx hm) hk, ⟨p1, p2, p3, p4, p5⟩, h7⟩
/-- the rule that a text is -/
def xRU (n : Nat) (f : Nat → Int) (ps : List Int) (ms : List (Int × Int × List Int)) (sp : Int) : Prop := ∃ q, ye n f 0 = 36 ∧ xsp 1 (ye n f) 5 1 = some (ps, q) ∧ ye n f q = 58 ∧ sp = xs0 (ye n f) (q + 1) ∧ xmq n (ye n f) sp 100 (q + 1) = some ms
theorem mr_153 {w : Value} {d : Nat} {A : xb_H} {cu sa v n : Nat} {f : Nat → Int} (hw : w = .null ∨ w = .ref 19) (hc : ycu A cu sa v n f 0) (hk : yk1 A) : xr_ok (xt_G w) (d + 1 + 1 + 1 + 1 + 1 + 1 + 1 + 1 + 1) 153 0 [(0, .ref cu)] [] A (fun o A' => ∃ v0, o = .inl v0 ∧ yfr A A' [cu] 220 8100 ∧ ((∃ (ru : Nat) (ps : List Int) (ms : List (Int × Int × List Int)) (sp : Int), v0 = some (.ref ru) ∧ yru A' (yP A.1 A'.1 sa v) ru ps ms sp ∧ xRU n f ps ms sp ∧ A.1 ≤ ru ∧ ru < A'.1) ∨ (v0 = some .null ∧ ¬ ∃ (ps : List Int) (ms : List (Int × Int × List Int)) (sp : Int), xRU n f ps ms sp))) := by
  have hcl := ycu_lt hc
  have hcc := hc.2.2
  have hnull : ∀ {A1 : xb_H} {L : xb_L}, yfr A A1 [cu] 220 8100 → (¬ ∃ (ps : List Int) (ms : List (Int × Int × List Int)) (sp : Int), xRU n f ps ms sp) → xr_ok (xt_G w) (d + 1 + 1 + 1 + 1 + 1 + 1 + 1 + 1 + 1) 153 20 L [] A1 (fun o A' => ∃ v0, o = .inl v0 ∧ yfr A A' [cu] 220 8100 ∧ ((∃ (ru : Nat) (ps : List Int) (ms : List (Int × Int × List Int)) (sp : Int), v0 = some (.ref ru) ∧ yru A' (yP A.1 A'.1 sa v) ru ps ms sp ∧ xRU n f ps ms sp ∧ A.1 ≤ ru ∧ ru < A'.1) ∨ (v0 = some .null ∧ ¬ ∃ (ps : List Int) (ms : List (Int × Int × List Int)) (sp : Int), xRU n f ps ms sp))) := by
    intro A1 L h1 h2
    refine xr_steps (pc' := 21) (L' := L) (st' := [.null]) 1 rfl ?_
    exact xr_retNull rfl rfl ⟨_, rfl, h1, Or.inr ⟨rfl, h2⟩⟩
  refine xr_steps (pc' := 3) (L' := [(0, .ref cu)]) (st' := [.int (Int32.ofInt 1), .int (Int32.ofInt ((5 : Nat) : Int)), .ref cu]) 3 rfl ?_
  refine xr_call (q := (.invokestatic 24, 3, 66, 3)) (av := [.ref cu, .int (Int32.ofInt ((5 : Nat) : Int)), .int (Int32.ofInt 1)]) (rest := []) rfl rfl (by decide) rfl rfl (Nat.le_of_ble_eq_true rfl) (mp_66 (rm := 5) hw hc (Or.inr rfl) (by omega)) ?_
  rintro _ A1 ⟨p1, hp1, m1, hcase⟩
  have hA1 := m1.2.1.1
  rcases hcase with ⟨pa, ro, ps, rfl, hpa, hb, hr⟩ | ⟨rfl, hr⟩
  · have h36 : ye n f 0 = 36 := by
      by_cases h : ye n f 0 = 36
      · exact h
      · rw [if_neg h] at hr; cases hr
    rw [if_pos h36] at hr
    refine xr_steps (pc' := 14) (L' := [(1, .ref pa), (0, .ref cu)]) (st' := [.int (Int32.ofInt 58), .ref cu]) 5 rfl ?_
    obtain ⟨b, hbb⟩ := mo_bool (ye n f p1 = 58)
    refine xr_call (q := (.invokevirtual 28, 3, 67, 2)) (av := [.ref cu, .int (Int32.ofInt 58)]) (rest := []) rfl rfl (by decide) rfl (xr_rcv rfl m1.1.1) (Nat.le_of_ble_eq_true rfl) (mk_acc hw m1.1 (by omega) hbb) ?_
    rintro _ A2 ⟨rfl, hcase⟩
    rcases hcase with ⟨rfl, h58, m2⟩ | ⟨rfl, h58, eA⟩
    · refine xr_if_ne rfl (by omega) (fun _ => ?_) (fun h => absurd h (by omega))
      have hA2 := m2.2.1.1
      obtain ⟨A3, e3⟩ : ∃ A0, xb_new A2 4 (.inr (7, [.null, .null, .int (Int32.ofInt 0), .int (Int32.ofInt 0)])) = A0 := ⟨_, rfl⟩
      refine xr_newO rfl (xr_heap e3 ?_)
      have g3 := xr_mv e3 xb_get_new_same
      have n3 : A3.1 = A2.1 + 1 := by rw [← e3]; rfl
      have f3 : yfr A2 A3 [] 1 4 := yfr_mono (yfr_mv e3 (yfr_step_new (yfr_refl A2 [] 0 0))) (fun z hz => Or.inl hz) (by omega) (by omega)
      refine xr_steps (pc' := 27) (L' := [(1, .ref pa), (0, .ref cu)]) (st' := [.ref pa, .ref A2.1, .ref A2.1]) 2 rfl ?_
      refine xr_call (q := (.invokespecial 34, 3, 154, 2)) (av := [.ref A2.1, .ref pa]) (rest := [.ref A2.1]) rfl rfl (by decide) rfl (xr_rcv rfl g3) (Nat.le_of_ble_eq_true rfl) (mr_154 g3 (by omega)) ?_
      rintro _ A4 ⟨rfl, g4, l4, f4, n4⟩
      have m12 := ymv_trans m1 m2
      have f24 : yfr A2 A4 [] 2 7 := yfr_mono (yfr_trans f3 f4 (fun z hz => Or.inr (by rw [List.mem_singleton] at hz; omega))) (fun z hz => Or.inl hz) (by omega) (by omega)
      have m4 := ymv_fr m12 f24
      have hk4 := yk1_mv hk m4
      have hpa4 : ypa A4 pa ro 5 ps := ypa_fr (ypa_fr hpa m2.2 (by rw [List.mem_singleton]; omega) (by rw [List.mem_singleton]; omega)) f24 List.not_mem_nil List.not_mem_nil
      obtain ⟨sp, hsp⟩ : ∃ sp, sp = xs0 (ye n f) (p1 + 1) := ⟨_, rfl⟩
      have hsp2 : sp = 124 ∨ sp = 38 := by
        rw [hsp]
        unfold xs0
        split
        · exact Or.inr rfl
        · split
          · exact Or.inl rfl
          · exact Or.inr rfl
      have hrr : yrr A.1 A4 A4 cu sa v A2.1 pa A3.1 6 0 0 0 [] [] := ⟨g4, ⟨_, _, l4, hk4.2, by omega, Nat.le_refl _, by omega, Or.inl ⟨rfl, rfl⟩, fun j hj => absurd hj (Nat.not_lt_zero _)⟩, rfl, Or.inl rfl, ⟨hcl, by omega, Nat.le_refl _⟩, fun i x m hx => by cases i <;> cases hx⟩
      refine xr_steps (pc' := 33) (L' := [(2, .ref A2.1), (1, .ref pa), (0, .ref cu)]) (st' := [.ref cu, .ref A2.1]) 3 rfl ?_
      have h2 := m4.1.2.2
      refine xr_call (q := (.invokevirtual 37, 3, 155, 2)) (av := [.ref A2.1, .ref cu]) (rest := []) rfl rfl (by decide) rfl (xr_rcv rfl g4) (Nat.le_of_ble_eq_true rfl) (R := fun v0 A' => yrq A.1 A4 A' cu sa v n f (p1 + 1) A2.1 pa A3.1 sp (xmq n (ye n f) sp 100 (p1 + 1)) v0) ?_ ?_
      · refine xr_steps (pc' := 2) (L' := [(2, .int (Int32.ofInt ((0 : Nat) : Int))), (0, .ref A2.1), (1, .ref cu)]) (st' := []) 2 rfl ?_
        refine mr_155l hw hsp2 100 0 (p1 + 1) A4 6 0 0 0 [] [] rfl rfl (by omega) m4.1 hk4 (yfr_refl _ _ _ _) hrr (fun _ => ⟨hsp, rfl⟩) (fun h => absurd h (by omega)) (Or.inl rfl) ⟨fun h => absurd h (by decide), fun ⟨m, hm, _⟩ => absurd hm List.not_mem_nil⟩ ?_
        cases xmq n (ye n f) sp 100 (p1 + 1) <;> rfl
      rintro _ A5 ⟨b, p', rfl, hc5, f5, hres⟩
      have hA5 := f5.1.1
      have fr : yfr A A5 [cu] 220 8100 := yfr_mono (yfr_trans m4.2 f5 (fun z hz => by simp only [List.mem_cons, List.not_mem_nil, or_false] at hz ⊢; omega)) (fun z hz => Or.inl hz) (by omega) (by omega)
      rcases hres with ⟨rfl, ed, cap, one, lo, as, ms, hrr5, hms, ho, hl, hli⟩ | ⟨rfl, hms⟩
      · refine xr_if_eq rfl (by omega) (fun h => absurd h (by omega)) (fun _ => ?_)
        refine xr_steps (pc' := 44) (L' := [(2, .ref A2.1), (1, .ref pa), (0, .ref cu)]) (st' := [.ref A2.1]) 2 rfl ?_
        obtain ⟨c1, c2, c3, c4, c5, c6⟩ := hrr5
        refine xr_retR rfl rfl ⟨_, rfl, fr, Or.inl ⟨A2.1, ps, ms, sp, rfl, ⟨pa, ro, A3.1, ed, cap, one, lo, as, c1, ?_, c2, c3, fun i x m hx hm => ?_, ⟨yP_lo (by omega) (by omega), yP_lo (by omega) (by omega), yP_lo (by omega) (by omega), yP_lo (by omega) (by omega), ?_⟩, ho, hl, hli⟩, ⟨p1, h36, hr, h58, hsp, hms⟩, by omega, by omega⟩⟩
        · exact ypa_fr hpa4 f5 (by simp only [List.mem_cons, List.not_mem_nil, or_false]; omega) (by simp only [List.mem_cons, List.not_mem_nil, or_false]; omega)
        · obtain ⟨l, h, q1, q2, -⟩ := c6 i x m hx hm
          refine ymt_mono q1 (fun y hy => ?_)
          rcases hy with hy | hy
          · exact Or.inl ⟨by omega, by omega⟩
          · exact Or.inr hy
        · rcases c4 with c4 | c4
          · exact yP_c (by omega)
          · exact yP_lo (by omega) c4.2
      · refine xr_if_eq rfl (by omega) (fun _ => ?_) (fun h => absurd rfl h)
        refine xr_steps (pc' := 44) (L' := [(2, .ref A2.1), (1, .ref pa), (0, .ref cu)]) (st' := [.null]) 1 rfl ?_
        refine xr_retNull rfl rfl ⟨_, rfl, fr, Or.inr ⟨rfl, ?_⟩⟩
        rintro ⟨ps', ms', sp', q, -, k2, k3, k4, k5⟩
        rw [hr] at k2
        cases k2
        rw [← hsp] at k4
        rw [k4, hms] at k5
        cases k5
    · rw [eA]
      refine xr_if_ne rfl (by omega) (fun h => absurd rfl h) (fun _ => ?_)
      refine hnull (yfr_mono m1.2 (fun z hz => Or.inl hz) (by omega) (by omega)) ?_
      rintro ⟨ps', ms', sp', q, -, k2, k3, -⟩
      rw [hr] at k2
      cases k2
      exact h58 k3
  · refine xr_steps (pc' := 20) (L' := [(1, .null), (0, .ref cu)]) (st' := []) 3 rfl ?_
    refine hnull (yfr_mono m1.2 (fun z hz => Or.inl hz) (by omega) (by omega)) ?_
    rintro ⟨ps', ms', sp', q, k1, k2, -⟩
    rw [if_pos k1, k2] at hr
    cases hr
