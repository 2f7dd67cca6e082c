/-! The small heap at the law's start -/
theorem xz_fld : ∀ a : Nat, a < 14 → 9 ≤ a → xz_tm (a + 5) = .field (xz_tm a) "java/lang/String" "value" "[B" := by decide +kernel
theorem xz_coF : ∀ a : Nat, a < 14 → 9 ≤ a → Cond.eq (.field (xz_tm a) "java/lang/String" "coder" "B") (.int 0) ∈ xz_F := by decide +kernel
section XZP
variable {b L : Nat} {xs : Nat → Int32} {s : State} {q : Nat → ClassId × (Nat → Nat)}
theorem xz_cellB {D : xs_D} {cl : List vw_C} {a : Nat} {l : List Int32} (ha : a < xb_z) (h : va_T .byte (D.2.2.1 a) l.length (fun j => .int (l.getD j 0)) (fun _ => False) s s.heap) : xs_cell D cl s s.heap a (xt_by l) := by
  obtain ⟨cell, h1, h2, h3, h4, h5, h6, -⟩ := h
  exact ⟨cell, h1, h2, h3, ⟨h4, h5⟩, h6, fun hz => absurd hz (by omega)⟩
theorem xz_ev (hN : (Jvm.Cond.and given_1 narrow_1).before #[Value.ref b] s = true) {a : Nat} (ha : a < 14) (ha' : ¬ (a = 7 ∨ a = 8)) : (xz_tm a).eval #[Value.ref b] s none [] s = some (.ref (xz_adr b s a)) ∧ ∃ (c : ClassId) (cell : Cell), s.vm.findClass (xz_nm a) = some c ∧ s.heap[xz_adr b s a]? = some cell ∧ cell.cls = c ∧ cell.vm.isStatics = false := by
  obtain ⟨x, c, cell, e1, e2, e3, e4, e5⟩ := xz_ex (flat_of_before _ hN _ (xz_exs a ha ha'))
  rw [xz_at (a := a) (by unfold xb_z; omega) rfl e1]
  exact ⟨e1, c, cell, e2, e3, e4, e5⟩
theorem xz_str (hN : (Jvm.Cond.and given_1 narrow_1).before #[Value.ref b] s = true) (hq : ∀ (k : Nat) (r : vw_C), xt_cl[k]? = some r → u_Kn s r.1 r.2.1 r.2.2 (q k).1 (q k).2) {a : Nat} (h9 : 9 ≤ a) (h14 : a < 14) : xs_cell (xz_D q b s) xt_cl s s.heap a (.inr (12, [.ref (a + 5), .int 0])) := by
  obtain ⟨e1, c, cell, e2, e3, e4, e5⟩ := xz_ev hN (a := a) h14 (by omega)
  have hnm : xz_nm a = "java/lang/String" := by
    unfold xz_nm
    rw [if_neg (by omega), if_neg (by omega)]
  rw [hnm] at e2
  obtain ⟨hS, hfc, -⟩ := hq 12 _ rfl
  have ec : c = (q 12).1 := Option.some.inj (e2.symm.trans hfc)
  obtain ⟨v1, -⟩ := xz_bytes hN (a := a + 5) (by omega) (by omega)
  rw [xz_fld a h14 h9] at v1
  have hco := va_eqt (flat_of_before _ hN _ (xz_coF a h14 h9))
  obtain ⟨cf, k, fi, f, cell2, o1, o2, o3, o4, o5, -⟩ := vk_OFof (A := fun _ => False) e1 v1 (fun _ _ h => h)
  obtain ⟨cf', k', fi', f', cell3, p1, p2, p3, p4, p5, -⟩ := vk_OFof (A := fun _ => False) e1 hco (fun _ _ h => h)
  cases e3.symm.trans o3
  cases e3.symm.trans p3
  refine ⟨_, cell, rfl, e3, e4.trans ec, o4, e5, fun hz => absurd hz (by unfold xb_z; omega), fun i v hv => ?_⟩
  match i, hv with
  | 0, hv =>
    cases hv
    obtain ⟨_, _, _, _, r1, r2⟩ := hS 0 (by decide)
    cases o1.symm.trans r1
    exact ⟨by decide, by show cell.slots[(q 12).2 0]? = _; rw [← r2]; exact o5⟩
  | 1, hv =>
    cases hv
    obtain ⟨_, _, _, _, r1, r2⟩ := hS 1 (by decide)
    cases p1.symm.trans r1
    exact ⟨by decide, by show cell.slots[(q 12).2 1]? = _; rw [← r2]; exact p5⟩
  | n + 2, hv => exact absurd hv (by simp)
theorem xz_empty (hN : (Jvm.Cond.and given_1 narrow_1).before #[Value.ref b] s = true) {D : xs_D} {cl : List vw_C} (hD : D.2.2.1 6 = xz_adr b s 6) : xs_cell D cl s s.heap 6 (.inl (.object "java/lang/Object", 0, .inr (.inr fun _ => none))) := by
  obtain ⟨x, h1, cell, c1, c2, c3, c4, c5, -, -⟩ := va_Tof (args := #[Value.ref b]) (s := s) (tm := xz_tm 6) (ty := .object "java/lang/Object") (N := 0) (f := fun _ => .null) (A := fun _ => False) (by decide) (xz_n hN 14 (by decide +kernel)) (va_eqt (xz_n hN 16 (by decide +kernel))) (fun j hj => absurd hj (Nat.not_lt_zero j)) (fun _ _ h => h)
  have e : xz_adr b s 6 = x := xz_at (by decide) rfl h1
  exact ⟨cell, by rw [hD, e]; exact c1, c2, c3, ⟨c4, c5⟩, fun j hj => absurd hj (Nat.not_lt_zero j), fun hz => absurd hz (by decide)⟩
theorem xz_arg : xz_adr b s 20 = b := xz_at (a := 20) (x := b) (t := .arg 0) (by decide) rfl rfl
theorem xz_R (hN : (Jvm.Cond.and given_1 narrow_1).before #[Value.ref b] s = true) (hq : ∀ (k : Nat) (r : vw_C), xt_cl[k]? = some r → u_Kn s r.1 r.2.1 r.2.2 (q k).1 (q k).2) (hX : va_X b L xs s s.heap) : xs_R (xz_D q b s) xt_cl s s.heap (xt_A0 L xs) := by
  refine ⟨Nat.le_refl _, by show 64 = 64 + (s.heap.size - s.heap.size); omega, fun i _ => rfl, fun a o h => ?_, fun i cell hi hc => ?_⟩
  · have ha : a < 64 := xb_get_lt h
    have ho : xt_old L xs a = some o := by
      have h1 : (if a < 64 then xt_old L xs a else none) = some o := h
      rw [if_pos ha] at h1
      exact h1
    unfold xt_old at ho
    by_cases h6 : a < 6
    · rw [if_pos h6] at ho
      cases ho
    rw [if_neg h6] at ho
    by_cases e6 : a = 6
    · subst e6
      rw [if_pos rfl] at ho
      cases ho
      exact ⟨Or.inl (by omega), xz_empty hN rfl⟩
    rw [if_neg e6] at ho
    by_cases e7 : a = 7
    · subst e7
      rw [if_pos rfl] at ho
      cases ho
      exact ⟨Or.inl (by omega), xz_cellB (by decide) (xz_bytes hN (a := 7) (by omega) (by omega)).2⟩
    rw [if_neg e7] at ho
    by_cases e8 : a = 8
    · subst e8
      rw [if_pos rfl] at ho
      cases ho
      exact ⟨Or.inl (by omega), xz_cellB (by decide) (xz_bytes hN (a := 8) (by omega) (by omega)).2⟩
    rw [if_neg e8] at ho
    by_cases h14 : a < 14
    · rw [if_pos h14] at ho
      cases ho
      exact ⟨Or.inl (by omega), xz_str hN hq (by omega) h14⟩
    rw [if_neg h14] at ho
    by_cases h19 : a < 19
    · rw [if_pos h19] at ho
      cases ho
      have hb := (xz_bytes hN (a := a) h19 (by omega)).2
      have eb : xz_by a = xt_str (a - 14) := by
        unfold xz_by
        rw [if_neg e7, if_neg e8]
      rw [eb] at hb
      exact ⟨Or.inl h19, xz_cellB ha hb⟩
    rw [if_neg h19] at ho
    by_cases e20 : a = 20
    · subst e20
      rw [if_pos rfl] at ho
      cases ho
      obtain ⟨scr, x1, x2, x3, x4, x5⟩ := hX
      exact ⟨Or.inr (Or.inl rfl), scr, by show s.heap[xz_adr b s 20]? = _; rw [xz_arg]; exact x1, x2, x3, ⟨Nat.le_of_eq x4.symm, by first | (rw [x4]; done) | (rw [x4]; rfl)⟩, fun j hj => x5 j hj, fun hz => absurd hz (by decide)⟩
    rw [if_neg e20] at ho
    cases ho
  · have h1 := (Array.getElem?_eq_some_iff.mp hc).1
    have h2 : s.heap.size ≤ i := hi
    omega
theorem xz_lt (hN : (Jvm.Cond.and given_1 narrow_1).before #[Value.ref b] s = true) (hb : b < s.heap.size) {a : Nat} (ha : a < 19 ∨ a = 20) : xz_adr b s a < s.heap.size := by
  rcases ha with ha | rfl
  · by_cases h : a = 7 ∨ a = 8 ∨ 14 ≤ a
    · obtain ⟨cell, h1, -⟩ := (xz_bytes hN ha h).2
      exact (Array.getElem?_eq_some_iff.mp h1).1
    · obtain ⟨-, c, cell, -, h1, -⟩ := xz_ev hN (a := a) (by omega) (by omega)
      exact (Array.getElem?_eq_some_iff.mp h1).1
  · rw [xz_arg]
    exact hb
theorem xz_new {a : Nat} (ha : xb_z ≤ a) : xz_adr b s a = s.heap.size + (a - xb_z) := by
  unfold xz_adr
  rw [if_neg (by omega)]
theorem xz_ad (hN : (Jvm.Cond.and given_1 narrow_1).before #[Value.ref b] s = true) (hb : b < s.heap.size) : xs_ad (xz_D q b s) := by
  refine ⟨fun a ha => ⟨xz_new ha, Or.inr (Or.inr ha)⟩, fun a ha hu => ?_, fun a c ha hc e => ?_⟩
  · have h1 : a < 19 ∨ a = 20 ∨ xb_z ≤ a := hu
    exact xz_lt hN hb (by omega)
  · have e1 : xz_adr b s a = xz_adr b s c := e
    have hz : xb_z = 64 := rfl
    simp only [xb_dist, Bool.or_eq_true, Bool.and_eq_true, decide_eq_true_eq] at ha hc
    by_cases h1 : xb_z ≤ a
    · by_cases h2 : xb_z ≤ c
      · rw [xz_new h1, xz_new h2] at e1
        omega
      · have h3 := xz_lt (a := c) hN hb (by omega)
        rw [xz_new h1] at e1
        omega
    · by_cases h2 : xb_z ≤ c
      · have h3 := xz_lt (a := a) hN hb (by omega)
        rw [xz_new h2] at e1
        omega
      · exact xz_apart hN (by omega) (by omega) (by omega) (by omega) e1
/-! statics -/
theorem xz_z {C n d : String} {v : Value} (hl : (Cond.laysStatic C n d).before #[Value.ref b] s = true) (hini : (Cond.initialized C).before #[Value.ref b] s = true) (hv : (Term.static C n d).eval #[Value.ref b] s none [] s = some (xs_v (xz_adr b s) v)) : xs_Z (xz_D q b s) C n d v s := by
  obtain ⟨cf, kf, fi, f, a, cell, h1, h2, h3, h4, h5, h6, h7, -⟩ := va_Zof (A := fun _ => False) hl hini hv (fun _ _ h => h)
  exact ⟨cf, kf, fi, f, a, cell, h1, h2, h3, h4, (Array.getElem?_eq_some_iff.mp h5).1, h5, h6, h7⟩
theorem xz_mi (hN : (Jvm.Cond.and given_1 narrow_1).before #[Value.ref b] s = true) : va_Mi "[Ljava/lang/Object;" (xz_adr b s 21) s := by
  obtain ⟨v, hv, -⟩ := Cond.isRef_spec (xz_n hN 297 (w := .isRef (.mirror "[Ljava/lang/Object;")) (by decide +kernel))
  have hv0 := hv
  obtain ⟨c, k, a, h1, h2, h3, h4⟩ := Term.mirror_spec hv
  rw [h4] at hv0
  rw [xz_at (a := 21) (x := a) (t := .mirror "[Ljava/lang/Object;") (by decide) rfl hv0]
  exact ⟨c, k, h1, h2, h3⟩
theorem xz_st (hts : ∀ w ∈ lw_tbl, w.before #[Value.ref b] s = true) (hN : (Jvm.Cond.and given_1 narrow_1).before #[Value.ref b] s = true) : ∃ w : Value, (w = .null ∨ w = .ref 19) ∧ ∀ (i : Nat) (C n d : String) (v : Value), xt_sd i = some (C, n, d) → xt_S w i = some v → xs_Z (xz_D q b s) C n d v s := by
  have hw : ∃ w : Value, (w = .null ∨ w = .ref 19) ∧ (xz_tm 19).eval #[Value.ref b] s none [] s = some (xs_v (xz_adr b s) w) := by
    obtain ⟨v, hv, hr⟩ := Cond.isRef_spec (xz_n hN 5 (w := .isRef (xz_tm 19)) (by decide +kernel))
    cases v with
    | null => exact ⟨.null, Or.inl rfl, hv⟩
    | ref x => exact ⟨.ref 19, Or.inr rfl, by rw [hv]; show _ = some (Value.ref (xz_adr b s 19)); rw [xz_at (a := 19) (by decide) rfl hv]⟩
    | _ => cases hr
  obtain ⟨w, hw1, hw2⟩ := hw
  refine ⟨w, hw1, fun i C n d v h1 h2 => ?_⟩
  have kind : ∀ a : Nat, a < 7 → (xz_tm a).eval #[Value.ref b] s none [] s = some (xs_v (xz_adr b s) (.ref a)) := fun a ha => (xz_ev hN (a := a) (by omega) (by omega)).1
  match i, h1, h2 with
  | 0, h1, h2 => cases h1; cases h2; exact xz_z (hts _ (xz_in1 52 rfl)) (hts _ (xz_in1 4 rfl)) (va_eqt (xz_n hN 4 (by decide +kernel)))
  | 1, h1, h2 => cases h1; cases h2; exact xz_z (hts _ (xz_in2 2 rfl)) (hts _ (xz_in1 16 rfl)) hw2
  | 2, h1, h2 => cases h1; cases h2; exact xz_z (hts _ (xz_in2 10 rfl)) (hts _ (xz_in1 5 rfl)) (va_eqt (xz_n hN 6 (by decide +kernel)))
  | 3, h1, h2 => cases h1; cases h2; exact xz_z (hts _ (xz_in2 12 rfl)) (hts _ (xz_in1 5 rfl)) (va_eqt (xz_n hN 7 (by decide +kernel)))
  | 4, h1, h2 => cases h1; cases h2; exact xz_z (hts _ (xz_in2 14 rfl)) (hts _ (xz_in1 5 rfl)) (va_eqt (xz_n hN 8 (by decide +kernel)))
  | 5, h1, h2 => cases h1; cases h2; exact xz_z (hts _ (xz_in4 114 rfl)) (hts _ (xz_in1 25 rfl)) (kind 0 (by omega))
  | 6, h1, h2 => cases h1; cases h2; exact xz_z (hts _ (xz_in4 125 rfl)) (hts _ (xz_in1 25 rfl)) (kind 1 (by omega))
  | 7, h1, h2 => cases h1; cases h2; exact xz_z (hts _ (xz_in4 131 rfl)) (hts _ (xz_in1 25 rfl)) (kind 2 (by omega))
  | 8, h1, h2 => cases h1; cases h2; exact xz_z (hts _ (xz_in4 111 rfl)) (hts _ (xz_in1 25 rfl)) (kind 3 (by omega))
  | 9, h1, h2 => cases h1; cases h2; exact xz_z (hts _ (xz_in3 179 rfl)) (hts _ (xz_in1 25 rfl)) (kind 4 (by omega))
  | 10, h1, h2 => cases h1; cases h2; exact xz_z (hts _ (xz_in4 44 rfl)) (hts _ (xz_in1 25 rfl)) (kind 5 (by omega))
  | 11, h1, h2 => cases h1; cases h2; exact xz_z (hts _ (xz_in3 198 rfl)) (hts _ (xz_in1 28 rfl)) (kind 6 (by omega))
  | 12, h1, h2 => cases h1; cases h2; exact xz_z (hts _ (xz_in5 116 rfl)) (hts _ (xz_in1 33 rfl)) (xz_bytes hN (a := 7) (by omega) (by omega)).1
  | 13, h1, h2 => cases h1; cases h2; exact xz_z (hts _ (xz_in5 118 rfl)) (hts _ (xz_in1 33 rfl)) (xz_bytes hN (a := 8) (by omega) (by omega)).1
  | n + 14, h1, h2 => cases h1
/-! strings -/
theorem xz_eqr {t u : Term} {x : Nat} {C : String} (h : (Cond.eq t u).before #[Value.ref b] s = true) (ht : t.eval #[Value.ref b] s none [] s = some (.ref x)) (hu : (Cond.exactly u C).before #[Value.ref b] s = true) : u.eval #[Value.ref b] s none [] s = some (.ref x) := by
  obtain ⟨y, c, cell, e1, -⟩ := xz_ex hu
  simp only [Cond.before, Cond.holds, Cond.value, ht, e1] at h
  rw [e1]
  simp at h
  rw [h]
theorem xz_sl (hts : ∀ w ∈ lw_tbl, w.before #[Value.ref b] s = true) (hN : (Jvm.Cond.and given_1 narrow_1).before #[Value.ref b] s = true) : ∀ (own : String) (idx j : Nat), xt_sl own idx = some j → ∃ (a : Nat) (tx : String), xt_C j = some (.ref a) ∧ vk_R own idx tx (xz_adr b s a) s := by
  have ev : ∀ a : Nat, a < 14 → 9 ≤ a → (xz_tm a).eval #[Value.ref b] s none [] s = some (.ref (xz_adr b s a)) := fun a h1 h2 => (xz_ev hN (a := a) h1 (by omega)).1
  intro own idx j h
  unfold xt_sl at h
  split at h
  · cases h; exact ⟨9, "", rfl, vk_R.of (hts _ (xz_in4 109 rfl)) (xz_eqr (C := "java/lang/String") (xz_n hN 317 (by decide +kernel)) (ev 9 (by omega) (by omega)) (xz_n hN 313 (by decide +kernel)))⟩
  · cases h; exact ⟨9, "", rfl, vk_R.of (hts _ (xz_in4 225 rfl)) (xz_eqr (C := "java/lang/String") (xz_n hN 376 (by decide +kernel)) (ev 9 (by omega) (by omega)) (xz_n hN 372 (by decide +kernel)))⟩
  · cases h; exact ⟨10, "null", rfl, vk_R.of (hts _ (xz_in4 112 rfl)) (ev 10 (by omega) (by omega))⟩
  · cases h; exact ⟨11, "true", rfl, vk_R.of (hts _ (xz_in4 123 rfl)) (ev 11 (by omega) (by omega))⟩
  · cases h; exact ⟨12, "false", rfl, vk_R.of (hts _ (xz_in4 126 rfl)) (ev 12 (by omega) (by omega))⟩
  · cases h; exact ⟨9, "", rfl, vk_R.of (hts _ (xz_in3 180 rfl)) (ev 9 (by omega) (by omega))⟩
  · cases h; exact ⟨13, "0", rfl, vk_R.of (hts _ (xz_in4 132 rfl)) (ev 13 (by omega) (by omega))⟩
  · cases h; exact ⟨9, "", rfl, vk_R.of (hts _ (xz_in4 94 rfl)) (xz_eqr (C := "java/lang/String") (xz_n hN 306 (by decide +kernel)) (ev 9 (by omega) (by omega)) (xz_n hN 302 (by decide +kernel)))⟩
  · cases h; exact ⟨9, "", rfl, vk_R.of (hts _ (xz_in4 103 rfl)) (xz_eqr (C := "java/lang/String") (xz_n hN 311 (by decide +kernel)) (ev 9 (by omega) (by omega)) (xz_n hN 307 (by decide +kernel)))⟩
  · cases h
/-! rows of references -/
theorem xz_into1 (hq : ∀ (k : Nat) (r : vw_C), xt_cl[k]? = some r → u_Kn s r.1 r.2.1 r.2.2 (q k).1 (q k).2) {k : Nat} {r : vw_C} {n : String} (hk : xt_cl[k]? = some r) (ho : (Cond.arrayOver (.object n)).before #[Value.ref b] s = true) (hc : ∀ c t : ClassId, s.vm.findClass r.1 = some c → s.vm.findClass n = some t → s.vm.assignable c t = true) :
    (FieldType.object n).isReference = true ∧ ∃ kv : Class, s.vm.classes[(xz_D q b s).1.1 k]? = some kv ∧ ∀ (kA : Class) (comp : ClassId), s.vm.classes[(xz_D q b s).2.1 (.object n)]? = some kA → kA.kind = .array comp (.object n) → s.vm.assignable ((xz_D q b s).1.1 k) comp = true ∧ ∃ kc : Class, s.vm.classes[comp]? = some kc := by
  obtain ⟨-, hfc, kv, hkv, -⟩ := hq k r hk
  obtain ⟨comp, c, kk, f1, -, f3, f4, f5⟩ := Cond.arrayOver_spec ho
  refine ⟨rfl, kv, hkv, fun kA comp' h1 h2 => ?_⟩
  have e1 : (xz_D q b s).2.1 (.object n) = c := xz_ar_of f5
  rw [e1] at h1
  cases f3.symm.trans h1
  rw [f4] at h2
  cases h2
  obtain ⟨kc, hkc, -⟩ := Vm.findClass_spec f1
  exact ⟨hc _ _ hfc f1, kc, hkc⟩
theorem xz_self {n : String} : ∀ c t : ClassId, s.vm.findClass n = some c → s.vm.findClass n = some t → s.vm.assignable c t = true := by
  intro c t h1 h2
  cases h1.symm.trans h2
  exact va_asg _ _
theorem xz_casts {m n : String} (h : (Cond.castable m n).before #[Value.ref b] s = true) : ∀ c t : ClassId, s.vm.findClass m = some c → s.vm.findClass n = some t → s.vm.assignable c t = true := by
  intro c t h1 h2
  obtain ⟨c', t', g1, g2, g3⟩ := Cond.castable_spec h
  cases h1.symm.trans g1
  cases h2.symm.trans g2
  exact g3
theorem xz_into (hts : ∀ w ∈ lw_tbl, w.before #[Value.ref b] s = true) (hq : ∀ (k : Nat) (r : vw_C), xt_cl[k]? = some r → u_Kn s r.1 r.2.1 r.2.2 (q k).1 (q k).2) : xs_into (xz_D q b s) xt_I s := by
  intro t k h
  unfold xt_I at h
  split at h
  · exact xz_into1 (r := xt_cl[3]) hq rfl (hts _ (xz_in1 76 rfl)) xz_self
  · exact xz_into1 (r := xt_cl[5]) hq rfl (hts _ (xz_in1 114 rfl)) xz_self
  · exact xz_into1 (r := xt_cl[7]) hq rfl (hts _ (xz_in3 137 rfl)) xz_self
  · exact xz_into1 (r := xt_cl[9]) hq rfl (hts _ (xz_in4 36 rfl)) (xz_casts (hts _ (xz_in7 93 rfl)))
  · exact xz_into1 (r := xt_cl[4]) hq rfl (hts _ (xz_in4 36 rfl)) (xz_casts (hts _ (xz_in7 95 rfl)))
  · cases h
/-- THE START: addresses, tables and cells of the small machine at the law's entry -/
theorem xz_start (hts : ∀ w ∈ lw_tbl, w.before #[Value.ref b] s = true) (hN : (Jvm.Cond.and given_1 narrow_1).before #[Value.ref b] s = true) (hX : va_X b L xs s s.heap) (hb : b < s.heap.size) :
    ∃ (D : xs_D) (w : Value), (w = .null ∨ w = .ref 19) ∧ D.2.2.2.1 = s.heap.size ∧ D.2.2.1 20 = b ∧ xs_ad D ∧ xs_K D (xt_G w) xt_cl xt_TY xt_NW xt_sd xt_sl s ∧ xs_R D xt_cl s s.heap (xt_A0 L xs) ∧ xp_T D s := by
  obtain ⟨q, hq⟩ := xz_cls (xz_hts hts)
  obtain ⟨w, hw, hst⟩ := xz_st (q := q) hts hN
  exact ⟨xz_D q b s, w, hw, rfl, xz_arg (b := b) (s := s), xz_ad hN hb, ⟨⟨hq, fun k r h => by cases h⟩, xz_arr hts, xz_into hts hq, hst, xz_sl hts hN, fun C hC => ⟨xz_ao hts C hC, fun _ => xz_mi hN⟩, xz_nw hts⟩, xz_R hN hq hX, xz_T hts hN rfl rfl⟩
end XZP
