/-! The helpers' contracts, and the law's calls of them -/
def xp_ch : List String := ["java/lang/RuntimeException", "java/lang/Exception"]
def xp_en : Nat → String × List String := fun k => if k = 0 then ("java/lang/IllegalStateException", xp_ch) else ("java/lang/IllegalArgumentException", xp_ch)
/-- what is known of the two exceptions -/
def xp_T (D : xs_D) (U : State) : Prop := (∃ (c1 c2 : ClassId) (k1 k2 : Class), U.vm.findClass "java/lang/IllegalStateException" = some c1 ∧ U.vm.findClass "java/lang/IllegalArgumentException" = some c2 ∧ U.vm.classes[c1]? = some k1 ∧ U.vm.classes[c2]? = some k2 ∧ U.vm.assignable c1 c1 = true ∧ U.vm.assignable c2 c2 = true ∧ U.vm.assignable c1 c2 = false) ∧
  xs_thr D "ContractDesk" 54 "java/lang/IllegalStateException" xp_ch U ∧ xs_thr D "ContractDesk" 74 "java/lang/IllegalArgumentException" xp_ch U
theorem xp_T.warm {D : xs_D} {s U : State} (hW : s.WarmedH U.vm) (h : xp_T D s) : xp_T D U := by
  obtain ⟨⟨c1, c2, k1, k2, h1, h2, h3, h4, h5, h6, h7⟩, h8, h9⟩ := h
  have hal := hW.alike
  obtain ⟨k1', g1, -⟩ := hal.2.2 _ _ h3
  obtain ⟨k2', g2, -⟩ := hal.2.2 _ _ h4
  exact ⟨⟨c1, c2, k1', k2', by rw [hal.findClass]; exact h1, by rw [hal.findClass]; exact h2, g1, g2, by rw [hal.assignable]; exact h5, by rw [hal.assignable]; exact h6, by rw [hal.assignable]; exact h7⟩, h8.warm hW, h9.warm hW⟩
/-- a place of a method where one of the two is thrown -/
def xp_place (cc : ByteArray) (r : Nat × xb_I) : Bool := !decide (xb_sort r.2.1 = 6) || (decide (r.2.2.2.2 = 0) || (decide (decode cc (r.1 + 3) = .ok (.dup, 1)) && (decide (decode cc (r.1 + 7) = .ok (.athrow, 1)) && ((decide (r.2 = (.new 52, 3, 0, 1)) && decide (decode cc (r.1 + 4) = .ok (.invokespecial 54, 3))) || (decide (r.2 = (.new 72, 3, 1, 1)) && decide (decode cc (r.1 + 4) = .ok (.invokespecial 74, 3)))))))
theorem xp_fit1 : Bundle.fit "java/lang/IllegalStateException" = true := by decide +kernel
theorem xp_fit2 : Bundle.fit "java/lang/IllegalArgumentException" = true := by decide +kernel
theorem xp_fitc : ∀ n ∈ xp_ch, Bundle.fit n = true := by decide +kernel
theorem xp_lookup {y pc : Nat} {q : xb_I} {w : Value} (hq : xb_gP (xt_G w) y pc = some q) : (pc, q) ∈ xt_l.getD y [] := by
  have hq' : (xt_l.getD y []).lookup pc = some q := hq
  generalize xt_l.getD y [] = t at hq'
  induction t with
  | nil => cases hq'
  | cons r t ih =>
    obtain ⟨j, v⟩ := r
    rw [List.lookup_cons] at hq'
    by_cases hij : (pc == j) = true
    · rw [hij] at hq'
      have e1 : pc = j := by simpa using hij
      cases hq'
      rw [e1]
      exact List.mem_cons_self
    · have e2 : (pc == j) = false := by simpa using hij
      rw [e2] at hq'
      exact List.mem_cons_of_mem _ (ih hq')
theorem xp_sites {D : xs_D} {w : Value} {y : Nat} {inf : xs_M} (hown : inf.1.cls = "ContractDesk") (h : (xt_l.getD y []).all (xp_place inf.2.1) = true) {U : State} (hT : xp_T D U) : ∀ (pc : Nat) (q : xb_I), xb_gP (xt_G w) y pc = some q → xb_sort q.1 = 6 → ¬ q.2.2.2 = 0 → xs_site D xt_W xp_en inf U pc q := by
  intro pc q hq hs hz
  have hr := List.all_eq_true.mp h _ (xp_lookup hq)
  simp only [xp_place, Bool.or_eq_true, Bool.and_eq_true, Bool.not_eq_true', decide_eq_true_eq, decide_eq_false_iff_not] at hr
  rcases hr with hr | hr | ⟨d3, d7, ⟨e, d4⟩ | ⟨e, d4⟩⟩
  · exact absurd hs hr
  · exact absurd hr hz
  · subst e
    unfold xs_site
    rw [hown]
    exact ⟨52, 54, rfl, rfl, d3, d4, d7, xt_in3 70 rfl rfl, xt_in3 71 rfl rfl, xt_in1 20 rfl rfl, xp_fit1, xp_fitc, by show 2 ≤ 3; omega, hT.2.1⟩
  · subst e
    unfold xs_site
    rw [hown]
    exact ⟨72, 74, rfl, rfl, d3, d4, d7, xt_in4 135 rfl rfl, xt_in4 136 rfl rfl, xt_in1 30 rfl rfl, xp_fit2, xp_fitc, by show 2 ≤ 3; omega, hT.2.2⟩
def xp_hh (two : Bool) : List (Nat × Nat × Nat × Nat) := if two = true then [(0, 9, 12, 19), (0, 9, 15, 13)] else [(0, 9, 12, 13)]
/-- all that a helper is -/
def xp_ok (w : Value) (hn : MethodName) (cc : ByteArray) (idx t y : Nat) (inf : xs_M) (two : Bool) : Prop :=
  xp_code cc idx t ∧ xp_hnd cc 12 1 ∧ (two = true → xp_hnd cc 15 2) ∧ xt_inf y = some inf ∧ inf.1.cls = "ContractDesk" ∧ xp_call "ContractDeskLaw" xt_W xt_cl (xt_G w) y idx inf ∧ 2 ≤ xb_gN (xt_G w) y ∧ Cond.codeWith hn cc 4 (some .int) (xp_hh two) ∈ xt_W ∧ Cond.static hn ∈ xt_W ∧ (xt_l.getD y []).all (xp_place inf.2.1) = true ∧ hn.cls = "ContractDeskLaw" ∧ (parseMethodDescriptor hn.desc).map (fun d => d.parameters.length) = some 3
theorem xp_make (w : Value) : xp_ok w ⟨"ContractDeskLaw", "make", "(LContractDesk;Z[J)I"⟩ method_3_code 7 15 103 (⟨"ContractDesk", "make", "(Z)I"⟩, prog_1_method_3_code, 2, some .int) false :=
  ⟨⟨by decide +kernel, by decide +kernel, by decide +kernel, by decide +kernel, by decide +kernel, by decide +kernel, by decide +kernel, ⟨6, by decide +kernel, by decide⟩, by decide +kernel, by decide +kernel⟩, ⟨by decide +kernel, by decide +kernel, by decide +kernel⟩, (fun h => absurd h (by decide)), rfl, rfl,
    ⟨⟨by decide +kernel, by decide +kernel⟩, xt_in1 1 rfl rfl, 0, _, rfl, rfl, by decide +kernel, xt_in3 67 rfl rfl, xt_in3 66 rfl rfl, xt_in3 68 rfl rfl⟩, (show 2 ≤ 2 by omega), xt_in3 64 rfl rfl, xt_in3 63 rfl rfl, by decide +kernel, rfl, by decide +kernel⟩
theorem xp_body (w : Value) : xp_ok w ⟨"ContractDeskLaw", "body", "(LContractDesk;I[J)I"⟩ method_4_code 15 18 109 (⟨"ContractDesk", "body", "(I)I"⟩, prog_1_method_4_code, 4, some .int) true :=
  ⟨⟨by decide +kernel, by decide +kernel, by decide +kernel, by decide +kernel, by decide +kernel, by decide +kernel, by decide +kernel, ⟨9, by decide +kernel, by decide⟩, by decide +kernel, by decide +kernel⟩, ⟨by decide +kernel, by decide +kernel, by decide +kernel⟩, fun _ => ⟨by decide +kernel, by decide +kernel, by decide +kernel⟩, rfl, rfl,
    ⟨⟨by decide +kernel, by decide +kernel⟩, xt_in1 1 rfl rfl, 0, _, rfl, rfl, by decide +kernel, xt_in3 162 rfl rfl, xt_in3 161 rfl rfl, xt_in3 163 rfl rfl⟩, (show 2 ≤ 4 by omega), xt_in3 159 rfl rfl, xt_in3 158 rfl rfl, by decide +kernel, rfl, by decide +kernel⟩
theorem xp_rule (w : Value) : xp_ok w ⟨"ContractDeskLaw", "rule", "(LContractDesk;I[J)I"⟩ method_5_code 21 18 152 (⟨"ContractDesk", "rule", "(I)I"⟩, prog_1_method_5_code, 5, some .int) true :=
  ⟨⟨by decide +kernel, by decide +kernel, by decide +kernel, by decide +kernel, by decide +kernel, by decide +kernel, by decide +kernel, ⟨9, by decide +kernel, by decide⟩, by decide +kernel, by decide +kernel⟩, ⟨by decide +kernel, by decide +kernel, by decide +kernel⟩, fun _ => ⟨by decide +kernel, by decide +kernel, by decide +kernel⟩, rfl, rfl,
    ⟨⟨by decide +kernel, by decide +kernel⟩, xt_in1 1 rfl rfl, 0, _, rfl, rfl, by decide +kernel, xt_in4 186 rfl rfl, xt_in4 185 rfl rfl, xt_in4 187 rfl rfl⟩, (show 2 ≤ 5 by omega), xt_in4 184 rfl rfl, xt_in4 183 rfl rfl, by decide +kernel, rfl, by decide +kernel⟩
theorem xp_verify (w : Value) : xp_ok w ⟨"ContractDeskLaw", "verify", "(LContractDesk;I[J)I"⟩ method_6_code 24 18 163 (⟨"ContractDesk", "verify", "(I)I"⟩, prog_1_method_9_code, 5, some .int) true :=
  ⟨⟨by decide +kernel, by decide +kernel, by decide +kernel, by decide +kernel, by decide +kernel, by decide +kernel, by decide +kernel, ⟨9, by decide +kernel, by decide⟩, by decide +kernel, by decide +kernel⟩, ⟨by decide +kernel, by decide +kernel, by decide +kernel⟩, fun _ => ⟨by decide +kernel, by decide +kernel, by decide +kernel⟩, rfl, rfl,
    ⟨⟨by decide +kernel, by decide +kernel⟩, xt_in1 1 rfl rfl, 0, _, rfl, rfl, by decide +kernel, xt_in5 30 rfl rfl, xt_in5 29 rfl rfl, xt_in5 31 rfl rfl⟩, (show 2 ≤ 5 by omega), xt_in5 28 rfl rfl, xt_in5 27 rfl rfl, by decide +kernel, rfl, by decide +kernel⟩
/-- what a helper answers, and the heap it leaves -/
def xp_res (two : Bool) (b : Nat) (o : xb_R) (A1 : xb_H) (v : Int32) (A' : xb_H) : Prop :=
  (∃ (x : Int32) (nb : Nat) (f : Nat → Int64), o = .inl (some (.int x)) ∧ xb_get A1 b = some (.inl (.long, nb, .inr (.inl f))) ∧ 0 < nb ∧ xb_z ≤ b ∧ v = 0 ∧ A' = xb_set A1 b (.inl (.long, nb, .inr (.inl (va_up f 0 x.toInt64))))) ∨
  (o = .inr 0 ∧ A' = A1 ∧ v = Int32.ofInt (if two = true then 2 else 1)) ∨ (o = .inr 1 ∧ two = true ∧ A' = A1 ∧ v = Int32.ofInt 1)
def xp_P (D : xs_D) (w : Value) (av : List Value) (A : xb_H) : Array Value → State → Prop := fun a' U => xs_P D (xt_G w) xt_cl xt_TY xt_NW xt_sd xt_sl av A a' U ∧ xp_T D U
theorem xp_blind {D : xs_D} {w : Value} {av : List Value} {A : xb_H} : FrameBlind (xp_P D w av A) := fun a U g mk h => ⟨xs_blind a U g mk h.1, xp_T.warm (s := U) (U := U.calling g mk a) (State.WarmedH.refl U) h.2⟩
set_option maxHeartbeats 1000000 in
theorem xp_met {l : Launch} {D : xs_D} {w : Value} (hD : xs_ad D) (hfl : l.flags = pinnedFlags ++ [noTraceFlag]) {hn : MethodName} {cc : ByteArray} {idx t y : Nat} {inf : xs_M} {two : Bool} (ho : xp_ok w hn cc idx t y inf two) {n d a b : Nat} {x v : Int32} {A A1 A' : xb_H} {o : xb_R} (hrc : xb_rcv (xt_G w) y [.ref a, .int x] A = true) (hrun : xb_run (xt_G w) n d y 0 (lv_args 0 [.ref a, .int x]) [] A = some (o, A1)) (hres : xp_res two b o A1 v A') :
    Met l hn (Cond.codeWith hn cc 4 (some .int) (xp_hh two) :: xt_W) (xs_rm (d + 1) (A'.1 - A.1) (A'.2.1 - A.2.1)) (xp_P D w [.ref a, .int x, .ref b] A) (xs_Q D xt_cl (some (.int v)) A') (A'.1 - A.1) (A'.2.1 - A.2.1) (xs_fr D) := by
  obtain ⟨o1, o2, o3, o4, o5, o6, o7, o8, o9, o10, o11, o12⟩ := ho
  refine va_MetW (cc := cc) (maxL := 4) (ret := some .int) (hh := xp_hh two) (by rw [o11]; decide +kernel) rfl ?_
  intro p e s m args below meth c s₁ B hml hv
  obtain ⟨⟨rfl, hR, hK⟩, hT⟩ := hv
  have hts := atoms_spec (ws := Cond.codeWith hn cc 4 (some .int) (xp_hh two) :: xt_W) B.pre
  have hown : s.vm.findClass "ContractDeskLaw" = some m.cls := by
    have h1 := findClass_of_methodNamed B.named
    rw [o11] at h1
    exact h1
  have S : CallFix p m c cc 4 s _ xt_W "ContractDeskLaw" := ⟨B.exec, B.bytes, hml, hown, fun w hw => hts w (List.mem_cons_of_mem _ hw)⟩
  have hl := lv_entry ([Value.ref a, .int x, .ref b].map (xs_v D.2.2.1)) (n := 4) (by rw [xs_sl]; exact (show 3 ≤ 4 by omega))
  rw [lg_entry_eq]
  rw [← xs_args] at hl
  have hex : c.exceptionTable.toList.map (fun h => (h.startPc, h.endPc, h.handlerPc, h.catchType)) = xp_hh two := by
    obtain ⟨m9, meth9, c9, q1, q2, q3, -, -, q4, -⟩ := Cond.codeWith_spec (hts _ List.mem_cons_self)
    cases B.named.symm.trans q1
    cases B.method.symm.trans q2
    cases (Stand.of_body B).code.symm.trans q3
    exact q4
  obtain ⟨⟨c1, c2, k1, k2, t1, t2, t3, t4, t5, t6, t7⟩, t8, t9⟩ := id hT
  have hsite : ∀ U : State, s.WarmedH U.vm → ∀ (pc : Nat) (q : xb_I), xb_gP (xt_G w) y pc = some q → xb_sort q.1 = 6 → ¬ q.2.2.2 = 0 → xs_site D xt_W xp_en inf U pc q := fun U hW => xp_sites o5 o10 (hT.warm hW)
  have key : xs_G D xt_cl p l e (xs_rm (d + 1) (A'.1 - A.1) (A'.2.1 - A.2.1)) s m (([Value.ref a, .int x, .ref b].map (xs_v D.2.2.1)).toArray) below meth c 4 A.1 A.2.1 (MQ below (xs_Q D xt_cl (some (.int v)) A') (([Value.ref a, .int x, .ref b].map (xs_v D.2.2.1)).toArray) s (A'.1 - A.1) (A'.2.1 - A.2.1) (xs_fr D)) 0 [(0, .ref a), (1, .int x), (2, .ref b)] [] A := by
    rcases hres with ⟨x1, nb, f, rfl, hb, hb0, hbz, rfl, rfl⟩ | ⟨rfl, rfl, rfl⟩ | ⟨rfl, rfl, rfl, rfl⟩
    · exact xp_back S hD (xt_prog w) hK B.returns B.notSynchronized o1 o4 o6 hrc o7 hrun hb hb0 hbz (Nat.le_refl _) (Nat.le_refl _) (Nat.le_refl _) (Nat.le_refl _) (Nat.le_refl _) (Nat.le_refl _)
    · cases two with
      | false =>
        obtain ⟨x0, r0, e0, e1, e2⟩ := List.map_eq_cons_iff.mp hex
        have e3 : r0 = [] := by simpa using e2
        subst e3
        obtain ⟨sp, ep, hp, ct⟩ := x0
        cases e1
        exact xp_caught S hD (xt_prog w) hK B.returns B.notSynchronized hfl o1 o4 o6 hrc o7 hrun hsite t1 ⟨k1, t3⟩ (pre := []) (rest := []) e0 (fun _ h => by cases h) (by decide) (by decide) (S.2.2.2.2 _ (xt_in3 65 rfl rfl)) t5 o2 (Nat.le_refl _) (Nat.le_refl _) (Nat.le_refl _) (Nat.le_refl _) (Nat.le_refl _) (Nat.le_refl _)
      | true =>
        obtain ⟨x0, r0, e0, e1, e2⟩ := List.map_eq_cons_iff.mp hex
        obtain ⟨x1, r1, e3, e4, e5⟩ := List.map_eq_cons_iff.mp e2
        have e6 : r1 = [] := by simpa using e5
        subst e6
        subst e3
        obtain ⟨sp, ep, hp, ct⟩ := x0
        obtain ⟨sp, ep, hp, ct⟩ := x1
        cases e1
        cases e4
        exact xp_caught S hD (xt_prog w) hK B.returns B.notSynchronized hfl o1 o4 o6 hrc o7 hrun hsite t1 ⟨k1, t3⟩ (pre := [(⟨0, 9, 12, 19⟩, "java/lang/IllegalArgumentException")]) (rest := []) e0 (fun q hq => by
          cases List.mem_singleton.mp hq
          exact ⟨by decide, by decide, S.2.2.2.2 _ (xt_in3 160 rfl rfl), c2, t2, t7⟩) (by decide) (by decide) (S.2.2.2.2 _ (xt_in3 65 rfl rfl)) t5 (o3 rfl) (Nat.le_refl _) (Nat.le_refl _) (Nat.le_refl _) (Nat.le_refl _) (Nat.le_refl _) (Nat.le_refl _)
    · obtain ⟨x0, r0, e0, e1, e2⟩ := List.map_eq_cons_iff.mp hex
      obtain ⟨sp, ep, hp, ct⟩ := x0
      cases e1
      exact xp_caught S hD (xt_prog w) hK B.returns B.notSynchronized hfl o1 o4 o6 hrc o7 hrun hsite t2 ⟨k2, t4⟩ (pre := []) (rest := r0) e0 (fun _ h => by cases h) (by decide) (by decide) (S.2.2.2.2 _ (xt_in3 160 rfl rfl)) t6 o2 (Nat.le_refl _) (Nat.le_refl _) (Nat.le_refl _) (Nat.le_refl _) (Nat.le_refl _) (Nat.le_refl _)
  have w2 := key s.heap [] _ hR hl (fun _ h => by cases h)
  rw [Nat.sub_self, Nat.sub_self] at w2
  exact w2
section XPC
variable {p : Program} {l : Launch} {e : Env} {R : Room} {s : State} {m : MethodId} {args : Array Value} {below : List Frame} {meth : Method} {c : Code} {Q : State → Prop}
variable {D : xs_D} {w : Value} {c0 s0 : Nat}
/-- the law calls a helper -/
theorem xp_go (Z : xg_E p s m args meth c D (xt_G w) xt_cl xt_W xt_TY xt_NW xt_sd xt_sl xt_inf 260 code 7 "ContractDeskLaw" false) (hT : xp_T D s) (hfl : l.flags = pinnedFlags ++ [noTraceFlag]) {hn : MethodName} {cc : ByteArray} {idx t y : Nat} {inf : xs_M} {two : Bool} (ho : xp_ok w hn cc idx t y inf two) {n d a b ix pc : Nat} {x v : Int32} {A A1 A' : xb_H} {o : xb_R}
    (hd : decode code pc = .ok (.invokestatic ix, 3)) (hlk : Cond.methodLink "ContractDeskLaw" ix hn ∈ xt_W) (hrc : xb_rcv (xt_G w) y [.ref a, .int x] A = true) (hrun : xb_run (xt_G w) n d y 0 (lv_args 0 [.ref a, .int x]) [] A = some (o, A1)) (hres : xp_res two b o A1 v A') {L : xb_L} {rest : List Value} (hcat : (rest.map fun v => v.category).sum ≤ 8)
    (hfr : d + 2 ≤ R.frames) (hlo : 64 * (d + 2) ≤ R.locals) (hc0 : c0 ≤ A.1) (hs0 : s0 ≤ A.2.1) (hcells : A'.1 - c0 ≤ R.cells) (hslots : A'.2.1 - s0 ≤ R.slots)
    (k : xs_G D xt_cl p l e R s m args below meth c 7 c0 s0 Q (pc + 3) L (.int v :: rest) A') : xs_G D xt_cl p l e R s m args below meth c 7 c0 s0 Q pc L (.ref b :: .int x :: .ref a :: rest) A := by
  obtain ⟨S, hD, hP, hK, -, -⟩ := Z
  have hM := xp_met (l := l) hD hfl ho hrc hrun hres
  have m1 := xb_run_mono _ _ _ _ _ _ _ _ hrun
  dsimp only at m1
  have m2 : A.1 ≤ A'.1 ∧ A.2.1 ≤ A'.2.1 := by
    rcases hres with ⟨x1, nb, f, -, -, -, -, -, rfl⟩ | ⟨-, rfl, -⟩ | ⟨-, -, rfl, -⟩ <;> exact m1
  obtain ⟨-, -, -, -, -, -, -, o8, o9, -, o11, o12⟩ := ho
  have hgood := xt_good
  have hts := S.2.2.2.2
  intro H locs ls hR hl hq T hT0 X
  have hws : ∀ w' ∈ (Cond.codeWith hn cc 4 (some .int) (xp_hh two) :: xt_W), ∀ (a' : Array Value) (U : State), s.WarmedH U.vm → w'.before a' U = true := by
    intro w' hw a' U hW
    rcases List.mem_cons.mp hw with rfl | hw
    · exact word_at hW (hgood _ o8) (hts _ o8)
    · exact word_at hW (hgood _ hw) (hts _ hw)
  have hini : Cond.initialized hn.cls ∈ xt_W := by rw [o11]; exact xt_in1 0 rfl rfl
  have hy : hn.cls ≠ "java/lang/invoke/MethodHandle" ∧ hn.cls ≠ "java/lang/invoke/VarHandle" := by rw [o11]; exact ⟨by decide +kernel, by decide +kernel⟩
  have hB : Back l R p e below s args hn 3 8 (PreOf R (A'.1 - A.1) (A'.2.1 - A.2.1) (xp_P D w [.ref a, .int x, .ref b] A)) (PostOf (xs_Q D xt_cl (some (.int v)) A') (A'.1 - A.1) (A'.2.1 - A.2.1) (xs_fr D)) :=
    va_backW (hh := xp_hh two) (bytes := cc) (maxL := 4) (ret := some .int) hM xp_blind rfl rfl (by show d + 1 + 1 ≤ R.frames; omega) (by show 8 + (4 + 11) + 64 * (d + 1) ≤ R.locals; omega) hws List.mem_cons_self (fun a' U hW => word_at hW (hgood _ hini) (hts _ hini))
  obtain ⟨mk, methM, cM, hnamed, hmethM, -, -, -, -, -, -, hsigM⟩ := Cond.codeWith_spec (hts _ o8)
  have hstatic : methM.isStatic = true := Cond.static_spec hnamed hmethM (hts _ o9)
  obtain ⟨kP, hkP, -⟩ := className_of_methodNamed hnamed
  have hinitP : kP.init = .initialized := Cond.initialized_spec (findClass_of_methodNamed hnamed) hkP (hts _ hini)
  obtain ⟨vm₁, X₁, hstep₁⟩ := X.invokestatic S.1 S.2.2.2.1 (hts _ hlk) hnamed hmethM hstatic hkP hinitP hy (g := F0 m pc ls ((Value.ref b :: .int x :: .ref a :: rest).map (xs_v D.2.2.1))) rfl (argsL := [Value.ref a, .int x, .ref b].map (xs_v D.2.2.1)) (rest := rest.map (xs_v D.2.2.1)) (xs_len_of o12 _ hsigM) rfl (by rw [S.2.1]; exact hd)
  have hPc : xp_P D w [.ref a, .int x, .ref b] A ([Value.ref a, .int x, .ref b].map (xs_v D.2.2.1)).toArray (T.setVm vm₁) := ⟨⟨rfl, by rw [show (T.setVm vm₁).heap = H from hT0]; exact hR.moved (U := T.setVm vm₁) X₁.warmed.alike, hK.warm (U := T.setVm vm₁) X₁.warmed⟩, hT.warm (U := T.setVm vm₁) X₁.warmed⟩
  obtain ⟨v', ⟨U', l2, c2, s2⟩, X', ⟨g', mk', t', L', e1, e2, hqq, h1, hL, h2, h3⟩, hsteps⟩ := hB m meth c ⟨T.setVm vm₁, locs, A.1 - c0, A.2.1 - s0⟩ { F0 m pc ls ((Value.ref b :: .int x :: .ref a :: rest).map (xs_v D.2.2.1)) with stack := rest.map (xs_v D.2.2.1) } (.invokestatic ix) mk ([Value.ref a, .int x, .ref b].map (xs_v D.2.2.1)).toArray X₁ rfl (by rw [S.2.2.1]; exact hl.1) (by rw [S.2.1]; exact hd) (by
      show 2 * 0 + ((rest.map (xs_v D.2.2.1)).map fun v => v.category).sum ≤ 8
      rw [xs_cats]
      omega) (X₁.named hnamed) ⟨by show A.1 - c0 + (A'.1 - A.1) ≤ R.cells; omega, by show A.2.1 - s0 + (A'.2.1 - A.2.1) ≤ R.slots; omega, hPc⟩
  dsimp only [Pt.U, Pt.locs, Pt.cells, Pt.slots] at X' e1 e2 h1 h2 h3 hsteps
  subst h1; subst h2; subst h3
  obtain ⟨ev, hR1⟩ := hqq
  cases ev
  have hal1 : s.vm.Alike t'.vm := by rw [← e2]; exact X'.warmed.alike
  have k2 := k U'.heap (locs ++ L') ls (by rw [e1]; exact hR1.moved hal1.symm) hl (fun z hz' => by
    rcases List.mem_append.mp hz' with hz' | hz'
    · exact hq z hz'
    · exact hL z hz')
  have ec : A'.1 - c0 = A.1 - c0 + (A'.1 - A.1) := by omega
  have es : A'.2.1 - s0 = A.2.1 - s0 + (A'.2.1 - A.2.1) := by omega
  rw [ec, es] at k2
  obtain ⟨t2, a1, b1⟩ := k2 U' rfl X'
  exact ⟨t2, hstep₁ _ fun acts => by rw [doInvoke_state]; exact hsteps.trans a1, b1⟩
end XPC
