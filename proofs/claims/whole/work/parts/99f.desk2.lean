/-! The desk's methods: rule, select, needs -/
section DN
variable {w : Value} {d : Nat} {A A1 A2 : xb_H} {R : Nat → Nat} {v nv : Nat} {vv : Nat → Nat} {xa : Nat → Nat × Nat × Nat} {ir : Value} {l T : List Int} {ins : List xI} {hd : Nat → Int} {ev : List Int} {ms : List (Int × List Int)} {k : Int}
theorem xRU_e {n : Nat} {f g : Nat → Int} (h : ye n f = ye n g) (ps : List Int) (mt : List (Int × Int × List Int)) (sp : Int) : xRU n f ps mt sp ↔ xRU n g ps mt sp := by
  unfold xRU
  rw [h]
theorem xpc0_e {n : Nat} {f g : Nat → Int} (h : ye n f = ye n g) (l : List Int) : xpc0 n f l ↔ xpc0 n g l := by
  unfold xpc0
  rw [h]
/-- the rule that a text is, the place that it is -/
def xRT (T : List Int) (ps : List Int) (mt : List (Int × Int × List Int)) (sp : Int) : Prop := xRU T.length (fun j => T.getD j 0) ps mt sp
def xPT0 (T : List Int) (l : List Int) : Prop := xpc0 T.length (fun j => T.getD j 0) l
/-- what rule answers -/
def xRD (T : List Int) (ins : List xI) (k : Int) (o : xb_R) (ins' : List xI) : Prop := (¬ (0 ≤ k ∧ k < (ins.length : Int) ∧ ∃ (ps : List Int) (mt : List (Int × Int × List Int)) (sp : Int), xRT T ps mt sp) ∧ o = .inr 1 ∧ ins' = ins) ∨ ∃ (i : Nat) (I : xI) (ps : List Int) (mt : List (Int × Int × List Int)) (sp : Int), k = (i : Int) ∧ ins[i]? = some I ∧ xRT T ps mt sp ∧ ((I.2.1.length < 8 ∧ o = .inl (some (.int (Int32.ofInt (I.2.1.length : Int)))) ∧ ins' = ins.set i (I.1, I.2.1 ++ [(ps, mt, sp)], I.2.2)) ∨ (¬ I.2.1.length < 8 ∧ o = .inr 0 ∧ ins' = ins))
/-- what select answers -/
def xSD (T : List Int) (ins : List xI) (k : Int) (b : Int) : Prop := (¬ (0 ≤ k ∧ k < (ins.length : Int) ∧ ∃ l : List Int, xPT0 T l) ∧ b = -1) ∨ ∃ (i : Nat) (I : xI) (l : List Int), k = (i : Int) ∧ ins[i]? = some I ∧ xPT0 T l ∧ xBS (I.2.1.map fun r => r.1) l I.2.1.length b
theorem md_152t {i ru : Nat} {I : xI} {ps : List Int} {mt : List (Int × Int × List Int)} {sp : Int} (h : yDK A R v nv vv xa ir l T ins hd ev ms) (hI : ins[i]? = some I) (ht : xRT T ps mt sp) (hD : yDK A2 R v nv vv xa ir l [] ins hd ev ms) (hF : yfr A A2 [65] 223 8206) (hyr : yru A2 (yPz A2.1 R) ru ps mt sp) : xr_ok (xt_G w) (d + 30) 152 30 [(3, .ref ru), (2, .ref (xa i).1), (0, .ref 64), (1, .int (Int32.ofInt (i : Int)))] [] A2 (fun o A' => ∃ ins', xRD T ins (i : Int) o ins' ∧ yDK A' R v nv vv xa ir l [] ins' hd ev ms ∧ yKE A A' 930 11300) := by
  have hE : yKE A A2 223 8206 := yKE_fr hF (fun y hy => by rw [List.mem_singleton] at hy; omega)
  obtain ⟨hin, hz, hR1, hR2, hR3⟩ := hD.2.2.2.2.1 i I hI
  have hxc := hin.choose_spec.choose_spec.choose_spec.1
  have hP : ¬ yPz A2.1 R (xa i).1 ∧ ¬ yPz A2.1 R (xa i).2.1 := ⟨fun hp => by unfold yPz at hp; omega, fun hp => by unfold yPz at hp; omega⟩
  refine xr_steps (pc' := 32) (L' := [(3, .ref ru), (2, .ref (xa i).1), (0, .ref 64), (1, .int (Int32.ofInt (i : Int)))]) (st' := [.ref ru, .ref (xa i).1]) 2 rfl ?_
  refine xr_call (q := (.invokevirtual 87, 3, 162, 2)) (av := [.ref (xa i).1, .ref ru]) (rest := []) rfl rfl (by decide) rfl (xr_rcv rfl hxc) (Nat.le_of_ble_eq_true rfl) (mi_162 hin hyr hP) ?_
  rintro _ A3 (⟨hl8, rfl, hin3, fr3, n3⟩ | ⟨hl8, rfl, eA⟩)
  · refine xr_steps (pc' := 40) (L' := [(4, .int (Int32.ofInt (I.2.1.length : Int))), (3, .ref ru), (2, .ref (xa i).1), (0, .ref 64), (1, .int (Int32.ofInt (i : Int)))]) (st' := [.int (Int32.ofInt (-1)), .int (Int32.ofInt (I.2.1.length : Int))]) 3 rfl ?_
    refine xr_icmp_ne rfl (by omega) (by omega) (fun _ => ?_) (fun h => absurd h (by omega))
    refine xr_steps (pc' := 53) (L' := [(4, .int (Int32.ofInt (I.2.1.length : Int))), (3, .ref ru), (2, .ref (xa i).1), (0, .ref 64), (1, .int (Int32.ofInt (i : Int)))]) (st' := [.int (Int32.ofInt (I.2.1.length : Int))]) 1 rfl ?_
    have hset := yDK_set (I' := (I.1, I.2.1 ++ [(ps, mt, sp)], I.2.2)) hD hI fr3 (fun y hy => by simp only [List.mem_cons, List.not_mem_nil, or_false] at hy; omega) (yin_mono hin3 (yPz_mono (by omega)))
    exact xr_retI2 rfl rfl ⟨_, Or.inr ⟨i, I, ps, mt, sp, rfl, hI, ht, Or.inl ⟨hl8, rfl, rfl⟩⟩, hset, yKE_mono (yKE_trans hE (yKE_fr fr3 (fun y hy => by simp only [List.mem_cons, List.not_mem_nil, or_false] at hy; omega))) (by omega) (by omega)⟩
  · rw [eA]
    refine xr_steps (pc' := 40) (L' := [(4, .int (Int32.ofInt (-1))), (3, .ref ru), (2, .ref (xa i).1), (0, .ref 64), (1, .int (Int32.ofInt (i : Int)))]) (st' := [.int (Int32.ofInt (-1)), .int (Int32.ofInt (-1))]) 3 rfl ?_
    refine xr_icmp_ne rfl (by omega) (by omega) (fun h => absurd rfl h) (fun _ => ?_)
    exact xr_throw rfl (by omega) ⟨_, Or.inr ⟨i, I, ps, mt, sp, rfl, hI, ht, Or.inr ⟨hl8, rfl, rfl⟩⟩, yDK_new hD (yfr_thr A2), yKE_mono (yKE_trans hE (yKE_fr (yfr_thr A2) (fun y hy => absurd hy List.not_mem_nil))) (by omega) (by omega)⟩
theorem md_152 (hw : w = .null ∨ w = .ref 19) (h : yDK A R v nv vv xa ir l T ins hd ev ms) (hk : -2147483648 ≤ k ∧ k ≤ 2147483647) : xr_ok (xt_G w) (d + 30) 152 0 [(0, .ref 64), (1, .int (Int32.ofInt k))] [] A (fun o A' => ∃ ins', xRD T ins k o ins' ∧ yDK A' R v nv vv xa ir l [] ins' hd ev ms ∧ yKE A A' 930 11300) := by
  refine xr_steps (pc' := 2) (L' := [(0, .ref 64), (1, .int (Int32.ofInt k))]) (st' := [.int (Int32.ofInt k), .ref 64]) 2 rfl ?_
  refine xr_call (q := (.invokevirtual 58, 3, 39, 2)) (av := [.ref 64, .int (Int32.ofInt k)]) (rest := []) rfl rfl (by decide) rfl (xr_rcv rfl h.2.1) (Nat.le_of_ble_eq_true rfl) (md_find h hk) ?_
  rintro _ _ (⟨i, I, rfl, hI, rfl, eA⟩ | ⟨hno, rfl, eA⟩)
  · rw [eA]
    clear eA
    have hIN := (h.2.2.2.2.1 i I hI)
    refine xr_steps (pc' := 7) (L' := [(2, .ref ((xa i).1)), (0, .ref 64), (1, .int (Int32.ofInt (i : Int)))]) (st' := [.ref 64]) 2 rfl ?_
    refine xr_call (q := (.invokevirtual 62, 3, 46, 1)) (av := [.ref 64]) (rest := []) rfl rfl (by decide) rfl (xr_rcv rfl h.2.1) (Nat.le_of_ble_eq_true rfl) (md_46 h) ?_
    rintro _ A1 ⟨g, rfl, hc, he, hb, hf, hn⟩
    have hk1 := yk1_fr h.1.2.2 hf (fun y hy => by rw [List.mem_singleton] at hy; omega)
    refine xr_call (q := (.invokestatic 82, 3, 153, 1)) (av := [.ref A.1]) (rest := []) rfl rfl (by decide) rfl rfl (Nat.le_of_ble_eq_true rfl) (mr_153 hw hc hk1) ?_
    rintro _ A2 ⟨hfr, hV⟩
    obtain ⟨hD, hF, -⟩ := yDK_rd (p' := 0) (g := g) h hb hf hn hfr
    rcases hV with ⟨ru, ps, mt, sp, rfl, hyr, hru, hr1, hr2⟩ | ⟨rfl, ht⟩
    · refine xr_steps (pc' := 30) (L' := [(3, .ref ru), (2, .ref ((xa i).1)), (0, .ref 64), (1, .int (Int32.ofInt (i : Int)))]) (st' := []) 5 rfl ?_
      exact md_152t h hI ((xRU_e (show ye T.length g = ye T.length (fun j => T.getD j 0) from he) ps mt sp).1 hru) hD (yfr_mono hF (fun z hz => Or.inl hz) (by omega) (by omega)) (yru_mono hyr (yP_z h hn hfr.1.1))
    · refine xr_steps (pc' := 22) (L' := [(3, .null), (2, .ref ((xa i).1)), (0, .ref 64), (1, .int (Int32.ofInt (i : Int)))]) (st' := []) 5 rfl ?_
      exact xr_throw rfl (by omega) ⟨ins, Or.inl ⟨fun ⟨_, _, ps, mt, sp, e⟩ => ht ⟨ps, mt, sp, (xRU_e (show ye T.length g = ye T.length (fun j => T.getD j 0) from he) ps mt sp).2 e⟩, rfl, rfl⟩, yDK_new hD (yfr_thr A2), yKE_mono (yKE_trans (yKE_fr hF (fun y hy => by rw [List.mem_singleton] at hy; omega)) (yKE_fr (yfr_thr A2) (fun y hy => absurd hy List.not_mem_nil))) (by omega) (by omega)⟩
  · rw [eA]
    clear eA
    refine xr_steps (pc' := 7) (L' := [(2, .null), (0, .ref 64), (1, .int (Int32.ofInt k))]) (st' := [.ref 64]) 2 rfl ?_
    refine xr_call (q := (.invokevirtual 62, 3, 46, 1)) (av := [.ref 64]) (rest := []) rfl rfl (by decide) rfl (xr_rcv rfl h.2.1) (Nat.le_of_ble_eq_true rfl) (md_46 h) ?_
    rintro _ A1 ⟨g, rfl, hc, he, hb, hf, hn⟩
    have hk1 := yk1_fr h.1.2.2 hf (fun y hy => by rw [List.mem_singleton] at hy; omega)
    refine xr_call (q := (.invokestatic 82, 3, 153, 1)) (av := [.ref A.1]) (rest := []) rfl rfl (by decide) rfl rfl (Nat.le_of_ble_eq_true rfl) (mr_153 hw hc hk1) ?_
    rintro _ A2 ⟨hfr, hV⟩
    obtain ⟨hD, hF, -⟩ := yDK_rd (p' := 0) (g := g) h hb hf hn hfr
    rcases hV with ⟨ru, ps, mt, sp, rfl, hyr, hru, hr1, hr2⟩ | ⟨rfl, ht⟩
    · refine xr_steps (pc' := 22) (L' := [(3, .ref ru), (2, .null), (0, .ref 64), (1, .int (Int32.ofInt k))]) (st' := []) 3 rfl ?_
      exact xr_throw rfl (by omega) ⟨ins, Or.inl ⟨fun e => hno ⟨e.1, e.2.1⟩, rfl, rfl⟩, yDK_new hD (yfr_thr A2), yKE_mono (yKE_trans (yKE_fr hF (fun y hy => by rw [List.mem_singleton] at hy; omega)) (yKE_fr (yfr_thr A2) (fun y hy => absurd hy List.not_mem_nil))) (by omega) (by omega)⟩
    · refine xr_steps (pc' := 22) (L' := [(3, .null), (2, .null), (0, .ref 64), (1, .int (Int32.ofInt k))]) (st' := []) 3 rfl ?_
      exact xr_throw rfl (by omega) ⟨ins, Or.inl ⟨fun e => hno ⟨e.1, e.2.1⟩, rfl, rfl⟩, yDK_new hD (yfr_thr A2), yKE_mono (yKE_trans (yKE_fr hF (fun y hy => by rw [List.mem_singleton] at hy; omega)) (yKE_fr (yfr_thr A2) (fun y hy => absurd hy List.not_mem_nil))) (by omega) (by omega)⟩
theorem md_45 (hw : w = .null ∨ w = .ref 19) (h : yDK A R v nv vv xa ir l T ins hd ev ms) (hk : -2147483648 ≤ k ∧ k ≤ 2147483647) : xr_ok (xt_G w) (d + 30) 45 0 [(0, .ref 64), (1, .int (Int32.ofInt k))] [] A (fun o A' => ∃ v0, o = .inl v0 ∧ ∃ b : Int, v0 = some (.int (Int32.ofInt b)) ∧ xSD T ins k b ∧ yDK A' R v nv vv xa ir l [] ins hd ev ms ∧ yKE A A' 930 11300) := by
  refine xr_steps (pc' := 2) (L' := [(0, .ref 64), (1, .int (Int32.ofInt k))]) (st' := [.int (Int32.ofInt k), .ref 64]) 2 rfl ?_
  refine xr_call (q := (.invokevirtual 58, 3, 39, 2)) (av := [.ref 64, .int (Int32.ofInt k)]) (rest := []) rfl rfl (by decide) rfl (xr_rcv rfl h.2.1) (Nat.le_of_ble_eq_true rfl) (md_find h hk) ?_
  rintro _ _ (⟨i, I, rfl, hI, rfl, eA⟩ | ⟨hno, rfl, eA⟩)
  · rw [eA]
    clear eA
    have hIN := (h.2.2.2.2.1 i I hI)
    refine xr_steps (pc' := 7) (L' := [(2, .ref ((xa i).1)), (0, .ref 64), (1, .int (Int32.ofInt (i : Int)))]) (st' := [.ref 64]) 2 rfl ?_
    refine xr_call (q := (.invokevirtual 62, 3, 46, 1)) (av := [.ref 64]) (rest := []) rfl rfl (by decide) rfl (xr_rcv rfl h.2.1) (Nat.le_of_ble_eq_true rfl) (md_46 h) ?_
    rintro _ A1 ⟨g, rfl, hc, he, hb, hf, hn⟩
    have hk1 := yk1_fr h.1.2.2 hf (fun y hy => by rw [List.mem_singleton] at hy; omega)
    refine xr_call (q := (.invokestatic 102, 3, 65, 1)) (av := [.ref A.1]) (rest := []) rfl rfl (by decide) rfl rfl (Nat.le_of_ble_eq_true rfl) (mp_65 hw hc rfl) ?_
    rintro _ A2 ⟨⟨p', hm⟩, hV⟩
    obtain ⟨hD, hF, -⟩ := yDK_rd (p' := 0) (g := g) h hb hf hn hm.2
    rcases hV with ⟨pa, ro, l', rfl, hpa, hpr, hpl⟩ | ⟨rfl, ht⟩
    · have hpl' : xPT0 T l' := (xpc0_e (show ye T.length g = ye T.length (fun j => T.getD j 0) from he) l').1 hpl
      refine xr_steps (pc' := 26) (L' := [(3, .ref pa), (2, .ref ((xa i).1)), (0, .ref 64), (1, .int (Int32.ofInt (i : Int)))]) (st' := [.ref pa, .ref ((xa i).1)]) 7 rfl ?_
      refine xr_call (q := (.invokevirtual 108, 3, 84, 2)) (av := [.ref ((xa i).1), .ref pa]) (rest := []) rfl rfl (by decide) rfl (xr_rcv rfl (hD.2.2.2.2.1 i I hI).1.choose_spec.choose_spec.choose_spec.1) (Nat.le_of_ble_eq_true rfl) (mi_84 (hD.2.2.2.2.1 i I hI).1 hpa) ?_
      rintro _ _ ⟨b, ⟨rfl, eA⟩, hBS⟩
      rw [eA]
      clear eA
      exact xr_retI2 rfl rfl ⟨_, rfl, b, rfl, Or.inr ⟨i, I, l', rfl, hI, hpl', hBS⟩, hD, yKE_mono (yKE_fr hF (fun y hy => by rw [List.mem_singleton] at hy; omega)) (by omega) (by omega)⟩
    · refine xr_steps (pc' := 23) (L' := [(3, .null), (2, .ref ((xa i).1)), (0, .ref 64), (1, .int (Int32.ofInt (i : Int)))]) (st' := [.int (Int32.ofInt (-1))]) 6 rfl ?_
      exact xr_retI2 rfl rfl ⟨_, rfl, -1, rfl, Or.inl ⟨fun ⟨_, _, l', e⟩ => ht ⟨l', (xpc0_e (show ye T.length g = ye T.length (fun j => T.getD j 0) from he) l').2 e⟩, rfl⟩, hD, yKE_mono (yKE_fr hF (fun y hy => by rw [List.mem_singleton] at hy; omega)) (by omega) (by omega)⟩
  · rw [eA]
    clear eA
    refine xr_steps (pc' := 7) (L' := [(2, .null), (0, .ref 64), (1, .int (Int32.ofInt k))]) (st' := [.ref 64]) 2 rfl ?_
    refine xr_call (q := (.invokevirtual 62, 3, 46, 1)) (av := [.ref 64]) (rest := []) rfl rfl (by decide) rfl (xr_rcv rfl h.2.1) (Nat.le_of_ble_eq_true rfl) (md_46 h) ?_
    rintro _ A1 ⟨g, rfl, hc, he, hb, hf, hn⟩
    have hk1 := yk1_fr h.1.2.2 hf (fun y hy => by rw [List.mem_singleton] at hy; omega)
    refine xr_call (q := (.invokestatic 102, 3, 65, 1)) (av := [.ref A.1]) (rest := []) rfl rfl (by decide) rfl rfl (Nat.le_of_ble_eq_true rfl) (mp_65 hw hc rfl) ?_
    rintro _ A2 ⟨⟨p', hm⟩, hV⟩
    obtain ⟨hD, hF, -⟩ := yDK_rd (p' := 0) (g := g) h hb hf hn hm.2
    rcases hV with ⟨pa, ro, l', rfl, hpa, hpr, hpl⟩ | ⟨rfl, ht⟩
    · have hpl' : xPT0 T l' := (xpc0_e (show ye T.length g = ye T.length (fun j => T.getD j 0) from he) l').1 hpl
      refine xr_steps (pc' := 23) (L' := [(3, .ref pa), (2, .null), (0, .ref 64), (1, .int (Int32.ofInt k))]) (st' := [.int (Int32.ofInt (-1))]) 4 rfl ?_
      exact xr_retI2 rfl rfl ⟨_, rfl, -1, rfl, Or.inl ⟨fun e => hno ⟨e.1, e.2.1⟩, rfl⟩, hD, yKE_mono (yKE_fr hF (fun y hy => by rw [List.mem_singleton] at hy; omega)) (by omega) (by omega)⟩
    · refine xr_steps (pc' := 23) (L' := [(3, .null), (2, .null), (0, .ref 64), (1, .int (Int32.ofInt k))]) (st' := [.int (Int32.ofInt (-1))]) 4 rfl ?_
      exact xr_retI2 rfl rfl ⟨_, rfl, -1, rfl, Or.inl ⟨fun e => hno ⟨e.1, e.2.1⟩, rfl⟩, hD, yKE_mono (yKE_fr hF (fun y hy => by rw [List.mem_singleton] at hy; omega)) (by omega) (by omega)⟩
/-- what needs answers -/
def xND (ins : List xI) (k z : Int) (b : Int) (ins' : List xI) : Prop := (b = 0 ∧ ins' = ins ∧ ¬ ∃ (i : Nat) (I : xI), k = (i : Int) ∧ ins[i]? = some I ∧ (0 ≤ z ∧ z ≤ 5) ∧ I.2.2.1.length < 3 ∧ ¬ z ∈ I.2.2.1) ∨ ∃ (i : Nat) (I : xI), b = 1 ∧ k = (i : Int) ∧ ins[i]? = some I ∧ (0 ≤ z ∧ z ≤ 5) ∧ (I.2.2.1.length < 3 ∧ ¬ z ∈ I.2.2.1) ∧ ins' = ins.set i (I.1, I.2.1, I.2.2.1 ++ [z], I.2.2.2)
theorem md_38 {z : Int} (h : yDK A R v nv vv xa ir l T ins hd ev ms) (hk : -2147483648 ≤ k ∧ k ≤ 2147483647) (hz : -2147483648 ≤ z ∧ z ≤ 2147483647) : xr_ok (xt_G w) (d + 30) 38 0 [(0, .ref 64), (1, .int (Int32.ofInt k)), (2, .int (Int32.ofInt z))] [] A (fun o A' => ∃ v0, o = .inl v0 ∧ ∃ (b : Int) (ins' : List xI), v0 = some (.int (Int32.ofInt b)) ∧ xND ins k z b ins' ∧ yDK A' R v nv vv xa ir l T ins' hd ev ms ∧ yKE A A' 930 11300) := by
  refine xr_steps (pc' := 2) (L' := [(0, .ref 64), (1, .int (Int32.ofInt k)), (2, .int (Int32.ofInt z))]) (st' := [.int (Int32.ofInt k), .ref 64]) 2 rfl ?_
  refine xr_call (q := (.invokevirtual 58, 3, 39, 2)) (av := [.ref 64, .int (Int32.ofInt k)]) (rest := []) rfl rfl (by decide) rfl (xr_rcv rfl h.2.1) (Nat.le_of_ble_eq_true rfl) (md_find h hk) ?_
  rintro _ _ (⟨i, I, rfl, hI, rfl, eA⟩ | ⟨hno, rfl, eA⟩)
  · rw [eA]
    clear eA
    have hIN := (h.2.2.2.2.1 i I hI)
    refine xr_steps (pc' := 11) (L' := [(3, .ref ((xa i).1)), (0, .ref 64), (1, .int (Int32.ofInt (i : Int))), (2, .int (Int32.ofInt z))]) (st' := [.int (Int32.ofInt z)]) 4 rfl ?_
    obtain ⟨bz, hbz⟩ := mo_bool (0 ≤ z ∧ z ≤ 5)
    refine xr_call (q := (.invokestatic 91, 3, 40, 1)) (av := [.int (Int32.ofInt z)]) (rest := []) rfl rfl (by decide) rfl rfl (Nat.le_of_ble_eq_true rfl) (mc_40 hz hbz) ?_
    rintro _ _ ⟨rfl, eA⟩
    rw [eA]
    clear eA
    rcases hbz with ⟨rfl, hzr⟩ | ⟨rfl, hzr⟩
    · refine xr_if_eq rfl (by omega) (fun z31 => ?_) (fun z31 => ?_)
      · exfalso; omega
      · refine xr_steps (pc' := 19) (L' := [(3, .ref ((xa i).1)), (0, .ref 64), (1, .int (Int32.ofInt (i : Int))), (2, .int (Int32.ofInt z))]) (st' := [.int (Int32.ofInt z), .ref ((xa i).1)]) 2 rfl ?_
        obtain ⟨hin, hzz, hR1, hR2, hR3⟩ := hIN
        have hP : ¬ yPz A.1 R (xa i).1 ∧ ¬ yPz A.1 R (xa i).2.2 := ⟨fun hp => by unfold yPz at hp; omega, fun hp => by unfold yPz at hp; omega⟩
        refine xr_call (q := (.invokevirtual 95, 3, 41, 2)) (av := [.ref ((xa i).1), .int (Int32.ofInt z)]) (rest := []) rfl rfl (by decide) rfl (xr_rcv rfl hin.choose_spec.choose_spec.choose_spec.1) (Nat.le_of_ble_eq_true rfl) (mi_41 hin hzr hP) ?_
        rintro _ A3 ⟨b, rfl, hcase⟩
        rcases hcase with ⟨rfl, hg, hin3, fr3, n3⟩ | ⟨rfl, hg, eA⟩
        · refine xr_if_eq rfl (by omega) (fun z32 => ?_) (fun z32 => ?_)
          · exfalso; omega
          · refine xr_steps (pc' := 30) (L' := [(3, .ref ((xa i).1)), (0, .ref 64), (1, .int (Int32.ofInt (i : Int))), (2, .int (Int32.ofInt z))]) (st' := [.int (Int32.ofInt 1)]) 2 rfl ?_
            have hset := yDK_set (I' := (I.1, I.2.1, I.2.2.1 ++ [z], I.2.2.2)) h hI fr3 (fun y hy => by simp only [List.mem_cons, List.not_mem_nil, or_false] at hy; omega) (yin_mono hin3 (yPz_mono (by omega)))
            exact xr_retZ rfl rfl (by omega) ⟨_, rfl, 1, _, rfl, Or.inr ⟨i, I, rfl, rfl, hI, hzr, hg, rfl⟩, hset, yKE_mono (yKE_fr fr3 (fun y hy => by simp only [List.mem_cons, List.not_mem_nil, or_false] at hy; omega)) (by omega) (by omega)⟩
        · rw [eA]
          clear eA
          refine xr_if_eq rfl (by omega) (fun z33 => ?_) (fun z33 => ?_)
          · refine xr_steps (pc' := 30) (L' := [(3, .ref ((xa i).1)), (0, .ref 64), (1, .int (Int32.ofInt (i : Int))), (2, .int (Int32.ofInt z))]) (st' := [.int (Int32.ofInt 0)]) 1 rfl ?_
            refine xr_retZ rfl rfl (by omega) ⟨_, rfl, 0, ins, rfl, Or.inl ⟨rfl, rfl, fun e => ?_⟩, h, ⟨⟨Nat.le_refl _, by omega⟩, ⟨Nat.le_refl _, by omega⟩, fun y o _ hg => hg⟩⟩
            obtain ⟨j, J, e1, e2, e3, e4⟩ := e; obtain rfl : j = i := by omega
            rw [hI] at e2; cases e2; exact hg e4
          · exfalso; omega
    · refine xr_if_eq rfl (by omega) (fun z34 => ?_) (fun z34 => ?_)
      · refine xr_steps (pc' := 30) (L' := [(3, .ref ((xa i).1)), (0, .ref 64), (1, .int (Int32.ofInt (i : Int))), (2, .int (Int32.ofInt z))]) (st' := [.int (Int32.ofInt 0)]) 1 rfl ?_
        refine xr_retZ rfl rfl (by omega) ⟨_, rfl, 0, ins, rfl, Or.inl ⟨rfl, rfl, fun e => ?_⟩, h, ⟨⟨Nat.le_refl _, by omega⟩, ⟨Nat.le_refl _, by omega⟩, fun y o _ hg => hg⟩⟩
        obtain ⟨j, J, e1, e2, e3, -⟩ := e; exact hzr e3
      · exfalso; omega
  · rw [eA]
    clear eA
    refine xr_steps (pc' := 30) (L' := [(3, .null), (0, .ref 64), (1, .int (Int32.ofInt k)), (2, .int (Int32.ofInt z))]) (st' := [.int (Int32.ofInt 0)]) 4 rfl ?_
    refine xr_retZ rfl rfl (by omega) ⟨_, rfl, 0, ins, rfl, Or.inl ⟨rfl, rfl, fun e => ?_⟩, h, ⟨⟨Nat.le_refl _, by omega⟩, ⟨Nat.le_refl _, by omega⟩, fun y o _ hg => hg⟩⟩
    obtain ⟨i, I, e1, e2, -⟩ := e; have := (List.getElem?_eq_some_iff.mp e2).1; exact hno (by omega)
end DN
/-! The desk's methods: verify -/
section DV
variable {w : Value} {d : Nat} {A A1 A2 A3 : xb_H} {R : Nat → Nat} {v nv : Nat} {vv : Nat → Nat} {xa : Nat → Nat × Nat × Nat} {ir : Value} {l T : List Int} {ins : List xI} {hd : Nat → Int} {ev : List Int} {ms : List (Int × List Int)} {k : Int}
theorem ycs_P {B B' : Nat} {P P' : Nat → Prop} (h : ycs A B P vv ir ms l) (hB : 194 ≤ B' ∧ B' ≤ A.1) (hP : ∀ k : Nat, k < 30 → ¬ P' (vv k)) : ycs A B' P' vv ir ms l := by
  obtain ⟨h1, h2, h3, ⟨h4, h5, h6, h7⟩, h8⟩ := h
  exact ⟨hB, h2, h3, ⟨h4, h5, fun k hk => ⟨hP k hk, (h6 k hk).2⟩, h7⟩, h8⟩
theorem yDK_ev {ev' : List Int} (h : yDK A R v nv vv xa ir l T ins hd ev ms) (hf : yfr A A1 [68, 70] 0 0) (hs : yse A1 hd ev') : yDK A1 R v nv vv xa ir l T ins hd ev' ms := by
  obtain ⟨⟨a1, a2, a3⟩, h64, ⟨b1, b2, b3, b4, b5⟩, ⟨⟨ia, c1, c2⟩, c3⟩, hin, hse, hcs, hvv⟩ := h
  have n1 := hf.1
  have hM : ∀ y ∈ [68, 70], 64 ≤ y ∧ y < 71 := by decide
  refine ⟨⟨by omega, fun y hy => a2 y (by omega), yk1_fr a3 hf (fun y hy => (hM y hy).1)⟩, yfr_get hf h64 (by decide), ⟨ybl_fr b1 hf (by decide) (fun hm => by simp only [List.mem_cons, List.not_mem_nil, or_false] at hm; omega), b2, b3, b4, b5⟩, ⟨⟨ia, yfr_get hf c1 (by decide), c2⟩, c3⟩, fun i I hI => yIN_fr (hin i I hI) hf (fun y hy => ?_), hs, ycs_fr hcs hf (fun y hy => ?_), hvv⟩
  · have := hM y hy
    omega
  · have := hM y hy
    refine ⟨by omega, by omega, fun k hk e => ?_⟩
    have := (hcs.2.2.2.1.2.2.1 k hk).2
    omega
/-- what a comparison does not touch -/
def yPc (B : Nat) (vv : Nat → Nat) (y : Nat) : Prop := y < B ∧ (y < 71 ∨ 165 ≤ y) ∧ ∀ k : Nat, k < 30 → ¬ y = vv k
theorem yPc_z (h : yDK A R v nv vv xa ir l T ins hd ev ms) : ∀ y, yPz A.1 R y → yPc A.1 vv y := by
  intro y hy
  have hvv := h.2.2.2.2.2.2.2
  have hvr := h.2.2.2.2.2.2.1.2.2.2.1.2.2.1
  have hA := h.1.1
  refine ⟨by unfold yPz at hy; omega, by unfold yPz at hy; omega, fun k hk e => ?_⟩
  have h1 := hvv k hk
  have h2 := (hvr k hk).2
  rw [← e] at h1 h2
  unfold yPz at hy
  omega
theorem yDK_run {vv' : Nat → Nat} {x : Nat} {ms' : List (Int × List Int)} (h : yDK A R v nv vv xa ir l T ins hd ev ms) (hcs' : ycs A1 A.1 (yPc A.1 vv) vv' (.ref x) ms' []) (hk : ykp A A1 (yPc A.1 vv) 30 1800) : ∃ R', yDK A1 R' v nv vv' xa (.ref x) [] T ins hd ev ms' ∧ yKE A A1 30 1800 := by
  classical
  have hPz := yPc_z h
  obtain ⟨⟨a1, a2, a3⟩, h64, ⟨b1, b2, b3, b4, b5⟩, ⟨⟨ia, c1, c2⟩, c3⟩, hin, hse, hcs, hvv⟩ := h
  have hvr := hcs.2.2.2.1.2.2.1
  have hvr' := hcs'.2.2.2.1.2.2.1
  have hvd' := hcs'.2.2.2.1.2.2.2
  have n1 := hk.1
  have hlo : ∀ y, y < 71 → yPc A.1 vv y := fun y hy => ⟨by omega, Or.inl hy, fun k hk e => by have := (hvr k hk).2; omega⟩
  have hhi : ∀ y o, 165 ≤ y → xb_get A y = some o → (∀ k : Nat, k < 30 → ¬ R y = 2 + k) → yPc A.1 vv y := fun y o hy hg hr => ⟨xb_get_lt hg, Or.inr hy, fun k hk e => hr k hk (by rw [e]; exact hvv k hk)⟩
  have hvlt : ∀ k : Nat, k < 30 → vv k < A.1 := fun k hk => by
    obtain ⟨kd, n, L, e1, -⟩ := hcs.2.2.2.1.2.1 k hk
    exact (ybl_lt e1.2.1).2.1
  have hm : ∀ y, (165 ≤ y ∧ y < 194) → yPc A.1 vv y := fun y hy => ⟨by omega, Or.inr hy.1, fun k hk e => by have := (hvr k hk).2; omega⟩
  obtain ⟨R', hR1, hR2, hR3⟩ : ∃ R' : Nat → Nat, (∀ k : Nat, k < 30 → R' (vv' k) = 2 + k) ∧ (∀ y, yPc A.1 vv y → R' y = R y) ∧ ∀ y, A1.1 ≤ y → R' y = 0 := by
    refine ⟨fun y => if h : ∃ k, k < 30 ∧ y = vv' k then 2 + h.choose else if y < A.1 then R y else 0, fun k hk => ?_, fun y hy => ?_, fun y hy => ?_⟩
    · have he : ∃ k', k' < 30 ∧ vv' k = vv' k' := ⟨k, hk, rfl⟩
      dsimp only
      rw [dif_pos he]
      have := he.choose_spec
      rw [← hvd' k _ hk this.1 this.2]
    · have hn : ¬ ∃ k', k' < 30 ∧ y = vv' k' := fun ⟨k', h1, h2⟩ => (hvr' k' h1).1 (by rw [← h2]; exact hy)
      dsimp only
      rw [dif_neg hn, if_pos hy.1]
    · have hn : ¬ ∃ k', k' < 30 ∧ y = vv' k' := fun ⟨k', h1, h2⟩ => by
        obtain ⟨kd, n, L, e1, -⟩ := hcs'.2.2.2.1.2.1 k' h1
        have := (ybl_lt e1.2.1).2.1
        omega
      dsimp only
      rw [dif_neg hn, if_neg (by omega)]
  have hv : yPc A.1 vv v := by
    obtain ⟨m, f, e1, e2⟩ := b1
    rcases b2 with b2 | b2
    · exact hlo v (by omega)
    · exact hhi v _ (by omega) e1.2.1 (fun k hk e => by omega)
  have h5 := hcs'.2.2.2.2.1
  have h6 := hcs'.2.2.2.2.2
  refine ⟨R', ⟨⟨by omega, hR3, ?_⟩, hk.2.2 _ _ (hlo 64 (by omega)) h64, ⟨ybl_keep b1 (fun y o hy hg => hk.2.2 y o ?_ hg), b2, by rw [hR2 v hv]; exact b3, b4, b5⟩, ⟨⟨ia, hk.2.2 _ _ (hlo 67 (by omega)) c1, c2⟩, c3⟩, fun i I hI => ?_, ?_, ycs_P hcs' (by omega) (fun k hk hf => hf), hR1⟩, ⟨by omega, hk.2.1, fun y o hy hg => hk.2.2 y o ?_ hg⟩⟩
  · obtain ⟨e1, e2⟩ := a3
    refine ⟨?_, hk.2.2 _ _ (hlo 6 (by omega)) e2⟩
    have hs : ∀ {a u n : Nat} {f : Nat → Int}, a < 71 → u < 71 → ys A a u n f → ys A1 a u n f := by
      rintro a u n f ha hu ⟨⟨fs, s1, s2, s3⟩, s4, s5⟩
      exact ⟨⟨fs, hk.2.2 _ _ (hlo a ha) s1, s2, s3⟩, hk.2.2 _ _ (hlo u hu) s4, s5⟩
    obtain ⟨y1, y2, y3, y4, y5⟩ := e1
    exact ⟨hs (by omega) (by omega) y1, hs (by omega) (by omega) y2, hs (by omega) (by omega) y3, hs (by omega) (by omega) y4, hs (by omega) (by omega) y5⟩
  · rcases hy with rfl | rfl
    · exact hlo 65 (by omega)
    · exact hv
  · obtain ⟨i1, i2, i3, i4, i5⟩ := hin i I hI
    obtain ⟨fr, fs, e, x1, x2, x3, -⟩ := id i1
    have p1 := hhi _ _ (by omega) x1 (fun k hk e => by omega)
    have p2 := hhi _ _ (by omega) x2 (fun k hk e => by omega)
    have p3 := hhi _ _ (by omega) x3 (fun k hk e => by omega)
    refine ⟨yin_mono (yin_kp i1 hk hPz ⟨p1, p2, p3⟩) (fun y hy => ?_), i2, by rw [hR2 _ p1]; exact i3, by rw [hR2 _ p2]; exact i4, by rw [hR2 _ p3]; exact i5⟩
    have := hR2 y (hPz y hy)
    unfold yPz at *
    omega
  · obtain ⟨s1, s2, ⟨e, s3, s4⟩, s5⟩ := hse
    exact ⟨hk.2.2 _ _ (hlo 68 (by omega)) s1, hk.2.2 _ _ (hlo 69 (by omega)) s2, ⟨e, hk.2.2 _ _ (hlo 70 (by omega)) s3, s4⟩, s5⟩
  · rcases hy with hy | hy
    · exact hlo y (by omega)
    · exact hm y hy
/-- what verify answers: ev' the events, ms' the mismatches behind it -/
def xVD (sl : List Int → Bool) (H : (n : Nat) → xv (n + 1) → xv (n + 1) → List Int → Nat) (T : List Int) (ins : List xI) (hd : Nat → Int) (ev : List Int) (ms : List (Int × List Int)) (k : Int) (o : xb_R) (ev' : List Int) (ms' : List (Int × List Int)) : Prop := (¬ (0 ≤ k ∧ k < (ins.length : Int) ∧ ∃ t : xv 6, xpv (xe T) 6 0 = some (t, T.length)) ∧ o = .inr 1 ∧ ev' = ev ∧ ms' = ms) ∨ ∃ (i : Nat) (I : xI) (u : xv 6), k = (i : Int) ∧ ins[i]? = some I ∧ xpv (xe T) 6 0 = some (u, T.length) ∧ ((I.2.2.2 = none ∧ o = .inr 0 ∧ ev' = ev ∧ ms' = ms) ∨ ∃ t : xv 6, I.2.2.2 = some t ∧ ev' = ev ++ xsu hd I.2.2.1 ++ xtd hd (I.2.2.1.take (xsc hd I.2.2.1)) ∧ ((xsc hd I.2.2.1 = I.2.2.1.length ∧ ms' = xcm sl H I.1 6 t u [] ∧ o = .inl (some (.int (Int32.ofInt ((xcm sl H I.1 6 t u []).length : Int))))) ∨ (¬ xsc hd I.2.2.1 = I.2.2.1.length ∧ ms' = ms ∧ o = .inl (some (.int (Int32.ofInt (-3)))))))
theorem md_163t {sl : List Int → Bool} {H : (n : Nat) → xv (n + 1) → xv (n + 1) → List Int → Nat} (hw : w = .null ∨ w = .ref 19) {i a : Nat} {I : xI} {u : xv 6} (h : yDK A R v nv vv xa ir l T ins hd ev ms) (hI : ins[i]? = some I) (ht : xpv (xe T) 6 0 = some (u, T.length)) (hD : yDK A2 R v nv vv xa ir l [] ins hd ev ms) (hF : yfr A A2 [65] 912 11216) (hyt : yt A2 (yPz A2.1 R) 6 a 0 u) (hwt : xwf 6 u) (hev : ev.length + 6 ≤ 3072) (hO : xSL I.2.1 sl ∧ xHO I.2.1 H) (hlen : ∀ t, I.2.2.2 = some t → (xcm sl H I.1 6 t u []).length ≤ 100000) : xr_ok (xt_G w) (d + 40) 163 30 [(3, .ref a), (2, .ref (xa i).1), (0, .ref 64), (1, .int (Int32.ofInt (i : Int)))] [] A2 (fun o A' => ∃ (R' : Nat → Nat) (vv' : Nat → Nat) (ir' : Value) (l' : List Int) (ev' : List Int) (ms' : List (Int × List Int)), xVD sl H T ins hd ev ms (i : Int) o ev' ms' ∧ yDK A' R' v nv vv' xa ir' l' [] ins hd ev' ms' ∧ yKE A A' 950 13100) := by
  have hE : yKE A A2 912 11216 := yKE_fr hF (fun y hy => by rw [List.mem_singleton] at hy; omega)
  obtain ⟨hin, hz, hR1, hR2, hR3⟩ := hD.2.2.2.2.1 i I hI
  have hxc := hin.choose_spec.choose_spec.choose_spec.1
  have hPz : ∀ y, yPz A2.1 R y → y < 64 ∨ 194 ≤ y := fun y hy => by unfold yPz at hy; omega
  have hns3 : I.2.2.1.length ≤ 3 := hin.choose_spec.choose_spec.choose_spec.2.2.2.1.2
  refine xr_steps (pc' := 31) (L' := [(3, .ref a), (2, .ref (xa i).1), (0, .ref 64), (1, .int (Int32.ofInt (i : Int)))]) (st' := [.ref (xa i).1]) 1 rfl ?_
  cases hex : I.2.2.2 with
  | none =>
    refine xr_call (q := (.invokevirtual 112, 3, 164, 1)) (av := [.ref (xa i).1]) (rest := []) rfl rfl (by decide) rfl (xr_rcv rfl hxc) (Nat.le_of_ble_eq_true rfl) (mi_164n hin hex) ?_
    rintro _ _ ⟨rfl, eA⟩
    rw [eA]
    clear eA
    refine xr_steps (pc' := 37) (L' := [(3, .ref a), (2, .ref (xa i).1), (0, .ref 64), (1, .int (Int32.ofInt (i : Int)))]) (st' := []) 1 rfl ?_
    exact xr_throw rfl (by omega) ⟨R, vv, ir, l, ev, ms, Or.inr ⟨i, I, u, rfl, hI, ht, Or.inl ⟨hex, rfl, rfl, rfl⟩⟩, yDK_new hD (yfr_thr A2), yKE_mono (yKE_trans hE (yKE_fr (yfr_thr A2) (fun y hy => absurd hy List.not_mem_nil))) (by omega) (by omega)⟩
  | some t =>
    refine xr_call (q := (.invokevirtual 112, 3, 164, 1)) (av := [.ref (xa i).1]) (rest := []) rfl rfl (by decide) rfl (xr_rcv rfl hxc) (Nat.le_of_ble_eq_true rfl) (mi_164 hin hex) ?_
    rintro _ _ ⟨b, ⟨rfl, eA⟩, -⟩
    rw [eA]
    clear eA
    refine xr_steps (pc' := 47) (L' := [(3, .ref a), (2, .ref (xa i).1), (0, .ref 64), (1, .int (Int32.ofInt (i : Int)))]) (st' := [.ref (xa i).1, .ref 64]) 3 rfl ?_
    refine xr_call (q := (.invokevirtual 116, 3, 165, 2)) (av := [.ref 64, .ref (xa i).1]) (rest := []) rfl rfl (by decide) rfl (xr_rcv rfl hD.2.1) (Nat.le_of_ble_eq_true rfl) (ms_165 hD.2.1 hin hz hPz hD.2.2.2.2.2.1 hev) ?_
    rintro _ A3 ⟨bb, rfl, hs3, hb, fr3, n3⟩
    have hD3 := yDK_ev hD fr3 hs3
    have hE3 : yKE A2 A3 0 0 := yKE_fr fr3 (by decide)
    rcases hb with ⟨rfl, hsc⟩ | ⟨rfl, hsc⟩
    · rw [if_pos hsc, List.append_nil] at hs3 hD3
      refine xr_if_ne rfl (by omega) (fun _ => ?_) (fun h => absurd h (by omega))
      obtain ⟨hin3, -⟩ := hD3.2.2.2.2.1 i I hI
      rw [hex] at hin3
      have hcs3 : ycs A3 A3.1 (yPc A3.1 vv) vv ir ms l := ycs_P hD3.2.2.2.2.2.2.1 ⟨hD3.1.1, Nat.le_refl _⟩ (fun k hk hp => hp.2.2 k hk rfl)
      have hyt3 : yt A3 (yPc A3.1 vv) 6 a 0 u := by
        have hM68 : ∀ z ∈ [68, 70], 64 ≤ z ∧ z < 71 := by decide
        have h1 := yt_keep 6 (yPz A2.1 R) (A' := A3) (fun y o hy hg => yfr_get fr3 hg (fun hm => by have := hM68 y hm; have := hPz y hy; omega)) a 0 u hyt
        exact yt_mono 6 _ _ (fun y hy => yPc_z hD3 y (yPz_mono (by omega) y hy)) a 0 u h1
      have hx3 := hin3.choose_spec.choose_spec.choose_spec
      have hvv3 := hD3.2.2.2.2.2.2.2
      have hpp : ∀ y o, 194 ≤ y → xb_get A3 y = some o → (∀ k : Nat, k < 30 → ¬ R y = 2 + k) → yPc A3.1 vv y := fun y o hy hg hr => ⟨xb_get_lt hg, Or.inr (by omega), fun k hk e => hr k hk (by rw [e]; exact hvv3 k hk)⟩
      refine xr_steps (pc' := 57) (L' := [(3, .ref a), (2, .ref (xa i).1), (0, .ref 64), (1, .int (Int32.ofInt (i : Int)))]) (st' := [.ref 64]) 1 rfl ?_
      refine xr_getf (v := .ref 71) rfl hD3.2.1 rfl ?_
      refine xr_steps (pc' := 62) (L' := [(3, .ref a), (2, .ref (xa i).1), (0, .ref 64), (1, .int (Int32.ofInt (i : Int)))]) (st' := [.ref a, .ref (xa i).1, .ref 71]) 2 rfl ?_
      refine xr_call (q := (.invokevirtual 120, 3, 173, 3)) (av := [.ref 71, .ref (xa i).1, .ref a]) (rest := []) rfl rfl (by decide) rfl (xr_rcv rfl hcs3.2.1) (Nat.le_of_ble_eq_true rfl) (mn_173 (sl := sl) (H := H) hw (fun y hy => ⟨hy.1, hy.2.1⟩) (yPc_z hD3) ⟨hpp _ _ hz.1 hx3.1 (fun k hk e => by omega), hpp _ _ hz.2.1 hx3.2.1 (fun k hk e => by omega), hpp _ _ hz.2.2 hx3.2.2.1 (fun k hk e => by omega)⟩ hO.1 hO.2 hcs3 hin3 hyt3 hwt (hlen t hex)) ?_
      rintro _ A4 ⟨rfl, vv', hcs4, hk4⟩
      obtain ⟨R', hD4, hE4⟩ := yDK_run hD3 hcs4 hk4
      obtain ⟨hin4, hz4, -⟩ := hD4.2.2.2.2.1 i I hI
      refine xr_steps (pc' := 70) (L' := [(4, .int (Int32.ofInt ((xcm sl H I.1 6 t u []).length : Int))), (3, .ref a), (2, .ref (xa i).1), (0, .ref 64), (1, .int (Int32.ofInt (i : Int)))]) (st' := [.ref (xa i).1, .ref (xa i).1, .ref 64]) 4 rfl ?_
      refine xr_call (q := (.invokevirtual 124, 3, 166, 1)) (av := [.ref (xa i).1]) (rest := [.ref (xa i).1, .ref 64]) rfl rfl (by decide) rfl (xr_rcv rfl hin4.choose_spec.choose_spec.choose_spec.1) (Nat.le_of_ble_eq_true rfl) (mi_166 hin4) ?_
      rintro _ _ ⟨rfl, eA⟩
      rw [eA]
      clear eA
      have hxl : (xsu hd I.2.2.1).length ≤ 3 := by
        have : ∀ m : List Int, (xsu hd m).length ≤ m.length := by
          intro m
          induction m with
          | nil => exact Nat.le_refl _
          | cons c m ih =>
            rw [xsu]
            split
            · rw [List.length_cons, List.length_cons]; omega
            · rw [List.length_cons, List.length_cons, List.length_nil]; omega
        have := this I.2.2.1
        omega
      refine xr_call (q := (.invokevirtual 127, 3, 171, 3)) (av := [.ref 64, .ref (xa i).1, .int (Int32.ofInt (I.2.2.1.length : Int))]) (rest := []) rfl rfl (by decide) rfl (xr_rcv rfl hD4.2.1) (Nat.le_of_ble_eq_true rfl) (ms_171 hD4.2.1 hin4 hz4 (fun y hy => by unfold yPz at hy; omega) hD4.2.2.2.2.2.1 (Nat.le_refl _) (by rw [List.length_append]; omega)) ?_
      rintro _ A5 ⟨rfl, hs5, fr5, n5⟩
      have hD5 := yDK_ev hD4 fr5 hs5
      have hE5 : yKE A4 A5 0 0 := yKE_fr fr5 (by decide)
      refine xr_steps (pc' := 78) (L' := [(4, .int (Int32.ofInt ((xcm sl H I.1 6 t u []).length : Int))), (3, .ref a), (2, .ref (xa i).1), (0, .ref 64), (1, .int (Int32.ofInt (i : Int)))]) (st' := [.int (Int32.ofInt ((xcm sl H I.1 6 t u []).length : Int))]) 1 rfl ?_
      refine xr_retI2 rfl rfl ⟨R', vv', _, [], _, _, Or.inr ⟨i, I, u, rfl, hI, ht, Or.inr ⟨t, hex, ?_, Or.inl ⟨hsc, rfl, rfl⟩⟩⟩, hD5, yKE_mono (yKE_trans (yKE_trans (yKE_trans hE hE3) hE4) hE5) (by omega) (by omega)⟩
      rw [hsc]
    · rw [if_neg hsc] at hs3 hD3
      refine xr_if_ne rfl (by omega) (fun h => absurd rfl h) (fun _ => ?_)
      refine xr_steps (pc' := 55) (L' := [(3, .ref a), (2, .ref (xa i).1), (0, .ref 64), (1, .int (Int32.ofInt (i : Int)))]) (st' := [.int (Int32.ofInt (-3))]) 1 rfl ?_
      exact xr_retI2 rfl rfl ⟨R, vv, ir, l, _, ms, Or.inr ⟨i, I, u, rfl, hI, ht, Or.inr ⟨t, hex, rfl, Or.inr ⟨hsc, rfl, rfl⟩⟩⟩, hD3, yKE_mono (yKE_trans hE hE3) (by omega) (by omega)⟩
theorem md_163 {sl : List Int → Bool} {H : (n : Nat) → xv (n + 1) → xv (n + 1) → List Int → Nat} (hw : w = .null ∨ w = .ref 19) (h : yDK A R v nv vv xa ir l T ins hd ev ms) (hk : -2147483648 ≤ k ∧ k ≤ 2147483647) (hev : ev.length + 6 ≤ 3072) (hO : ∀ (i : Nat) (I : xI), k = (i : Int) → ins[i]? = some I → xSL I.2.1 sl ∧ xHO I.2.1 H) (hlen : ∀ (i : Nat) (I : xI) (t u : xv 6), k = (i : Int) → ins[i]? = some I → I.2.2.2 = some t → xpv (xe T) 6 0 = some (u, T.length) → (xcm sl H I.1 6 t u []).length ≤ 100000) : xr_ok (xt_G w) (d + 40) 163 0 [(0, .ref 64), (1, .int (Int32.ofInt k))] [] A (fun o A' => ∃ (R' : Nat → Nat) (vv' : Nat → Nat) (ir' : Value) (l' : List Int) (ev' : List Int) (ms' : List (Int × List Int)), xVD sl H T ins hd ev ms k o ev' ms' ∧ yDK A' R' v nv vv' xa ir' l' [] ins hd ev' ms' ∧ yKE A A' 950 13100) := by
  refine xr_steps (pc' := 2) (L' := [(0, .ref 64), (1, .int (Int32.ofInt k))]) (st' := [.int (Int32.ofInt k), .ref 64]) 2 rfl ?_
  refine xr_call (q := (.invokevirtual 58, 3, 39, 2)) (av := [.ref 64, .int (Int32.ofInt k)]) (rest := []) rfl rfl (by decide) rfl (xr_rcv rfl h.2.1) (Nat.le_of_ble_eq_true rfl) (md_find h hk) ?_
  rintro _ _ (⟨i, I, rfl, hI, rfl, eA⟩ | ⟨hno, rfl, eA⟩)
  · rw [eA]
    clear eA
    have hIN := (h.2.2.2.2.1 i I hI)
    refine xr_steps (pc' := 7) (L' := [(2, .ref ((xa i).1)), (0, .ref 64), (1, .int (Int32.ofInt (i : Int)))]) (st' := [.ref 64]) 2 rfl ?_
    refine xr_call (q := (.invokevirtual 62, 3, 46, 1)) (av := [.ref 64]) (rest := []) rfl rfl (by decide) rfl (xr_rcv rfl h.2.1) (Nat.le_of_ble_eq_true rfl) (md_46 h) ?_
    rintro _ A1 ⟨g, rfl, hc, he, hb, hf, hn⟩
    have hk1 := yk1_fr h.1.2.2 hf (fun y hy => by rw [List.mem_singleton] at hy; omega)
    refine xr_call (q := (.invokestatic 66, 3, 110, 1)) (av := [.ref A.1]) (rest := []) rfl rfl (by decide) rfl rfl (Nat.le_of_ble_eq_true rfl) (mv_110 hw hc hk1) ?_
    rintro _ A2 hr
    obtain ⟨hD, hF, hV⟩ := yDK_val h he hb hf hn hr
    rcases hV with ⟨a, t, rfl, ht, hyt, hwt⟩ | ⟨rfl, ht⟩
    · have hIN2 := fun i I hI => (hD.2.2.2.2.1 i I hI)
      refine xr_steps (pc' := 30) (L' := [(3, .ref a), (2, .ref ((xa i).1)), (0, .ref 64), (1, .int (Int32.ofInt (i : Int)))]) (st' := []) 5 rfl ?_
      exact md_163t hw h hI ht hD hF hyt hwt hev (hO i I rfl hI) (fun t0 e => hlen i I t0 t rfl hI e ht)
    · refine xr_steps (pc' := 22) (L' := [(3, .null), (2, .ref ((xa i).1)), (0, .ref 64), (1, .int (Int32.ofInt (i : Int)))]) (st' := []) 5 rfl ?_
      exact xr_throw rfl (by omega) ⟨R, vv, ir, l, ev, ms, Or.inl ⟨fun e => ht e.2.2, rfl, rfl, rfl⟩, yDK_new hD (yfr_thr A2), yKE_mono (yKE_trans (yKE_fr hF (fun y hy => by rw [List.mem_singleton] at hy; omega)) (yKE_fr (yfr_thr A2) (fun y hy => absurd hy List.not_mem_nil))) (by omega) (by omega)⟩
  · rw [eA]
    clear eA
    refine xr_steps (pc' := 7) (L' := [(2, .null), (0, .ref 64), (1, .int (Int32.ofInt k))]) (st' := [.ref 64]) 2 rfl ?_
    refine xr_call (q := (.invokevirtual 62, 3, 46, 1)) (av := [.ref 64]) (rest := []) rfl rfl (by decide) rfl (xr_rcv rfl h.2.1) (Nat.le_of_ble_eq_true rfl) (md_46 h) ?_
    rintro _ A1 ⟨g, rfl, hc, he, hb, hf, hn⟩
    have hk1 := yk1_fr h.1.2.2 hf (fun y hy => by rw [List.mem_singleton] at hy; omega)
    refine xr_call (q := (.invokestatic 66, 3, 110, 1)) (av := [.ref A.1]) (rest := []) rfl rfl (by decide) rfl rfl (Nat.le_of_ble_eq_true rfl) (mv_110 hw hc hk1) ?_
    rintro _ A2 hr
    obtain ⟨hD, hF, hV⟩ := yDK_val h he hb hf hn hr
    rcases hV with ⟨a, t, rfl, ht, hyt, hwt⟩ | ⟨rfl, ht⟩
    · have hIN2 := fun i I hI => (hD.2.2.2.2.1 i I hI)
      refine xr_steps (pc' := 22) (L' := [(3, .ref a), (2, .null), (0, .ref 64), (1, .int (Int32.ofInt k))]) (st' := []) 3 rfl ?_
      exact xr_throw rfl (by omega) ⟨R, vv, ir, l, ev, ms, Or.inl ⟨fun e => hno ⟨e.1, e.2.1⟩, rfl, rfl, rfl⟩, yDK_new hD (yfr_thr A2), yKE_mono (yKE_trans (yKE_fr hF (fun y hy => by rw [List.mem_singleton] at hy; omega)) (yKE_fr (yfr_thr A2) (fun y hy => absurd hy List.not_mem_nil))) (by omega) (by omega)⟩
    · refine xr_steps (pc' := 22) (L' := [(3, .null), (2, .null), (0, .ref 64), (1, .int (Int32.ofInt k))]) (st' := []) 3 rfl ?_
      exact xr_throw rfl (by omega) ⟨R, vv, ir, l, ev, ms, Or.inl ⟨fun e => hno ⟨e.1, e.2.1⟩, rfl, rfl, rfl⟩, yDK_new hD (yfr_thr A2), yKE_mono (yKE_trans (yKE_fr hF (fun y hy => by rw [List.mem_singleton] at hy; omega)) (yKE_fr (yfr_thr A2) (fun y hy => absurd hy List.not_mem_nil))) (by omega) (by omega)⟩
end DV
