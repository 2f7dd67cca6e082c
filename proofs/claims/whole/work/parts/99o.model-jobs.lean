/-! The reference: outcome; jobs, places, what is listed -/
theorem xs0_len {n : Nat} {e : Nat → Int} {p k : Nat} {ms : List (Int × Int × List Int)} {sp : Int} (hs : sp = xs0 e p) (h : xmq n e sp k p = some ms) : (sp = 38 ∨ sp = 124) ∧ (sp = 124 → 2 ≤ ms.length) := by
  obtain ⟨mm, q, k', rest, h1, h2, h3⟩ := xmq_cons h
  unfold xs0 at hs
  rw [h2] at hs
  have hs2 : sp = if e q = 124 then 124 else 38 := hs
  constructor
  · rw [hs2]; split <;> omega
  · intro h4
    rcases h3 with ⟨-, -, h5⟩ | ⟨h5, h6⟩
    · by_cases h7 : e q = 124
      · rw [if_pos h7] at hs2; omega
      · rw [if_neg h7] at hs2; omega
    · obtain ⟨mm2, q2, k2, rest2, h7, -⟩ := xmq_cons h6
      rw [h1, h7, List.length_cons, List.length_cons]
      omega
theorem xOC_RH {m : Nat} {e u : xv (m + 1)} {sp v : Int} {ms : List (Int × Int × List Int)} (hl : sp = 124 → 2 ≤ ms.length) (h : xOC m e u sp ms 1 0 0 0 v) : (v = 0 ∨ v = 1 ∨ v = 3) ∧ (¬ v = 0 ↔ xRH m ms sp e u) ∧ (¬ v = 0 → (v = 3 ↔ ∃ x ∈ ms, xlo x)) := by
  have hg : xGD m e u sp ms 1 0 0 ↔ xRH m ms sp e u := by
    unfold xGD xRH
    by_cases hs : sp = 124
    · rw [if_pos hs]
      constructor
      · rintro (⟨-, h2 | h2⟩ | ⟨h1, -⟩)
        · omega
        · exact h2
        · exact absurd (Or.inr ⟨hs, hl hs⟩) h1
      · intro h2
        exact Or.inl ⟨Or.inr ⟨hs, hl hs⟩, Or.inr h2⟩
    · rw [if_neg hs]
      constructor
      · rintro (⟨h1 | h1, -⟩ | ⟨-, -, h2⟩)
        · omega
        · exact absurd h1.1 hs
        · exact h2
      · intro h2
        exact Or.inr ⟨fun h => h.elim (fun h => by omega) (fun h => hs h.1), rfl, h2⟩
  have hlo : ((0 : Int) = 1 ∨ ∃ x ∈ ms, xlo x) ↔ ∃ x ∈ ms, xlo x := ⟨fun h => h.elim (fun h => by omega) id, Or.inr⟩
  unfold xOC at h
  rw [hg, hlo] at h
  rcases h with ⟨rfl, h2⟩ | ⟨rfl, h2, h3⟩ | ⟨rfl, h2, h3⟩
  · exact ⟨by omega, ⟨fun h => absurd rfl h, fun h => absurd h h2⟩, fun h => absurd rfl h⟩
  · exact ⟨by omega, ⟨fun _ => h2, fun _ => by omega⟩, fun _ => ⟨fun _ => h3, fun _ => rfl⟩⟩
  · exact ⟨by omega, ⟨fun _ => h2, fun _ => by omega⟩, fun _ => ⟨fun h => by omega, fun h => absurd h h3⟩⟩
theorem mo_246 {w : Value} {d : Nat} {A : xb_H} {s : Nat → Int} {t : Nat → Nat → Int} {r m pe pa ze za : Nat} {R : List Int × List (Int × Int × List Int) × Int} {e u : xv (m + 1)} (hA : 194 ≤ A.1) (hE : ∀ j : Nat, 0 ≤ t 166 j ∧ t 166 j ≤ 127) (hr : r < 32) (hR : xRL t r R) (hm : m ≤ 5) (he : xV (t 166) (m + 1) pe e ze) (hu : xV (t 166) (m + 1) pa u za) (hze : ze ≤ pe + 100 ∧ ze < 3711) (hza : za ≤ pa + 100 ∧ za < 3711) : xr_ok (xt_G w) (d + 1 + 1 + 1 + 1 + 1 + 1 + 1) 246 0 [(0, .ref 165), (1, .int (Int32.ofInt (r : Int))), (2, .int (Int32.ofInt (pe : Int))), (3, .int (Int32.ofInt (pa : Int)))] [] (ym A s t) (fun o A' => ∃ v0, o = .inl v0 ∧ ∃ (v : Int) (t' : Nat → Nat → Int), (v0 = some (.int (Int32.ofInt v)) ∧ A' = ym A s t' ∧ xhm t t') ∧ (v = 0 ∨ v = 1 ∨ v = 3) ∧ (¬ v = 0 ↔ xRH m R.2.1 R.2.2 e u) ∧ (¬ v = 0 → (v = 3 ↔ ∃ x ∈ R.2.1, xlo x))) := by
  obtain ⟨ps, mt, sp⟩ := R
  obtain ⟨n, n1, n2, ⟨q, e1, e2, e3, e4, e5⟩, n4⟩ := hR
  have hqn : q < n := ye_in (f := fun k => t 166 (510 + 100 * r + k)) (by have h3 : ye n (fun k => t 166 (510 + 100 * r + k)) q = 58 := e3; omega)
  have hy : ∀ j : Nat, j < n → ye n (fun k => t 166 (510 + 100 * r + k)) j = t 166 (510 + 100 * r + j) := fun j hj => by unfold ye; rw [if_pos hj]
  have h58 : t 166 (510 + 100 * r + q) = 58 := by rw [← hy q hqn]; exact e3
  have hpc := xPC_ne 5 1 ps q ⟨e2, e3⟩
  have hne : ∀ j : Nat, j < q → ¬ t 166 (510 + 100 * r + j) = 58 := by
    intro j hj
    rw [← hy j (by omega)]
    by_cases hj0 : j = 0
    · rw [hj0]; have h1 : ye n (fun k => t 166 (510 + 100 * r + k)) 0 = 36 := e1; omega
    · exact hpc.2.2 j (by omega) hj
  have hsl := xs0_len e4 e5
  show xr_ok _ _ _ _ _ _ _ (fun o A' => ∃ v0, o = .inl v0 ∧ ∃ (v : Int) (t' : Nat → Nat → Int), (v0 = some (.int (Int32.ofInt v)) ∧ A' = ym A s t' ∧ xhm t t') ∧ (v = 0 ∨ v = 1 ∨ v = 3) ∧ (¬ v = 0 ↔ xRH m mt sp e u) ∧ (¬ v = 0 → (v = 3 ↔ ∃ x ∈ mt, xlo x)))
  refine xr_steps (pc' := 6) (L' := [(0, .ref 165), (1, .int (Int32.ofInt (r : Int))), (2, .int (Int32.ofInt (pe : Int))), (3, .int (Int32.ofInt (pa : Int)))]) (st' := [.int (Int32.ofInt (r : Int)), .int (Int32.ofInt 100), .int (Int32.ofInt 510)]) 3 rfl ?_
  refine xr_imul rfl ?_
  refine xr_iadd rfl ?_
  refine xr_steps (pc' := 9) (L' := [(0, .ref 165), (1, .int (Int32.ofInt (r : Int))), (2, .int (Int32.ofInt (pe : Int))), (3, .int (Int32.ofInt (pa : Int)))]) (st' := [.ref 165, .int (Int32.ofInt (510 + (100 * (r : Int))))]) 1 rfl ?_
  refine xr_getf (v := .ref 170) rfl (ym_165 hA) rfl ?_
  refine xr_steps (pc' := 13) (L' := [(0, .ref 165), (1, .int (Int32.ofInt (r : Int))), (2, .int (Int32.ofInt (pe : Int))), (3, .int (Int32.ofInt (pa : Int)))]) (st' := [.int (Int32.ofInt (r : Int)), .ref 170, .int (Int32.ofInt (510 + (100 * (r : Int))))]) 1 rfl ?_
  refine ym_iaload (e := t 170 (r : Int).toNat) hA rfl rfl (by decide) (by omega) (by omega) rfl ?_
  rw [show (r : Int).toNat = r by omega]
  rw [n2]
  refine xr_iadd rfl ?_
  refine xr_steps (pc' := 19) (L' := [(4, .int (Int32.ofInt ((510 + (100 * (r : Int))) + (n : Int)))), (0, .ref 165), (1, .int (Int32.ofInt (r : Int))), (2, .int (Int32.ofInt (pe : Int))), (3, .int (Int32.ofInt (pa : Int)))]) (st' := [.int (Int32.ofInt (r : Int)), .ref 165]) 3 rfl ?_
  refine xr_call (q := (.invokevirtual 177, 3, 236, 2)) (av := [.ref 165, .int (Int32.ofInt (r : Int))]) (rest := []) rfl rfl (by decide) rfl (ym_rcv hA rfl) (Nat.le_of_ble_eq_true rfl) (mo_236 hA hE hr (show q < 100 by omega) h58 hne) ?_
  rintro _ _ ⟨rfl, eA⟩
  rw [eA]
  clear eA
  refine xr_steps (pc' := 23) (L' := [(4, .int (Int32.ofInt ((510 + (100 * (r : Int))) + (n : Int)))), (0, .ref 165), (1, .int (Int32.ofInt (r : Int))), (2, .int (Int32.ofInt (pe : Int))), (3, .int (Int32.ofInt (pa : Int)))]) (st' := [.int (Int32.ofInt 1), .int (Int32.ofInt ((510 + 100 * r + q : Nat) : Int))]) 1 rfl ?_
  refine xr_iadd rfl ?_
  refine xr_steps (pc' := 38) (L' := [(9, .int (Int32.ofInt 0)), (8, .int (Int32.ofInt 0)), (7, .int (Int32.ofInt 0)), (6, .int (Int32.ofInt 1)), (5, .int (Int32.ofInt (((510 + 100 * r + q : Nat) : Int) + 1))), (4, .int (Int32.ofInt ((510 + (100 * (r : Int))) + (n : Int)))), (0, .ref 165), (1, .int (Int32.ofInt (r : Int))), (2, .int (Int32.ofInt (pe : Int))), (3, .int (Int32.ofInt (pa : Int)))]) (st' := []) 9 rfl ?_
  refine xr_loc (L := [(5, .int (Int32.ofInt (((510 + 100 * r + q : Nat) : Int) + 1))), (6, .int (Int32.ofInt 1)), (7, .int (Int32.ofInt 0)), (8, .int (Int32.ofInt 0)), (9, .int (Int32.ofInt 0)), (4, .int (Int32.ofInt ((510 + (100 * (r : Int))) + (n : Int)))), (0, .ref 165), (1, .int (Int32.ofInt (r : Int))), (2, .int (Int32.ofInt (pe : Int))), (3, .int (Int32.ofInt (pa : Int)))]) (show [5, 6, 7, 8, 9, 4, 0, 1, 2, 3].Nodup by decide) ⟨rfl, rfl, rfl, rfl, rfl, rfl, rfl, rfl, rfl, rfl, trivial⟩ ?_
  rw [show ((510 + 100 * r + q : Nat) : Int) + 1 = ((510 + 100 * r + (q + 1) : Nat) : Int) by omega, show (510 : Int) + 100 * (r : Int) + (n : Int) = ((510 + 100 * r + n : Nat) : Int) by omega]
  exact mo_246l (t0 := t) (sp := sp) (n := n) (e := e) (u := u) hA hE hr n1 hm hsl.1 he hu hze hza mt t (q + 1) 1 0 0 0 rfl (by omega) (by omega) (by omega) (by omega) (Or.inr ⟨100, e5⟩) (by omega) (fun v t' hv hx => ⟨_, rfl, v, t', ⟨rfl, rfl, hx⟩, xOC_RH hsl.2 hv⟩)
/-- a job is laid on the pile -/
def xPUSH (t t' : Nat → Nat → Int) (P : Nat) (jw je ja jp : Int) : Prop := (∀ x : Nat, ¬ (182 ≤ x ∧ x ≤ 185) → t' x = t x) ∧ t' 182 = va_up (t 182) P jw ∧ t' 183 = va_up (t 183) P je ∧ t' 184 = va_up (t 184) P ja ∧ t' 185 = va_up (t 185) P jp
theorem xPUSH_mk (t : Nat → Nat → Int) (P : Nat) (jw je ja jp : Int) : xPUSH t (va_up (va_up (va_up (va_up t 182 (va_up (t 182) P jw)) 183 (va_up ((va_up t 182 (va_up (t 182) P jw)) 183) P je)) 184 (va_up ((va_up (va_up t 182 (va_up (t 182) P jw)) 183 (va_up ((va_up t 182 (va_up (t 182) P jw)) 183) P je)) 184) P ja)) 185 (va_up ((va_up (va_up (va_up t 182 (va_up (t 182) P jw)) 183 (va_up ((va_up t 182 (va_up (t 182) P jw)) 183) P je)) 184 (va_up ((va_up (va_up t 182 (va_up (t 182) P jw)) 183 (va_up ((va_up t 182 (va_up (t 182) P jw)) 183) P je)) 184) P ja)) 185) P jp)) P jw je ja jp := by
  refine ⟨fun x hx => by rw [ya_up_ne _ _ (by omega), ya_up_ne _ _ (by omega), ya_up_ne _ _ (by omega), ya_up_ne _ _ (by omega)], ?_, ?_, ?_, ?_⟩
  · rw [ya_up_ne _ _ (by omega), ya_up_ne _ _ (by omega), ya_up_ne _ _ (by omega), ya_up_same]
  · rw [ya_up_ne _ _ (by omega), ya_up_ne _ _ (by omega), ya_up_same, ya_up_ne _ _ (by omega)]
  · rw [ya_up_ne _ _ (by omega), ya_up_same, ya_up_ne _ _ (by omega), ya_up_ne _ _ (by omega)]
  · rw [ya_up_same, ya_up_ne _ _ (by omega), ya_up_ne _ _ (by omega), ya_up_ne _ _ (by omega)]
theorem mo_241 {w : Value} {d : Nat} {A : xb_H} {s : Nat → Int} {t : Nat → Nat → Int} {P : Nat} {jw je ja jp : Int} (hA : 194 ≤ A.1) (hp : s 22 = (P : Int)) (hP : P < 256) : xr_ok (xt_G w) d 241 0 [(0, .ref 165), (1, .int (Int32.ofInt jw)), (2, .int (Int32.ofInt je)), (3, .int (Int32.ofInt ja)), (4, .int (Int32.ofInt jp))] [] (ym A s t) (fun o A' => ∃ v0, o = .inl v0 ∧ v0 = none ∧ ∃ t' : Nat → Nat → Int, A' = ym A (va_up s 22 ((P : Int) + 1)) t' ∧ xPUSH t t' P jw je ja jp) := by
  refine xr_steps (pc' := 1) (L' := [(0, .ref 165), (1, .int (Int32.ofInt jw)), (2, .int (Int32.ofInt je)), (3, .int (Int32.ofInt ja)), (4, .int (Int32.ofInt jp))]) (st' := [.ref 165]) 1 rfl ?_
  refine xr_getf (v := .ref 182) rfl (ym_165 hA) rfl ?_
  refine xr_steps (pc' := 5) (L' := [(0, .ref 165), (1, .int (Int32.ofInt jw)), (2, .int (Int32.ofInt je)), (3, .int (Int32.ofInt ja)), (4, .int (Int32.ofInt jp))]) (st' := [.ref 165, .ref 182]) 1 rfl ?_
  refine xr_getf (v := .int (Int32.ofInt (s 22))) rfl (ym_165 hA) rfl ?_
  rw [hp]
  refine xr_steps (pc' := 9) (L' := [(0, .ref 165), (1, .int (Int32.ofInt jw)), (2, .int (Int32.ofInt je)), (3, .int (Int32.ofInt ja)), (4, .int (Int32.ofInt jp))]) (st' := [.int (Int32.ofInt jw), .int (Int32.ofInt (P : Int)), .ref 182]) 1 rfl ?_
  refine ym_iastore hA rfl rfl (by decide) (by omega) (by omega) ?_
  rw [show (P : Int).toNat = P by omega]
  refine xr_steps (pc' := 11) (L' := [(0, .ref 165), (1, .int (Int32.ofInt jw)), (2, .int (Int32.ofInt je)), (3, .int (Int32.ofInt ja)), (4, .int (Int32.ofInt jp))]) (st' := [.ref 165]) 1 rfl ?_
  refine xr_getf (v := .ref 183) rfl (ym_165 hA) rfl ?_
  refine xr_steps (pc' := 15) (L' := [(0, .ref 165), (1, .int (Int32.ofInt jw)), (2, .int (Int32.ofInt je)), (3, .int (Int32.ofInt ja)), (4, .int (Int32.ofInt jp))]) (st' := [.ref 165, .ref 183]) 1 rfl ?_
  refine xr_getf (v := .int (Int32.ofInt (s 22))) rfl (ym_165 hA) rfl ?_
  rw [hp]
  refine xr_steps (pc' := 19) (L' := [(0, .ref 165), (1, .int (Int32.ofInt jw)), (2, .int (Int32.ofInt je)), (3, .int (Int32.ofInt ja)), (4, .int (Int32.ofInt jp))]) (st' := [.int (Int32.ofInt je), .int (Int32.ofInt (P : Int)), .ref 183]) 1 rfl ?_
  refine ym_iastore hA rfl rfl (by decide) (by omega) (by omega) ?_
  rw [show (P : Int).toNat = P by omega]
  refine xr_steps (pc' := 21) (L' := [(0, .ref 165), (1, .int (Int32.ofInt jw)), (2, .int (Int32.ofInt je)), (3, .int (Int32.ofInt ja)), (4, .int (Int32.ofInt jp))]) (st' := [.ref 165]) 1 rfl ?_
  refine xr_getf (v := .ref 184) rfl (ym_165 hA) rfl ?_
  refine xr_steps (pc' := 25) (L' := [(0, .ref 165), (1, .int (Int32.ofInt jw)), (2, .int (Int32.ofInt je)), (3, .int (Int32.ofInt ja)), (4, .int (Int32.ofInt jp))]) (st' := [.ref 165, .ref 184]) 1 rfl ?_
  refine xr_getf (v := .int (Int32.ofInt (s 22))) rfl (ym_165 hA) rfl ?_
  rw [hp]
  refine xr_steps (pc' := 29) (L' := [(0, .ref 165), (1, .int (Int32.ofInt jw)), (2, .int (Int32.ofInt je)), (3, .int (Int32.ofInt ja)), (4, .int (Int32.ofInt jp))]) (st' := [.int (Int32.ofInt ja), .int (Int32.ofInt (P : Int)), .ref 184]) 1 rfl ?_
  refine ym_iastore hA rfl rfl (by decide) (by omega) (by omega) ?_
  rw [show (P : Int).toNat = P by omega]
  refine xr_steps (pc' := 31) (L' := [(0, .ref 165), (1, .int (Int32.ofInt jw)), (2, .int (Int32.ofInt je)), (3, .int (Int32.ofInt ja)), (4, .int (Int32.ofInt jp))]) (st' := [.ref 165]) 1 rfl ?_
  refine xr_getf (v := .ref 185) rfl (ym_165 hA) rfl ?_
  refine xr_steps (pc' := 35) (L' := [(0, .ref 165), (1, .int (Int32.ofInt jw)), (2, .int (Int32.ofInt je)), (3, .int (Int32.ofInt ja)), (4, .int (Int32.ofInt jp))]) (st' := [.ref 165, .ref 185]) 1 rfl ?_
  refine xr_getf (v := .int (Int32.ofInt (s 22))) rfl (ym_165 hA) rfl ?_
  rw [hp]
  refine xr_steps (pc' := 40) (L' := [(0, .ref 165), (1, .int (Int32.ofInt jw)), (2, .int (Int32.ofInt je)), (3, .int (Int32.ofInt ja)), (4, .int (Int32.ofInt jp))]) (st' := [.int (Int32.ofInt jp), .int (Int32.ofInt (P : Int)), .ref 185]) 1 rfl ?_
  refine ym_iastore hA rfl rfl (by decide) (by omega) (by omega) ?_
  rw [show (P : Int).toNat = P by omega]
  refine xr_steps (pc' := 43) (L' := [(0, .ref 165), (1, .int (Int32.ofInt jw)), (2, .int (Int32.ofInt je)), (3, .int (Int32.ofInt ja)), (4, .int (Int32.ofInt jp))]) (st' := [.ref 165, .ref 165]) 2 rfl ?_
  refine xr_getf (v := .int (Int32.ofInt (s 22))) rfl (ym_165 hA) rfl ?_
  rw [hp]
  refine xr_steps (pc' := 47) (L' := [(0, .ref 165), (1, .int (Int32.ofInt jw)), (2, .int (Int32.ofInt je)), (3, .int (Int32.ofInt ja)), (4, .int (Int32.ofInt jp))]) (st' := [.int (Int32.ofInt 1), .int (Int32.ofInt (P : Int)), .ref 165]) 1 rfl ?_
  refine xr_iadd rfl ?_
  refine ym_putI hA rfl rfl rfl ?_
  refine xr_retN rfl rfl ⟨_, rfl, rfl, _, rfl, ?_⟩
  exact xPUSH_mk _ _ _ _ _ _
theorem mo_253 {w : Value} {d : Nat} {A : xb_H} {s : Nat → Int} {t : Nat → Nat → Int} {K : Nat} {jo js : Int} (hA : 194 ≤ A.1) (hp : s 19 = (K : Int)) (hK : K < 768) : xr_ok (xt_G w) d 253 0 [(0, .ref 165), (1, .int (Int32.ofInt jo)), (2, .int (Int32.ofInt js))] [] (ym A s t) (fun o A' => ∃ v0, o = .inl v0 ∧ v0 = some (.int (Int32.ofInt (K : Int))) ∧ ∃ t' : Nat → Nat → Int, A' = ym A (va_up s 19 ((K : Int) + 1)) t' ∧ (∀ x : Nat, ¬ (180 ≤ x ∧ x ≤ 181) → t' x = t x) ∧ t' 180 = va_up (t 180) K jo ∧ t' 181 = va_up (t 181) K js) := by
  refine xr_steps (pc' := 1) (L' := [(0, .ref 165), (1, .int (Int32.ofInt jo)), (2, .int (Int32.ofInt js))]) (st' := [.ref 165]) 1 rfl ?_
  refine xr_getf (v := .ref 180) rfl (ym_165 hA) rfl ?_
  refine xr_steps (pc' := 5) (L' := [(0, .ref 165), (1, .int (Int32.ofInt jo)), (2, .int (Int32.ofInt js))]) (st' := [.ref 165, .ref 180]) 1 rfl ?_
  refine xr_getf (v := .int (Int32.ofInt (s 19))) rfl (ym_165 hA) rfl ?_
  rw [hp]
  refine xr_steps (pc' := 9) (L' := [(0, .ref 165), (1, .int (Int32.ofInt jo)), (2, .int (Int32.ofInt js))]) (st' := [.int (Int32.ofInt jo), .int (Int32.ofInt (K : Int)), .ref 180]) 1 rfl ?_
  refine ym_iastore hA rfl rfl (by decide) (by omega) (by omega) ?_
  rw [show (K : Int).toNat = K by omega]
  refine xr_steps (pc' := 11) (L' := [(0, .ref 165), (1, .int (Int32.ofInt jo)), (2, .int (Int32.ofInt js))]) (st' := [.ref 165]) 1 rfl ?_
  refine xr_getf (v := .ref 181) rfl (ym_165 hA) rfl ?_
  refine xr_steps (pc' := 15) (L' := [(0, .ref 165), (1, .int (Int32.ofInt jo)), (2, .int (Int32.ofInt js))]) (st' := [.ref 165, .ref 181]) 1 rfl ?_
  refine xr_getf (v := .int (Int32.ofInt (s 19))) rfl (ym_165 hA) rfl ?_
  rw [hp]
  refine xr_steps (pc' := 19) (L' := [(0, .ref 165), (1, .int (Int32.ofInt jo)), (2, .int (Int32.ofInt js))]) (st' := [.int (Int32.ofInt js), .int (Int32.ofInt (K : Int)), .ref 181]) 1 rfl ?_
  refine ym_iastore hA rfl rfl (by decide) (by omega) (by omega) ?_
  rw [show (K : Int).toNat = K by omega]
  refine xr_steps (pc' := 22) (L' := [(0, .ref 165), (1, .int (Int32.ofInt jo)), (2, .int (Int32.ofInt js))]) (st' := [.ref 165, .ref 165]) 2 rfl ?_
  refine xr_getf (v := .int (Int32.ofInt (s 19))) rfl (ym_165 hA) rfl ?_
  rw [hp]
  refine xr_steps (pc' := 26) (L' := [(0, .ref 165), (1, .int (Int32.ofInt jo)), (2, .int (Int32.ofInt js))]) (st' := [.int (Int32.ofInt 1), .int (Int32.ofInt (K : Int)), .ref 165]) 1 rfl ?_
  refine xr_iadd rfl ?_
  refine ym_putI hA rfl rfl rfl ?_
  refine xr_steps (pc' := 31) (L' := [(0, .ref 165), (1, .int (Int32.ofInt jo)), (2, .int (Int32.ofInt js))]) (st' := [.ref 165]) 1 rfl ?_
  refine xr_getf (v := .int (Int32.ofInt ((K : Int) + 1))) rfl (ym_165 hA) rfl ?_
  refine xr_steps (pc' := 35) (L' := [(0, .ref 165), (1, .int (Int32.ofInt jo)), (2, .int (Int32.ofInt js))]) (st' := [.int (Int32.ofInt 1), .int (Int32.ofInt ((K : Int) + 1))]) 1 rfl ?_
  refine xr_isub rfl ?_
  rw [show (K : Int) + 1 - 1 = (K : Int) by omega]
  refine xr_retI2 rfl rfl ⟨_, rfl, rfl, _, rfl, ?_, ?_, ?_⟩
  · exact fun x hx => by rw [ya_up_ne _ _ (by omega), ya_up_ne _ _ (by omega)]
  · rw [ya_up_ne _ _ (by omega), ya_up_same]
  · rw [ya_up_same, ya_up_ne _ _ (by omega)]
/-- the row R of places holds C -/
def xRW (t : Nat → Nat → Int) (R : Nat) (C : List Int) : Prop := t 176 R = (C.length : Int) ∧ ∀ j : Nat, j < C.length → t 177 (24 * R + j) = C.getD j 0
def xPU (t t' : Nat → Nat → Int) (R : Nat) : Prop := (∀ x : Nat, ¬ x = 176 → ¬ x = 177 → t' x = t x) ∧ (∀ j : Nat, ¬ j = R → t' 176 j = t 176 j) ∧ ∀ i : Nat, ¬ (24 * R ≤ i ∧ i < 24 * R + 24) → t' 177 i = t 177 i
theorem xPU_refl (t : Nat → Nat → Int) (R : Nat) : xPU t t R := ⟨fun _ _ _ => rfl, fun _ _ => rfl, fun _ _ => rfl⟩
theorem xPU_trans {t t' t'' : Nat → Nat → Int} {R : Nat} (h1 : xPU t t' R) (h2 : xPU t' t'' R) : xPU t t'' R := ⟨fun x a b => (h2.1 x a b).trans (h1.1 x a b), fun j hj => (h2.2.1 j hj).trans (h1.2.1 j hj), fun i hi => (h2.2.2 i hi).trans (h1.2.2 i hi)⟩
theorem mo_244 {w : Value} {d : Nat} {A : xb_H} {s : Nat → Int} {t : Nat → Nat → Int} {R : Nat} {C : List Int} {ch : Int} (hA : 194 ≤ A.1) (hR : R < 30) (hc : xRW t R C) (hl : C.length < 24) (hch : 0 ≤ ch ∧ ch ≤ 127) : xr_ok (xt_G w) d 244 0 [(0, .ref 165), (1, .int (Int32.ofInt (R : Int))), (2, .int (Int32.ofInt ch))] [] (ym A s t) (fun o A' => ∃ v0, o = .inl v0 ∧ v0 = none ∧ ∃ t' : Nat → Nat → Int, A' = ym A s t' ∧ xRW t' R (C ++ [ch]) ∧ xPU t t' R) := by
  refine xr_steps (pc' := 1) (L' := [(0, .ref 165), (1, .int (Int32.ofInt (R : Int))), (2, .int (Int32.ofInt ch))]) (st' := [.ref 165]) 1 rfl ?_
  refine xr_getf (v := .ref 177) rfl (ym_165 hA) rfl ?_
  refine xr_steps (pc' := 7) (L' := [(0, .ref 165), (1, .int (Int32.ofInt (R : Int))), (2, .int (Int32.ofInt ch))]) (st' := [.int (Int32.ofInt (R : Int)), .int (Int32.ofInt 24), .ref 177]) 2 rfl ?_
  refine xr_imul rfl ?_
  refine xr_steps (pc' := 9) (L' := [(0, .ref 165), (1, .int (Int32.ofInt (R : Int))), (2, .int (Int32.ofInt ch))]) (st' := [.ref 165, .int (Int32.ofInt (24 * (R : Int))), .ref 177]) 1 rfl ?_
  refine xr_getf (v := .ref 176) rfl (ym_165 hA) rfl ?_
  refine xr_steps (pc' := 13) (L' := [(0, .ref 165), (1, .int (Int32.ofInt (R : Int))), (2, .int (Int32.ofInt ch))]) (st' := [.int (Int32.ofInt (R : Int)), .ref 176, .int (Int32.ofInt (24 * (R : Int))), .ref 177]) 1 rfl ?_
  refine ym_iaload (e := t 176 (R : Int).toNat) hA rfl rfl (by decide) (by omega) (by omega) rfl ?_
  rw [show (R : Int).toNat = R by omega]
  rw [hc.1]
  refine xr_iadd rfl ?_
  refine xr_steps (pc' := 16) (L' := [(0, .ref 165), (1, .int (Int32.ofInt (R : Int))), (2, .int (Int32.ofInt ch))]) (st' := [.int (Int32.ofInt ch), .int (Int32.ofInt ((24 * (R : Int)) + (C.length : Int))), .ref 177]) 1 rfl ?_
  refine xr_i2c rfl (by omega) ?_
  refine ym_castore hA rfl rfl (by decide) (by omega) (by omega) (by omega) ?_
  rw [show (24 * (R : Int) + (C.length : Int)).toNat = 24 * R + C.length by omega]
  refine xr_steps (pc' := 19) (L' := [(0, .ref 165), (1, .int (Int32.ofInt (R : Int))), (2, .int (Int32.ofInt ch))]) (st' := [.ref 165]) 1 rfl ?_
  refine xr_getf (v := .ref 176) rfl (ym_165 hA) rfl ?_
  refine xr_steps (pc' := 24) (L' := [(0, .ref 165), (1, .int (Int32.ofInt (R : Int))), (2, .int (Int32.ofInt ch))]) (st' := [.int (Int32.ofInt (R : Int)), .ref 176, .int (Int32.ofInt (R : Int)), .ref 176]) 2 rfl ?_
  refine ym_iaload (e := t 176 (R : Int).toNat) hA rfl rfl (by decide) (by omega) (by omega) rfl ?_
  rw [show (R : Int).toNat = R by omega]
  rw [hc.1]
  refine xr_steps (pc' := 26) (L' := [(0, .ref 165), (1, .int (Int32.ofInt (R : Int))), (2, .int (Int32.ofInt ch))]) (st' := [.int (Int32.ofInt 1), .int (Int32.ofInt (C.length : Int)), .int (Int32.ofInt (R : Int)), .ref 176]) 1 rfl ?_
  refine xr_iadd rfl ?_
  refine ym_iastore hA rfl rfl (by decide) (by omega) (by omega) ?_
  rw [show (R : Int).toNat = R by omega]
  refine xr_retN rfl rfl ⟨_, rfl, rfl, _, rfl, ⟨?_, fun j hj => ?_⟩, fun x a b => ?_, fun j hj => ?_, fun i hi => ?_⟩
  · rw [ya_up_same, ya_up_same, List.length_append, List.length_singleton]; omega
  · rw [ya_up_ne _ _ (by omega), ya_up_same, xl_snoc C ch j hj]
    by_cases e : j = C.length
    · rw [if_pos e, e, ya_up_same]
    · rw [if_neg e, ya_up_ne _ _ (by omega)]
      rw [List.length_append, List.length_singleton] at hj
      exact hc.2 j (by omega)
  · rw [ya_up_ne _ _ a, ya_up_ne _ _ b]
  · rw [ya_up_same, ya_up_ne _ _ hj, ya_up_ne _ _ (by omega)]
  · rw [ya_up_ne _ _ (by omega), ya_up_same, ya_up_ne _ _ (by omega)]
/-! The reference: a place is laid out, a mismatch is listed -/
theorem xr_d10 : ∀ n : Fin 100, Int32.ofInt (n.val : Int) / Int32.ofInt 10 = Int32.ofInt ((n.val : Int) / 10) ∧ Int32.ofInt (n.val : Int) - Int32.ofInt (n.val : Int) / Int32.ofInt 10 * Int32.ofInt 10 = Int32.ofInt ((n.val : Int) % 10) := by decide +kernel
section DV10
variable {G : xb_G} {d y pc : Nat} {L : xb_L} {st : List Value} {A : xb_H} {Q : xb_R → xb_H → Prop}
theorem xr_idiv10 {a : Int} (hq : xb_gP G y pc = some (.idiv, 1, 0, 0)) (ha : 0 ≤ a ∧ a ≤ 99) (kk : xr_ok G d y (pc + 1) L (.int (Int32.ofInt (a / 10)) :: st) A Q) : xr_ok G d y pc L (.int (Int32.ofInt 10) :: .int (Int32.ofInt a) :: st) A Q := by
  have key := (xr_d10 ⟨a.toNat, by omega⟩).1
  have e : ((a.toNat : Nat) : Int) = a := by omega
  simp only [e] at key
  refine xr_pure (q := (.idiv, 1, 0, 0)) (pc' := pc + 1) (L' := L) (st' := .int (Int32.ofInt (a / 10)) :: st) (A' := A) hq rfl ?_ kk
  rw [← key]
  rfl
theorem xr_irem10 {a : Int} (hq : xb_gP G y pc = some (.irem, 1, 0, 0)) (ha : 0 ≤ a ∧ a ≤ 99) (kk : xr_ok G d y (pc + 1) L (.int (Int32.ofInt (a % 10)) :: st) A Q) : xr_ok G d y pc L (.int (Int32.ofInt 10) :: .int (Int32.ofInt a) :: st) A Q := by
  have key := (xr_d10 ⟨a.toNat, by omega⟩).2
  have e : ((a.toNat : Nat) : Int) = a := by omega
  simp only [e] at key
  refine xr_pure (q := (.irem, 1, 0, 0)) (pc' := pc + 1) (L' := L) (st' := .int (Int32.ofInt (a % 10)) :: st) (A' := A) hq rfl ?_ kk
  rw [← key]
  rfl
end DV10
/-- the places that are known: pth p is the way to p -/
def xSPT (t : Nat → Nat → Int) (K : Nat) (pth : Nat → List Int) : Prop := pth 0 = [] ∧ ∀ p : Nat, 0 < p → p < K → ∃ (o : Nat) (c : Int), t 180 p = (o : Int) ∧ o < p ∧ t 181 p = xcv c ∧ pth p = pth o ++ [c]
section LY
variable {w : Value} {d : Nat} {A : xb_H} {s : Nat → Int} {t : Nat → Nat → Int} {K p : Nat} {pth : Nat → List Int} {Q : xb_R → xb_H → Prop}
theorem mo_242a (hA : 194 ≤ A.1) (hS : xSPT t K pth) (hK : K ≤ 768) (h50 : (pth p).length ≤ 50) : ∀ (x c : Nat), x < K → c + (pth x).length = (pth p).length → xr_ok (xt_G w) d 242 31 [(0, .ref 165), (1, .int (Int32.ofInt (p : Int)))] [] (ym A (va_up s 27 ((pth p).length : Int)) t) Q → xr_ok (xt_G w) d 242 7 [(2, .int (Int32.ofInt (x : Int))), (0, .ref 165), (1, .int (Int32.ofInt (p : Int)))] [] (ym A (va_up s 27 (c : Int)) t) Q := by
  intro x
  induction x using Nat.strongRecOn with
  | _ x ih =>
    intro c hx hc hQ
    refine xr_steps (pc' := 8) (L' := [(2, .int (Int32.ofInt (x : Int))), (0, .ref 165), (1, .int (Int32.ofInt (p : Int)))]) (st' := [.int (Int32.ofInt (x : Int))]) 1 rfl ?_
    refine xr_if_le rfl (by omega) (fun z31 => ?_) (fun z31 => ?_)
    · refine xr_loc (L := [(0, .ref 165), (1, .int (Int32.ofInt (p : Int)))]) (show [0, 1].Nodup by decide) ⟨rfl, rfl, trivial⟩ ?_
      obtain rfl : x = 0 := by omega
      rw [hS.1, List.length_nil] at hc
      rw [show c = (pth p).length by omega]
      exact hQ
    · obtain ⟨ob, cc, h1, h2, h3, h4⟩ := hS.2 x (by omega) hx
      refine xr_steps (pc' := 13) (L' := [(2, .int (Int32.ofInt (x : Int))), (0, .ref 165), (1, .int (Int32.ofInt (p : Int)))]) (st' := [.ref 165, .ref 165]) 2 rfl ?_
      refine xr_getf (v := .int (Int32.ofInt (c : Int))) rfl (ym_165 hA) rfl ?_
      refine xr_steps (pc' := 17) (L' := [(2, .int (Int32.ofInt (x : Int))), (0, .ref 165), (1, .int (Int32.ofInt (p : Int)))]) (st' := [.int (Int32.ofInt 1), .int (Int32.ofInt (c : Int)), .ref 165]) 1 rfl ?_
      refine xr_iadd rfl ?_
      refine ym_putI hA rfl rfl rfl ?_
      refine xr_steps (pc' := 22) (L' := [(2, .int (Int32.ofInt (x : Int))), (0, .ref 165), (1, .int (Int32.ofInt (p : Int)))]) (st' := [.ref 165]) 1 rfl ?_
      refine xr_getf (v := .ref 180) rfl (ym_165 hA) rfl ?_
      refine xr_steps (pc' := 26) (L' := [(2, .int (Int32.ofInt (x : Int))), (0, .ref 165), (1, .int (Int32.ofInt (p : Int)))]) (st' := [.int (Int32.ofInt (x : Int)), .ref 180]) 1 rfl ?_
      refine ym_iaload (e := t 180 (x : Int).toNat) hA rfl rfl (by decide) (by omega) (by omega) rfl ?_
      rw [show (x : Int).toNat = x by omega]
      rw [h1]
      refine xr_steps (pc' := 7) (L' := [(2, .int (Int32.ofInt (ob : Int))), (0, .ref 165), (1, .int (Int32.ofInt (p : Int)))]) (st' := []) 2 rfl ?_
      refine xr_loc (L := [(2, .int (Int32.ofInt (ob : Int))), (0, .ref 165), (1, .int (Int32.ofInt (p : Int)))]) (show [2, 0, 1].Nodup by decide) ⟨rfl, rfl, rfl, trivial⟩ ?_
      rw [show (c : Int) + 1 = ((c + 1 : Nat) : Int) by omega, xup2]
      rw [h4, List.length_append, List.length_singleton] at hc
      exact ih ob h2 (c + 1) (by omega) (by omega) hQ
theorem mo_242b (hA : 194 ≤ A.1) (hS : xSPT t K pth) (hK : K ≤ 768) (h50 : (pth p).length ≤ 50) : ∀ (x k : Nat) (g : Nat → Int), x < K → k = (pth x).length → (∃ rest, pth p = pth x ++ rest) → (∀ j : Nat, k ≤ j → j < (pth p).length → g j = xcv ((pth p).getD j 0)) → (∀ g : Nat → Int, xrow g (pth p) → Q (.inl none) (ym A (va_up s 27 ((pth p).length : Int)) (va_up t 186 g))) → xr_ok (xt_G w) d 242 38 [(3, .int (Int32.ofInt (x : Int))), (2, .int (Int32.ofInt (k : Int))), (0, .ref 165), (1, .int (Int32.ofInt (p : Int)))] [] (ym A (va_up s 27 ((pth p).length : Int)) (va_up t 186 g)) Q := by
  intro x
  induction x using Nat.strongRecOn with
  | _ x ih =>
    intro k g hx hk hpre hg hQ
    refine xr_steps (pc' := 39) (L' := [(3, .int (Int32.ofInt (x : Int))), (2, .int (Int32.ofInt (k : Int))), (0, .ref 165), (1, .int (Int32.ofInt (p : Int)))]) (st' := [.int (Int32.ofInt (x : Int))]) 1 rfl ?_
    refine xr_if_le rfl (by omega) (fun z31 => ?_) (fun z31 => ?_)
    · obtain rfl : x = 0 := by omega
      rw [hS.1, List.length_nil] at hk
      exact xr_retN rfl rfl (hQ g (fun j hj => hg j (by omega) hj))
    · obtain ⟨ob, cc, h1, h2, h3, h4⟩ := hS.2 x (by omega) hx
      have hlen : k = (pth ob).length + 1 := by rw [hk, h4, List.length_append, List.length_singleton]
      obtain ⟨rest, hr⟩ := hpre
      have hpl : (pth p).length = (pth ob).length + 1 + rest.length := by rw [hr, h4, List.length_append, List.length_append, List.length_singleton]
      refine xr_iincn (L' := [(2, .int (Int32.ofInt ((k : Int) - 1))), (3, .int (Int32.ofInt (x : Int))), (0, .ref 165), (1, .int (Int32.ofInt (p : Int)))]) rfl rfl rfl ?_
      refine xr_steps (pc' := 46) (L' := [(2, .int (Int32.ofInt ((k : Int) - 1))), (3, .int (Int32.ofInt (x : Int))), (0, .ref 165), (1, .int (Int32.ofInt (p : Int)))]) (st' := [.ref 165]) 1 rfl ?_
      refine xr_getf (v := .ref 186) rfl (ym_165 hA) rfl ?_
      refine xr_steps (pc' := 51) (L' := [(2, .int (Int32.ofInt ((k : Int) - 1))), (3, .int (Int32.ofInt (x : Int))), (0, .ref 165), (1, .int (Int32.ofInt (p : Int)))]) (st' := [.ref 165, .int (Int32.ofInt ((k : Int) - 1)), .ref 186]) 2 rfl ?_
      refine xr_getf (v := .ref 181) rfl (ym_165 hA) rfl ?_
      refine xr_steps (pc' := 55) (L' := [(2, .int (Int32.ofInt ((k : Int) - 1))), (3, .int (Int32.ofInt (x : Int))), (0, .ref 165), (1, .int (Int32.ofInt (p : Int)))]) (st' := [.int (Int32.ofInt (x : Int)), .ref 181, .int (Int32.ofInt ((k : Int) - 1)), .ref 186]) 1 rfl ?_
      refine ym_iaload (e := (va_up t 186 g) 181 (x : Int).toNat) hA rfl rfl (by decide) (by omega) (by omega) rfl ?_
      rw [show (x : Int).toNat = x by omega]
      rw [show (va_up t 186 g) 181 x = xcv cc from h3]
      refine ym_iastore hA rfl rfl (by decide) (by omega) (by omega) ?_
      refine xr_steps (pc' := 58) (L' := [(2, .int (Int32.ofInt ((k : Int) - 1))), (3, .int (Int32.ofInt (x : Int))), (0, .ref 165), (1, .int (Int32.ofInt (p : Int)))]) (st' := [.ref 165]) 1 rfl ?_
      refine xr_getf (v := .ref 180) rfl (ym_165 hA) rfl ?_
      refine xr_steps (pc' := 62) (L' := [(2, .int (Int32.ofInt ((k : Int) - 1))), (3, .int (Int32.ofInt (x : Int))), (0, .ref 165), (1, .int (Int32.ofInt (p : Int)))]) (st' := [.int (Int32.ofInt (x : Int)), .ref 180]) 1 rfl ?_
      refine ym_iaload (e := (va_up t 186 g) 180 (x : Int).toNat) hA rfl rfl (by decide) (by omega) (by omega) rfl ?_
      rw [show (x : Int).toNat = x by omega]
      rw [show (va_up t 186 g) 180 x = (ob : Int) from h1]
      refine xr_steps (pc' := 38) (L' := [(3, .int (Int32.ofInt (ob : Int))), (2, .int (Int32.ofInt ((k : Int) - 1))), (0, .ref 165), (1, .int (Int32.ofInt (p : Int)))]) (st' := []) 2 rfl ?_
      refine xr_loc (L := [(3, .int (Int32.ofInt (ob : Int))), (2, .int (Int32.ofInt ((k : Int) - 1))), (0, .ref 165), (1, .int (Int32.ofInt (p : Int)))]) (show [3, 2, 0, 1].Nodup by decide) ⟨rfl, rfl, rfl, rfl, trivial⟩ ?_
      rw [show ((k : Int) - 1).toNat = (pth ob).length by omega, show (k : Int) - 1 = ((pth ob).length : Int) by omega, ya_up_same, xup2]
      refine ih ob h2 (pth ob).length (va_up g (pth ob).length (xcv cc)) (by omega) rfl ⟨[cc] ++ rest, by rw [hr, h4, List.append_assoc]⟩ (fun j hj1 hj2 => ?_) hQ
      by_cases e : j = (pth ob).length
      · rw [e, ya_up_same, hr, h4, List.append_assoc]
        congr 1
        rw [List.getD_eq_getElem?_getD, List.getElem?_append_right (Nat.le_refl _), Nat.sub_self]
        rfl
      · rw [ya_up_ne _ _ e]
        exact hg j (by omega) hj2
theorem mo_242 (hA : 194 ≤ A.1) (hS : xSPT t K pth) (hK : K ≤ 768) (hp : p < K) (h50 : (pth p).length ≤ 50) : xr_ok (xt_G w) d 242 0 [(0, .ref 165), (1, .int (Int32.ofInt (p : Int)))] [] (ym A s t) (fun o A' => ∃ v0, o = .inl v0 ∧ v0 = none ∧ ∃ g : Nat → Int, A' = ym A (va_up s 27 ((pth p).length : Int)) (va_up t 186 g) ∧ xrow g (pth p)) := by
  refine xr_steps (pc' := 2) (L' := [(0, .ref 165), (1, .int (Int32.ofInt (p : Int)))]) (st' := [.int (Int32.ofInt 0), .ref 165]) 2 rfl ?_
  refine ym_putI hA rfl rfl rfl ?_
  refine xr_steps (pc' := 7) (L' := [(2, .int (Int32.ofInt (p : Int))), (0, .ref 165), (1, .int (Int32.ofInt (p : Int)))]) (st' := []) 2 rfl ?_
  refine xr_loc (L := [(2, .int (Int32.ofInt (p : Int))), (0, .ref 165), (1, .int (Int32.ofInt (p : Int)))]) (show [2, 0, 1].Nodup by decide) ⟨rfl, rfl, rfl, trivial⟩ ?_
  have hz : ∀ z : Int, z = ((0 : Nat) : Int) → xr_ok (xt_G w) d 242 7 [(2, .int (Int32.ofInt (p : Int))), (0, .ref 165), (1, .int (Int32.ofInt (p : Int)))] [] (ym A (va_up s 27 z) t) (fun o A' => ∃ v0, o = .inl v0 ∧ v0 = none ∧ ∃ g : Nat → Int, A' = ym A (va_up s 27 ((pth p).length : Int)) (va_up t 186 g) ∧ xrow g (pth p)) := by
    intro z hz; subst hz
    refine mo_242a hA hS hK h50 p 0 hp (by omega) ?_
    refine xr_steps (pc' := 32) (L' := [(0, .ref 165), (1, .int (Int32.ofInt (p : Int)))]) (st' := [.ref 165]) 1 rfl ?_
    refine xr_getf (v := .int (Int32.ofInt ((pth p).length : Int))) rfl (ym_165 hA) rfl ?_
    refine xr_steps (pc' := 38) (L' := [(3, .int (Int32.ofInt (p : Int))), (2, .int (Int32.ofInt ((pth p).length : Int))), (0, .ref 165), (1, .int (Int32.ofInt (p : Int)))]) (st' := []) 3 rfl ?_
    refine xr_loc (L := [(3, .int (Int32.ofInt (p : Int))), (2, .int (Int32.ofInt ((pth p).length : Int))), (0, .ref 165), (1, .int (Int32.ofInt (p : Int)))]) (show [3, 2, 0, 1].Nodup by decide) ⟨rfl, rfl, rfl, rfl, trivial⟩ ?_
    have hL := mo_242b (w := w) (d := d) (s := s) (Q := fun o A' => ∃ v0, o = .inl v0 ∧ v0 = none ∧ ∃ g : Nat → Int, A' = ym A (va_up s 27 ((pth p).length : Int)) (va_up t 186 g) ∧ xrow g (pth p)) hA hS hK h50 p (pth p).length (t 186) hp rfl ⟨[], by rw [List.append_nil]⟩ (fun j h1 h2 => absurd h2 (by omega)) (fun g hg => ⟨_, rfl, rfl, g, rfl, hg⟩)
    rw [xup_id] at hL
    exact hL
  exact hz 0 rfl
end LY
section LI
variable {w : Value} {d : Nat} {A : xb_H} {s : Nat → Int} {R : Nat} {l : List Int} {kd : Int} {Q : xb_R → xb_H → Prop}
theorem mo_243l (hA : 194 ≤ A.1) (hR : R < 30) (h13 : s 13 = (R : Int)) (h27 : s 27 = (l.length : Int)) (hpl : xpl0 l) (h5 : l.length ≤ 5) : ∀ (k i : Nat) (t : Nat → Nat → Int) (C : List Int), i + k = l.length → xRW t R C → C.length ≤ 1 + 4 * i → xrow (t 186) l → (∀ t' : Nat → Nat → Int, xRW t' R (C ++ xwP (l.drop i)) → xPU t t' R → xr_ok (xt_G w) (d + 1) 243 153 [(0, .ref 165), (1, .int (Int32.ofInt kd))] [] (ym A s t') Q) → xr_ok (xt_G w) (d + 1) 243 42 [(2, .int (Int32.ofInt (i : Int))), (0, .ref 165), (1, .int (Int32.ofInt kd))] [] (ym A s t) Q := by
  intro k
  induction k using Nat.strongRecOn with
  | _ k ih =>
    intro i t C hi hc hC hrow hQ
    refine xr_steps (pc' := 44) (L' := [(2, .int (Int32.ofInt (i : Int))), (0, .ref 165), (1, .int (Int32.ofInt kd))]) (st' := [.ref 165, .int (Int32.ofInt (i : Int))]) 2 rfl ?_
    refine xr_getf (v := .int (Int32.ofInt (s 27))) rfl (ym_165 hA) rfl ?_
    rw [h27]
    refine xr_icmp_ge rfl (by omega) (by omega) (fun z31 => ?_) (fun z31 => ?_)
    · refine xr_loc (L := [(0, .ref 165), (1, .int (Int32.ofInt kd))]) (show [0, 1].Nodup by decide) ⟨rfl, rfl, trivial⟩ ?_
      obtain rfl : i = l.length := by omega
      refine hQ t ?_ (xPU_refl t R)
      rw [List.drop_length, show xwP [] = [] from rfl, List.append_nil]
      exact hc
    · refine xr_steps (pc' := 51) (L' := [(2, .int (Int32.ofInt (i : Int))), (0, .ref 165), (1, .int (Int32.ofInt kd))]) (st' := [.ref 165]) 1 rfl ?_
      refine xr_getf (v := .ref 186) rfl (ym_165 hA) rfl ?_
      refine xr_steps (pc' := 55) (L' := [(2, .int (Int32.ofInt (i : Int))), (0, .ref 165), (1, .int (Int32.ofInt kd))]) (st' := [.int (Int32.ofInt (i : Int)), .ref 186]) 1 rfl ?_
      refine ym_iaload (e := t 186 (i : Int).toNat) hA rfl rfl (by decide) (by omega) (by omega) rfl ?_
      rw [show (i : Int).toNat = i by omega]
      rw [hrow i (by omega)]
      have hcv := xcv_rng hpl (show i < l.length by omega)
      refine xr_steps (pc' := 58) (L' := [(3, .int (Int32.ofInt (xcv (l.getD i 0)))), (2, .int (Int32.ofInt (i : Int))), (0, .ref 165), (1, .int (Int32.ofInt kd))]) (st' := [.int (Int32.ofInt (xcv (l.getD i 0)))]) 2 rfl ?_
      refine xr_if_le rfl (by omega) (fun z32 => ?_) (fun z32 => ?_)
      · refine xr_steps (pc' := 85) (L' := [(3, .int (Int32.ofInt (xcv (l.getD i 0)))), (2, .int (Int32.ofInt (i : Int))), (0, .ref 165), (1, .int (Int32.ofInt kd))]) (st' := [.int (Int32.ofInt (xcv (l.getD i 0))), .int (Int32.ofInt (-1))]) 2 rfl ?_
        refine xr_isub rfl ?_
        refine xr_steps (pc' := 90) (L' := [(4, .int (Int32.ofInt ((-1) - (xcv (l.getD i 0))))), (3, .int (Int32.ofInt (xcv (l.getD i 0)))), (2, .int (Int32.ofInt (i : Int))), (0, .ref 165), (1, .int (Int32.ofInt kd))]) (st' := [.ref 165, .ref 165]) 3 rfl ?_
        refine xr_getf (v := .int (Int32.ofInt (s 13))) rfl (ym_165 hA) rfl ?_
        rw [h13]
        refine xr_steps (pc' := 95) (L' := [(4, .int (Int32.ofInt ((-1) - (xcv (l.getD i 0))))), (3, .int (Int32.ofInt (xcv (l.getD i 0)))), (2, .int (Int32.ofInt (i : Int))), (0, .ref 165), (1, .int (Int32.ofInt kd))]) (st' := [.int (Int32.ofInt 91), .int (Int32.ofInt (R : Int)), .ref 165]) 1 rfl ?_
        refine xr_call (q := (.invokevirtual 218, 3, 244, 3)) (av := [.ref 165, .int (Int32.ofInt (R : Int)), .int (Int32.ofInt 91)]) (rest := []) rfl rfl (by decide) rfl (ym_rcv hA rfl) (Nat.le_of_ble_eq_true rfl) (mo_244 (R := R) (C := C) hA hR hc (by first | omega | (simp only [List.length_append, List.length_cons, List.length_nil]; omega)) (by omega)) ?_
        rintro _ _ ⟨rfl, T33, eA, c33, y33⟩
        rw [eA]
        clear eA
        have x33 := y33
        refine xr_steps (pc' := 102) (L' := [(4, .int (Int32.ofInt ((-1) - (xcv (l.getD i 0))))), (3, .int (Int32.ofInt (xcv (l.getD i 0)))), (2, .int (Int32.ofInt (i : Int))), (0, .ref 165), (1, .int (Int32.ofInt kd))]) (st' := [.int (Int32.ofInt 9), .int (Int32.ofInt ((-1) - (xcv (l.getD i 0))))]) 2 rfl ?_
        refine xr_icmp_le rfl (by omega) (by omega) (fun z34 => ?_) (fun z34 => ?_)
        · refine xr_steps (pc' := 123) (L' := [(4, .int (Int32.ofInt ((-1) - (xcv (l.getD i 0))))), (3, .int (Int32.ofInt (xcv (l.getD i 0)))), (2, .int (Int32.ofInt (i : Int))), (0, .ref 165), (1, .int (Int32.ofInt kd))]) (st' := [.ref 165, .ref 165]) 2 rfl ?_
          refine xr_getf (v := .int (Int32.ofInt (s 13))) rfl (ym_165 hA) rfl ?_
          rw [h13]
          refine xr_steps (pc' := 132) (L' := [(4, .int (Int32.ofInt ((-1) - (xcv (l.getD i 0))))), (3, .int (Int32.ofInt (xcv (l.getD i 0)))), (2, .int (Int32.ofInt (i : Int))), (0, .ref 165), (1, .int (Int32.ofInt kd))]) (st' := [.int (Int32.ofInt 10), .int (Int32.ofInt ((-1) - (xcv (l.getD i 0)))), .int (Int32.ofInt 48), .int (Int32.ofInt (R : Int)), .ref 165]) 3 rfl ?_
          refine xr_irem10 rfl (by omega) ?_
          refine xr_iadd rfl ?_
          refine xr_call (q := (.invokevirtual 218, 3, 244, 3)) (av := [.ref 165, .int (Int32.ofInt (R : Int)), .int (Int32.ofInt (48 + (((-1) - (xcv (l.getD i 0))) % 10)))]) (rest := []) rfl rfl (by decide) rfl (ym_rcv hA rfl) (Nat.le_of_ble_eq_true rfl) (mo_244 (R := R) (C := (C ++ [91])) hA hR c33 (by first | omega | (simp only [List.length_append, List.length_cons, List.length_nil]; omega)) (by omega)) ?_
          rintro _ _ ⟨rfl, T35, eA, c35, y35⟩
          rw [eA]
          clear eA
          have x35 := xPU_trans x33 y35
          refine xr_steps (pc' := 139) (L' := [(4, .int (Int32.ofInt ((-1) - (xcv (l.getD i 0))))), (3, .int (Int32.ofInt (xcv (l.getD i 0)))), (2, .int (Int32.ofInt (i : Int))), (0, .ref 165), (1, .int (Int32.ofInt kd))]) (st' := [.ref 165, .ref 165]) 2 rfl ?_
          refine xr_getf (v := .int (Int32.ofInt (s 13))) rfl (ym_165 hA) rfl ?_
          rw [h13]
          refine xr_steps (pc' := 144) (L' := [(4, .int (Int32.ofInt ((-1) - (xcv (l.getD i 0))))), (3, .int (Int32.ofInt (xcv (l.getD i 0)))), (2, .int (Int32.ofInt (i : Int))), (0, .ref 165), (1, .int (Int32.ofInt kd))]) (st' := [.int (Int32.ofInt 93), .int (Int32.ofInt (R : Int)), .ref 165]) 1 rfl ?_
          refine xr_call (q := (.invokevirtual 218, 3, 244, 3)) (av := [.ref 165, .int (Int32.ofInt (R : Int)), .int (Int32.ofInt 93)]) (rest := []) rfl rfl (by decide) rfl (ym_rcv hA rfl) (Nat.le_of_ble_eq_true rfl) (mo_244 (R := R) (C := ((C ++ [91]) ++ [48 + (((-1) - (xcv (l.getD i 0))) % 10)])) hA hR c35 (by first | omega | (simp only [List.length_append, List.length_cons, List.length_nil]; omega)) (by omega)) ?_
          rintro _ _ ⟨rfl, T36, eA, c36, y36⟩
          rw [eA]
          clear eA
          have x36 := xPU_trans x35 y36
          refine xr_iinc (L' := [(2, .int (Int32.ofInt ((i : Int) + 1))), (4, .int (Int32.ofInt ((-1) - (xcv (l.getD i 0))))), (3, .int (Int32.ofInt (xcv (l.getD i 0)))), (0, .ref 165), (1, .int (Int32.ofInt kd))]) rfl rfl rfl ?_
          refine xr_steps (pc' := 42) (L' := [(2, .int (Int32.ofInt ((i : Int) + 1))), (4, .int (Int32.ofInt ((-1) - (xcv (l.getD i 0))))), (3, .int (Int32.ofInt (xcv (l.getD i 0)))), (0, .ref 165), (1, .int (Int32.ofInt kd))]) (st' := []) 1 rfl ?_
          refine xr_loc (L := [(2, .int (Int32.ofInt ((i : Int) + 1))), (0, .ref 165), (1, .int (Int32.ofInt kd))]) (show [2, 0, 1].Nodup by decide) ⟨rfl, rfl, rfl, trivial⟩ ?_
          rw [show (i : Int) + 1 = ((i + 1 : Nat) : Int) by omega]
          have hw : (((C ++ [91]) ++ [48 + (((-1) - (xcv (l.getD i 0))) % 10)]) ++ [93]) = C ++ xwS (l.getD i 0) := by unfold xwS; rw [if_neg (by omega)]; unfold xdg; rw [if_neg (by omega), show ((48 + (l.getD i 0).toNat % 10 : Nat) : Int) = 48 + (-1 - xcv (l.getD i 0)) % 10 by omega, List.append_assoc, List.append_assoc]; rfl
          have hdrop := xl_drop (show i < l.length by omega)
          have hwl := xwS_len (l.getD i 0)
          rw [hw] at c36
          refine ih (k - 1) (by omega) (i + 1) T36 (C ++ xwS (l.getD i 0)) (by omega) c36 (by rw [List.length_append]; omega) (by rw [x36.1 186 (by omega) (by omega)]; exact hrow) (fun t' g1 g2 => hQ t' ?_ (xPU_trans x36 g2))
          rw [hdrop, show xwP ((l.getD i 0) :: l.drop (i + 1)) = xwS (l.getD i 0) ++ xwP (l.drop (i + 1)) from rfl, ← List.append_assoc]
          exact g1
        · refine xr_steps (pc' := 107) (L' := [(4, .int (Int32.ofInt ((-1) - (xcv (l.getD i 0))))), (3, .int (Int32.ofInt (xcv (l.getD i 0)))), (2, .int (Int32.ofInt (i : Int))), (0, .ref 165), (1, .int (Int32.ofInt kd))]) (st' := [.ref 165, .ref 165]) 2 rfl ?_
          refine xr_getf (v := .int (Int32.ofInt (s 13))) rfl (ym_165 hA) rfl ?_
          rw [h13]
          refine xr_steps (pc' := 116) (L' := [(4, .int (Int32.ofInt ((-1) - (xcv (l.getD i 0))))), (3, .int (Int32.ofInt (xcv (l.getD i 0)))), (2, .int (Int32.ofInt (i : Int))), (0, .ref 165), (1, .int (Int32.ofInt kd))]) (st' := [.int (Int32.ofInt 10), .int (Int32.ofInt ((-1) - (xcv (l.getD i 0)))), .int (Int32.ofInt 48), .int (Int32.ofInt (R : Int)), .ref 165]) 3 rfl ?_
          refine xr_idiv10 rfl (by omega) ?_
          refine xr_iadd rfl ?_
          refine xr_call (q := (.invokevirtual 218, 3, 244, 3)) (av := [.ref 165, .int (Int32.ofInt (R : Int)), .int (Int32.ofInt (48 + (((-1) - (xcv (l.getD i 0))) / 10)))]) (rest := []) rfl rfl (by decide) rfl (ym_rcv hA rfl) (Nat.le_of_ble_eq_true rfl) (mo_244 (R := R) (C := (C ++ [91])) hA hR c33 (by first | omega | (simp only [List.length_append, List.length_cons, List.length_nil]; omega)) (by omega)) ?_
          rintro _ _ ⟨rfl, T37, eA, c37, y37⟩
          rw [eA]
          clear eA
          have x37 := xPU_trans x33 y37
          refine xr_steps (pc' := 123) (L' := [(4, .int (Int32.ofInt ((-1) - (xcv (l.getD i 0))))), (3, .int (Int32.ofInt (xcv (l.getD i 0)))), (2, .int (Int32.ofInt (i : Int))), (0, .ref 165), (1, .int (Int32.ofInt kd))]) (st' := [.ref 165, .ref 165]) 2 rfl ?_
          refine xr_getf (v := .int (Int32.ofInt (s 13))) rfl (ym_165 hA) rfl ?_
          rw [h13]
          refine xr_steps (pc' := 132) (L' := [(4, .int (Int32.ofInt ((-1) - (xcv (l.getD i 0))))), (3, .int (Int32.ofInt (xcv (l.getD i 0)))), (2, .int (Int32.ofInt (i : Int))), (0, .ref 165), (1, .int (Int32.ofInt kd))]) (st' := [.int (Int32.ofInt 10), .int (Int32.ofInt ((-1) - (xcv (l.getD i 0)))), .int (Int32.ofInt 48), .int (Int32.ofInt (R : Int)), .ref 165]) 3 rfl ?_
          refine xr_irem10 rfl (by omega) ?_
          refine xr_iadd rfl ?_
          refine xr_call (q := (.invokevirtual 218, 3, 244, 3)) (av := [.ref 165, .int (Int32.ofInt (R : Int)), .int (Int32.ofInt (48 + (((-1) - (xcv (l.getD i 0))) % 10)))]) (rest := []) rfl rfl (by decide) rfl (ym_rcv hA rfl) (Nat.le_of_ble_eq_true rfl) (mo_244 (R := R) (C := ((C ++ [91]) ++ [48 + (((-1) - (xcv (l.getD i 0))) / 10)])) hA hR c37 (by first | omega | (simp only [List.length_append, List.length_cons, List.length_nil]; omega)) (by omega)) ?_
          rintro _ _ ⟨rfl, T38, eA, c38, y38⟩
          rw [eA]
          clear eA
          have x38 := xPU_trans x37 y38
          refine xr_steps (pc' := 139) (L' := [(4, .int (Int32.ofInt ((-1) - (xcv (l.getD i 0))))), (3, .int (Int32.ofInt (xcv (l.getD i 0)))), (2, .int (Int32.ofInt (i : Int))), (0, .ref 165), (1, .int (Int32.ofInt kd))]) (st' := [.ref 165, .ref 165]) 2 rfl ?_
          refine xr_getf (v := .int (Int32.ofInt (s 13))) rfl (ym_165 hA) rfl ?_
          rw [h13]
          refine xr_steps (pc' := 144) (L' := [(4, .int (Int32.ofInt ((-1) - (xcv (l.getD i 0))))), (3, .int (Int32.ofInt (xcv (l.getD i 0)))), (2, .int (Int32.ofInt (i : Int))), (0, .ref 165), (1, .int (Int32.ofInt kd))]) (st' := [.int (Int32.ofInt 93), .int (Int32.ofInt (R : Int)), .ref 165]) 1 rfl ?_
          refine xr_call (q := (.invokevirtual 218, 3, 244, 3)) (av := [.ref 165, .int (Int32.ofInt (R : Int)), .int (Int32.ofInt 93)]) (rest := []) rfl rfl (by decide) rfl (ym_rcv hA rfl) (Nat.le_of_ble_eq_true rfl) (mo_244 (R := R) (C := (((C ++ [91]) ++ [48 + (((-1) - (xcv (l.getD i 0))) / 10)]) ++ [48 + (((-1) - (xcv (l.getD i 0))) % 10)])) hA hR c38 (by first | omega | (simp only [List.length_append, List.length_cons, List.length_nil]; omega)) (by omega)) ?_
          rintro _ _ ⟨rfl, T39, eA, c39, y39⟩
          rw [eA]
          clear eA
          have x39 := xPU_trans x38 y39
          refine xr_iinc (L' := [(2, .int (Int32.ofInt ((i : Int) + 1))), (4, .int (Int32.ofInt ((-1) - (xcv (l.getD i 0))))), (3, .int (Int32.ofInt (xcv (l.getD i 0)))), (0, .ref 165), (1, .int (Int32.ofInt kd))]) rfl rfl rfl ?_
          refine xr_steps (pc' := 42) (L' := [(2, .int (Int32.ofInt ((i : Int) + 1))), (4, .int (Int32.ofInt ((-1) - (xcv (l.getD i 0))))), (3, .int (Int32.ofInt (xcv (l.getD i 0)))), (0, .ref 165), (1, .int (Int32.ofInt kd))]) (st' := []) 1 rfl ?_
          refine xr_loc (L := [(2, .int (Int32.ofInt ((i : Int) + 1))), (0, .ref 165), (1, .int (Int32.ofInt kd))]) (show [2, 0, 1].Nodup by decide) ⟨rfl, rfl, rfl, trivial⟩ ?_
          rw [show (i : Int) + 1 = ((i + 1 : Nat) : Int) by omega]
          have hw : ((((C ++ [91]) ++ [48 + (((-1) - (xcv (l.getD i 0))) / 10)]) ++ [48 + (((-1) - (xcv (l.getD i 0))) % 10)]) ++ [93]) = C ++ xwS (l.getD i 0) := by unfold xwS; rw [if_neg (by omega)]; unfold xdg; rw [if_pos (by omega), show ((48 + (l.getD i 0).toNat / 10 : Nat) : Int) = 48 + (-1 - xcv (l.getD i 0)) / 10 by omega, show ((48 + (l.getD i 0).toNat % 10 : Nat) : Int) = 48 + (-1 - xcv (l.getD i 0)) % 10 by omega, List.append_assoc, List.append_assoc, List.append_assoc]; rfl
          have hdrop := xl_drop (show i < l.length by omega)
          have hwl := xwS_len (l.getD i 0)
          rw [hw] at c39
          refine ih (k - 1) (by omega) (i + 1) T39 (C ++ xwS (l.getD i 0)) (by omega) c39 (by rw [List.length_append]; omega) (by rw [x39.1 186 (by omega) (by omega)]; exact hrow) (fun t' g1 g2 => hQ t' ?_ (xPU_trans x39 g2))
          rw [hdrop, show xwP ((l.getD i 0) :: l.drop (i + 1)) = xwS (l.getD i 0) ++ xwP (l.drop (i + 1)) from rfl, ← List.append_assoc]
          exact g1
      · refine xr_steps (pc' := 63) (L' := [(3, .int (Int32.ofInt (xcv (l.getD i 0)))), (2, .int (Int32.ofInt (i : Int))), (0, .ref 165), (1, .int (Int32.ofInt kd))]) (st' := [.ref 165, .ref 165]) 2 rfl ?_
        refine xr_getf (v := .int (Int32.ofInt (s 13))) rfl (ym_165 hA) rfl ?_
        rw [h13]
        refine xr_steps (pc' := 68) (L' := [(3, .int (Int32.ofInt (xcv (l.getD i 0)))), (2, .int (Int32.ofInt (i : Int))), (0, .ref 165), (1, .int (Int32.ofInt kd))]) (st' := [.int (Int32.ofInt 46), .int (Int32.ofInt (R : Int)), .ref 165]) 1 rfl ?_
        refine xr_call (q := (.invokevirtual 218, 3, 244, 3)) (av := [.ref 165, .int (Int32.ofInt (R : Int)), .int (Int32.ofInt 46)]) (rest := []) rfl rfl (by decide) rfl (ym_rcv hA rfl) (Nat.le_of_ble_eq_true rfl) (mo_244 (R := R) (C := C) hA hR hc (by first | omega | (simp only [List.length_append, List.length_cons, List.length_nil]; omega)) (by omega)) ?_
        rintro _ _ ⟨rfl, T40, eA, c40, y40⟩
        rw [eA]
        clear eA
        have x40 := y40
        refine xr_steps (pc' := 73) (L' := [(3, .int (Int32.ofInt (xcv (l.getD i 0)))), (2, .int (Int32.ofInt (i : Int))), (0, .ref 165), (1, .int (Int32.ofInt kd))]) (st' := [.ref 165, .ref 165]) 2 rfl ?_
        refine xr_getf (v := .int (Int32.ofInt (s 13))) rfl (ym_165 hA) rfl ?_
        rw [h13]
        refine xr_steps (pc' := 77) (L' := [(3, .int (Int32.ofInt (xcv (l.getD i 0)))), (2, .int (Int32.ofInt (i : Int))), (0, .ref 165), (1, .int (Int32.ofInt kd))]) (st' := [.int (Int32.ofInt (xcv (l.getD i 0))), .int (Int32.ofInt (R : Int)), .ref 165]) 1 rfl ?_
        refine xr_call (q := (.invokevirtual 218, 3, 244, 3)) (av := [.ref 165, .int (Int32.ofInt (R : Int)), .int (Int32.ofInt (xcv (l.getD i 0)))]) (rest := []) rfl rfl (by decide) rfl (ym_rcv hA rfl) (Nat.le_of_ble_eq_true rfl) (mo_244 (R := R) (C := (C ++ [46])) hA hR c40 (by first | omega | (simp only [List.length_append, List.length_cons, List.length_nil]; omega)) (by omega)) ?_
        rintro _ _ ⟨rfl, T41, eA, c41, y41⟩
        rw [eA]
        clear eA
        have x41 := xPU_trans x40 y41
        refine xr_steps (pc' := 147) (L' := [(3, .int (Int32.ofInt (xcv (l.getD i 0)))), (2, .int (Int32.ofInt (i : Int))), (0, .ref 165), (1, .int (Int32.ofInt kd))]) (st' := []) 1 rfl ?_
        refine xr_iinc (L' := [(2, .int (Int32.ofInt ((i : Int) + 1))), (3, .int (Int32.ofInt (xcv (l.getD i 0)))), (0, .ref 165), (1, .int (Int32.ofInt kd))]) rfl rfl rfl ?_
        refine xr_steps (pc' := 42) (L' := [(2, .int (Int32.ofInt ((i : Int) + 1))), (3, .int (Int32.ofInt (xcv (l.getD i 0)))), (0, .ref 165), (1, .int (Int32.ofInt kd))]) (st' := []) 1 rfl ?_
        refine xr_loc (L := [(2, .int (Int32.ofInt ((i : Int) + 1))), (0, .ref 165), (1, .int (Int32.ofInt kd))]) (show [2, 0, 1].Nodup by decide) ⟨rfl, rfl, rfl, trivial⟩ ?_
        rw [show (i : Int) + 1 = ((i + 1 : Nat) : Int) by omega]
        have hw : ((C ++ [46]) ++ [(xcv (l.getD i 0))]) = C ++ xwS (l.getD i 0) := by unfold xwS; rw [if_pos (by omega), show (l.getD i 0) - 1000 = xcv (l.getD i 0) by omega, List.append_assoc]; rfl
        have hdrop := xl_drop (show i < l.length by omega)
        have hwl := xwS_len (l.getD i 0)
        rw [hw] at c41
        refine ih (k - 1) (by omega) (i + 1) T41 (C ++ xwS (l.getD i 0)) (by omega) c41 (by rw [List.length_append]; omega) (by rw [x41.1 186 (by omega) (by omega)]; exact hrow) (fun t' g1 g2 => hQ t' ?_ (xPU_trans x41 g2))
        rw [hdrop, show xwP ((l.getD i 0) :: l.drop (i + 1)) = xwS (l.getD i 0) ++ xwP (l.drop (i + 1)) from rfl, ← List.append_assoc]
        exact g1
end LI
/-! The reference: list, happen, tear -/
/-- what is listed: ms -/
def xLS (s : Nat → Int) (t : Nat → Nat → Int) (ms : List (Int × List Int)) : Prop := (s 13 = (xmn ms : Int) ∧ ∀ (k : Nat) (e : Int × List Int), k < 30 → ms[k]? = some e → t 175 k = e.1 ∧ xRW t k (36 :: xwP e.2)) ∧ ∀ j : Nat, j < 30 → 0 ≤ t 176 j ∧ t 176 j ≤ 24
section LK
variable {w : Value} {d : Nat} {A : xb_H} {s : Nat → Int} {t : Nat → Nat → Int} {R : Nat} {l : List Int} {kd : Int} {ms : List (Int × List Int)} {Q : xb_R → xb_H → Prop}
theorem xLS_full (h : xLS s t ms) (h30 : 30 ≤ ms.length) (e0 : Int × List Int) : xLS s t (ms ++ [e0]) := by
  obtain ⟨⟨h1, h2⟩, h3⟩ := h
  refine ⟨⟨?_, fun k e hk he => h2 k e hk ?_⟩, h3⟩
  · rw [h1]
    unfold xmn
    rw [List.length_append, List.length_singleton]
    omega
  · rw [List.getElem?_append_left (by omega)] at he
    exact he
theorem xLS_add {t' : Nat → Nat → Int} {s' : Nat → Int} (h : xLS s t ms) (hR : ms.length = R ∧ R < 30) (h13 : s' 13 = (R : Int) + 1) (h175 : t' 175 = va_up (t 175) R kd) (hrw : xRW t' R (36 :: xwP l)) (h176 : ∀ j : Nat, ¬ j = R → t' 176 j = t 176 j) (h177 : ∀ i : Nat, ¬ (24 * R ≤ i ∧ i < 24 * R + 24) → t' 177 i = t 177 i) (hl : l.length ≤ 5) : xLS s' t' (ms ++ [(kd, l)]) := by
  obtain ⟨⟨h1, h2⟩, h3⟩ := h
  refine ⟨⟨?_, fun k e hk he => ?_⟩, fun j hj => ?_⟩
  · rw [h13]
    unfold xmn
    rw [List.length_append, List.length_singleton]
    omega
  · by_cases ek : k = R
    · rw [ek, ← hR.1, List.getElem?_append_right (Nat.le_refl _), Nat.sub_self] at he
      cases he
      rw [ek]
      exact ⟨by rw [h175, ya_up_same], hrw⟩
    · have hkl : k < ms.length := by
        have := (List.getElem?_eq_some_iff.mp he).1
        rw [List.length_append, List.length_singleton] at this
        omega
      rw [List.getElem?_append_left hkl] at he
      obtain ⟨g1, g2, g3⟩ := h2 k e hk he
      have hlen : (36 :: xwP e.2).length ≤ 24 := by
        have := (h3 k hk).2
        omega
      refine ⟨by rw [h175, ya_up_ne _ _ ek]; exact g1, by rw [h176 k ek]; exact g2, fun j hj => ?_⟩
      rw [h177 _ (by omega)]
      exact g3 j hj
  · by_cases ej : j = R
    · rw [ej, hrw.1, List.length_cons]
      have := xwP_len l
      omega
    · rw [h176 j ej]; exact h3 j hj
theorem mo_243 (hA : 194 ≤ A.1) (h : xLS s t ms) (hp : xpst s t l) (h5 : l.length ≤ 5) : xr_ok (xt_G w) (d + 1) 243 0 [(0, .ref 165), (1, .int (Int32.ofInt kd))] [] (ym A s t) (fun o A' => ∃ v0, o = .inl v0 ∧ v0 = none ∧ ∃ (s' : Nat → Int) (t' : Nat → Nat → Int), A' = ym A s' t' ∧ xLS s' t' (ms ++ [(kd, l)]) ∧ (∀ x : Nat, ¬ x = 13 → s' x = s x) ∧ ∀ x : Nat, ¬ (175 ≤ x ∧ x ≤ 177) → t' x = t x) := by
  obtain ⟨R, hx⟩ : ∃ R, R = xmn ms := ⟨_, rfl⟩
  have h13 : s 13 = (R : Int) := by rw [hx]; exact h.1.1
  have hR30 : R ≤ 30 := by rw [hx]; exact Nat.min_le_left _ _
  refine xr_steps (pc' := 1) (L' := [(0, .ref 165), (1, .int (Int32.ofInt kd))]) (st' := [.ref 165]) 1 rfl ?_
  refine xr_getf (v := .int (Int32.ofInt (s 13))) rfl (ym_165 hA) rfl ?_
  rw [h13]
  refine xr_steps (pc' := 6) (L' := [(0, .ref 165), (1, .int (Int32.ofInt kd))]) (st' := [.int (Int32.ofInt 30), .int (Int32.ofInt (R : Int))]) 1 rfl ?_
  refine xr_icmp_lt rfl (by omega) (by omega) (fun z31 => ?_) (fun z31 => ?_)
  · refine xr_steps (pc' := 11) (L' := [(0, .ref 165), (1, .int (Int32.ofInt kd))]) (st' := [.ref 165]) 1 rfl ?_
    refine xr_getf (v := .ref 175) rfl (ym_165 hA) rfl ?_
    refine xr_steps (pc' := 15) (L' := [(0, .ref 165), (1, .int (Int32.ofInt kd))]) (st' := [.ref 165, .ref 175]) 1 rfl ?_
    refine xr_getf (v := .int (Int32.ofInt (s 13))) rfl (ym_165 hA) rfl ?_
    rw [h13]
    refine xr_steps (pc' := 19) (L' := [(0, .ref 165), (1, .int (Int32.ofInt kd))]) (st' := [.int (Int32.ofInt kd), .int (Int32.ofInt (R : Int)), .ref 175]) 1 rfl ?_
    refine ym_iastore hA rfl rfl (by decide) (by omega) (by omega) ?_
    rw [show (R : Int).toNat = R by omega]
    refine xr_steps (pc' := 21) (L' := [(0, .ref 165), (1, .int (Int32.ofInt kd))]) (st' := [.ref 165]) 1 rfl ?_
    refine xr_getf (v := .ref 176) rfl (ym_165 hA) rfl ?_
    refine xr_steps (pc' := 25) (L' := [(0, .ref 165), (1, .int (Int32.ofInt kd))]) (st' := [.ref 165, .ref 176]) 1 rfl ?_
    refine xr_getf (v := .int (Int32.ofInt (s 13))) rfl (ym_165 hA) rfl ?_
    rw [h13]
    refine xr_steps (pc' := 29) (L' := [(0, .ref 165), (1, .int (Int32.ofInt kd))]) (st' := [.int (Int32.ofInt 0), .int (Int32.ofInt (R : Int)), .ref 176]) 1 rfl ?_
    refine ym_iastore hA rfl rfl (by decide) (by omega) (by omega) ?_
    rw [show (R : Int).toNat = R by omega]
    refine xr_steps (pc' := 32) (L' := [(0, .ref 165), (1, .int (Int32.ofInt kd))]) (st' := [.ref 165, .ref 165]) 2 rfl ?_
    refine xr_getf (v := .int (Int32.ofInt (s 13))) rfl (ym_165 hA) rfl ?_
    rw [h13]
    refine xr_steps (pc' := 37) (L' := [(0, .ref 165), (1, .int (Int32.ofInt kd))]) (st' := [.int (Int32.ofInt 36), .int (Int32.ofInt (R : Int)), .ref 165]) 1 rfl ?_
    obtain ⟨T0, eT0⟩ : ∃ T0, va_up (va_up t 175 (va_up (t 175) R kd)) 176 (va_up ((va_up t 175 (va_up (t 175) R kd)) 176) R 0) = T0 := ⟨_, rfl⟩
    rw [eT0]
    have z176 : T0 176 = va_up (t 176) R 0 := by rw [← eT0, ya_up_same, ya_up_ne _ _ (by omega)]
    have z175 : T0 175 = va_up (t 175) R kd := by rw [← eT0, ya_up_ne _ _ (by omega), ya_up_same]
    have zx : ∀ x : Nat, ¬ x = 175 → ¬ x = 176 → T0 x = t x := fun x a b => by rw [← eT0, ya_up_ne _ _ b, ya_up_ne _ _ a]
    refine xr_call (q := (.invokevirtual 218, 3, 244, 3)) (av := [.ref 165, .int (Int32.ofInt (R : Int)), .int (Int32.ofInt 36)]) (rest := []) rfl rfl (by decide) rfl (ym_rcv hA rfl) (Nat.le_of_ble_eq_true rfl) (mo_244 (t := T0) (C := []) hA (by omega) ⟨by rw [z176, ya_up_same]; rfl, fun j hj => absurd hj (Nat.not_lt_zero _)⟩ (by decide) (by omega)) ?_
    rintro _ _ ⟨rfl, T1, eA, c1, y1⟩
    rw [eA]
    clear eA
    refine xr_steps (pc' := 42) (L' := [(2, .int (Int32.ofInt 0)), (0, .ref 165), (1, .int (Int32.ofInt kd))]) (st' := []) 2 rfl ?_
    refine xr_loc (L := [(2, .int (Int32.ofInt 0)), (0, .ref 165), (1, .int (Int32.ofInt kd))]) (show [2, 0, 1].Nodup by decide) ⟨rfl, rfl, rfl, trivial⟩ ?_
    refine mo_243l (R := R) (l := l) (s := s) hA (by omega) h13 hp.1 hp.2.2.2 h5 l.length 0 T1 ([] ++ [36]) (by omega) c1 (by decide) (by rw [y1.1 186 (by omega) (by omega), zx 186 (by omega) (by omega)]; exact hp.2.2.1) (fun T2 c2 y2 => ?_)
    refine xr_steps (pc' := 155) (L' := [(0, .ref 165), (1, .int (Int32.ofInt kd))]) (st' := [.ref 165, .ref 165]) 2 rfl ?_
    refine xr_getf (v := .int (Int32.ofInt (s 13))) rfl (ym_165 hA) rfl ?_
    rw [h13]
    refine xr_steps (pc' := 159) (L' := [(0, .ref 165), (1, .int (Int32.ofInt kd))]) (st' := [.int (Int32.ofInt 1), .int (Int32.ofInt (R : Int)), .ref 165]) 1 rfl ?_
    refine xr_iadd rfl ?_
    refine ym_putI hA rfl rfl rfl ?_
    have y3 := xPU_trans y1 y2
    refine xr_retN rfl rfl ⟨_, rfl, rfl, _, T2, rfl, xLS_add (R := R) h (by unfold xmn at hx; omega) (ya_up_same _ _ _) ?_ ?_ ?_ ?_ h5, fun x hx => ya_up_ne _ _ hx, fun x hx => ?_⟩
    · rw [y3.1 175 (by omega) (by omega), z175]
    · rw [List.drop_zero] at c2; exact c2
    · intro j hj; rw [y3.2.1 j hj, z176, ya_up_ne _ _ hj]
    · intro i hi; rw [y3.2.2 i hi, zx 177 (by omega) (by omega)]
    · rw [y3.1 x (by omega) (by omega), zx x (by omega) (by omega)]
  · refine xr_retN rfl rfl ⟨_, rfl, rfl, s, t, rfl, xLS_full h ?_ _, fun _ _ => rfl, fun _ _ => rfl⟩
    unfold xmn at hx
    omega
theorem mo_239 {E : Nat} {c e : Int} (hA : 194 ≤ A.1) (he : s 11 = (E : Int)) (hE : E < 3100) : xr_ok (xt_G w) d 239 0 [(0, .ref 165), (1, .int (Int32.ofInt c)), (2, .int (Int32.ofInt e))] [] (ym A s t) (fun o A' => ∃ v0, o = .inl v0 ∧ v0 = none ∧ A' = ym A (va_up s 11 ((E : Int) + 1)) (va_up t 174 (va_up (t 174) E (10 * c + e)))) := by
  refine xr_steps (pc' := 1) (L' := [(0, .ref 165), (1, .int (Int32.ofInt c)), (2, .int (Int32.ofInt e))]) (st' := [.ref 165]) 1 rfl ?_
  refine xr_getf (v := .ref 174) rfl (ym_165 hA) rfl ?_
  refine xr_steps (pc' := 5) (L' := [(0, .ref 165), (1, .int (Int32.ofInt c)), (2, .int (Int32.ofInt e))]) (st' := [.ref 165, .ref 174]) 1 rfl ?_
  refine xr_getf (v := .int (Int32.ofInt (s 11))) rfl (ym_165 hA) rfl ?_
  rw [he]
  refine xr_steps (pc' := 11) (L' := [(0, .ref 165), (1, .int (Int32.ofInt c)), (2, .int (Int32.ofInt e))]) (st' := [.int (Int32.ofInt c), .int (Int32.ofInt 10), .int (Int32.ofInt (E : Int)), .ref 174]) 2 rfl ?_
  refine xr_imul rfl ?_
  refine xr_steps (pc' := 13) (L' := [(0, .ref 165), (1, .int (Int32.ofInt c)), (2, .int (Int32.ofInt e))]) (st' := [.int (Int32.ofInt e), .int (Int32.ofInt (10 * c)), .int (Int32.ofInt (E : Int)), .ref 174]) 1 rfl ?_
  refine xr_iadd rfl ?_
  refine ym_iastore hA rfl rfl (by decide) (by omega) (by omega) ?_
  rw [show (E : Int).toNat = E by omega]
  refine xr_steps (pc' := 17) (L' := [(0, .ref 165), (1, .int (Int32.ofInt c)), (2, .int (Int32.ofInt e))]) (st' := [.ref 165, .ref 165]) 2 rfl ?_
  refine xr_getf (v := .int (Int32.ofInt (s 11))) rfl (ym_165 hA) rfl ?_
  rw [he]
  refine xr_steps (pc' := 21) (L' := [(0, .ref 165), (1, .int (Int32.ofInt c)), (2, .int (Int32.ofInt e))]) (st' := [.int (Int32.ofInt 1), .int (Int32.ofInt (E : Int)), .ref 165]) 1 rfl ?_
  refine xr_iadd rfl ?_
  refine ym_putI hA rfl rfl rfl ?_
  exact xr_retN rfl rfl ⟨_, rfl, rfl, rfl⟩
end LK
