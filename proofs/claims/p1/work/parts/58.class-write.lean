/-! ContractDesk.write as a whole -/
theorem ya_app_eq {f g : Nat → Int} {p : Nat} (l : List Int) (h : ∀ j, j < p → f j = g j) : ∀ j, j < p + l.length → ya_app f p l j = ya_app g p l j := by
  intro j hj
  rw [ya_app_get, ya_app_get]
  by_cases h1 : p ≤ j ∧ j < p + l.length
  · rw [if_pos h1, if_pos h1]
  · rw [if_neg h1, if_neg h1]
    exact h j (by omega)
def yd (n : Int) : xb_O := .inr (0, [.ref 65, .ref 67, .int (Int32.ofInt n), .ref 68, .ref 71])
theorem wl_loop2 {w : Value} {d : Nat} {x : Int64} {m : Int32} {dn : Int} {Q : xb_R → xb_H → Prop} : ∀ (K : Nat) (A : xb_H) (v n c : Nat) (f : Nat → Int) (nn : Int) (o : Option (Bool × Int32)), K ≤ 8 → yb A 65 v n m c f → xb_get A 64 = some (yd dn) → c + (xw_chars x K).length ≤ 100 → (∀ ch ∈ xw_chars x K, 32 ≤ ch ∧ ch ≤ 126) →
    (∀ (A' : xb_H) (v' n' : Nat) (f' : Nat → Int), yb A' 65 v' n' m (c + (xw_chars x K).length) f' → (n' = n ∨ n' ≤ 202) → (∀ j, j < c + (xw_chars x K).length → f' j = ya_app f c (xw_chars x K) j) → yfr A A' [65, v] K (602 * K) → (v' = v ∨ A.1 ≤ v') → Q (.inl (some (.int 1))) A') →
    xr_ok (xt_G w) (d + 1 + 1 + 1 + 1 + 1 + 1) 11 79 (xw_M 64 x (8 * (K : Int) - 8) nn o) [] A Q := by
  intro K
  induction K with
  | zero =>
    intro A v n c f nn o hk hb h64 hl hch hQ
    refine xr_steps (pc' := 81) (L' := xw_M 64 x (8 * ((0 : Nat) : Int) - 8) nn o) (st' := [.int (Int32.ofInt (8 * ((0 : Nat) : Int) - 8))]) 1 rfl ?_
    refine xr_if_lt rfl (by omega) (fun _ => ?_) (fun h => absurd (show 8 * ((0 : Nat) : Int) - 8 < 0 by omega) h)
    refine xr_steps (pc' := 115) (L' := xw_M 64 x (8 * ((0 : Nat) : Int) - 8) nn o) (st' := [.int 1]) 1 rfl ?_
    refine xr_retB rfl rfl rfl rfl (hQ A v n f hb (Or.inl rfl) (fun j _ => rfl) (yfr_refl _ _ _ _) (Or.inl rfl))
  | succ k ih =>
    intro A v n c f nn o hk hb h64 hl hch hQ
    have es : 8 * ((k + 1 : Nat) : Int) - 8 = 8 * (k : Int) := by omega
    rw [es]
    refine xr_steps (pc' := 81) (L' := xw_M 64 x (8 * (k : Int)) nn o) (st' := [.int (Int32.ofInt (8 * (k : Int)))]) 1 rfl ?_
    refine xr_if_lt rfl (by omega) (fun h => absurd h (by omega)) (fun _ => ?_)
    obtain ⟨hc, ec⟩ := xw_by_ok x (Int32.ofInt (8 * (k : Int)))
    refine xr_steps (pc' := 87) (L' := xw_M 64 x (8 * (k : Int)) nn o) (st' := [.int (Int32.ofInt (8 * (k : Int))), .long x]) 2 (by rcases o with _ | ⟨_ | _, c⟩ <;> rfl) ?_
    refine xr_call (q := (.invokestatic 36, 3, 12, 2)) (av := [.long x, .int (Int32.ofInt (8 * (k : Int)))]) (rest := []) rfl rfl (by decide) rfl rfl (Nat.le_of_ble_eq_true rfl) mm_12 ?_
    rintro _ _ ⟨rfl, eA⟩
    rw [eA, ec]
    clear eA
    rw [xw_chars] at hl hch hQ
    generalize xw_by x (Int32.ofInt (8 * (k : Int))) = ch at hc ec hl hch hQ ⊢
    refine xr_steps (pc' := 94) (L' := [(5, .int (Int32.ofInt ch)), (4, .int (Int32.ofInt (8 * (k : Int)))), (3, .int (Int32.ofInt nn)), (0, .ref 64), (1, .long x)]) (st' := [.int (Int32.ofInt ch)]) 2 (by rcases o with _ | ⟨_ | _, c⟩ <;> rfl) ?_
    have next : ∀ (A1 : xb_H) (Q1 : xb_R → xb_H → Prop), xr_ok (xt_G w) (d + 1 + 1 + 1 + 1 + 1 + 1) 11 79 (xw_M 64 x (8 * (k : Int) - 8) nn (some (false, Int32.ofInt ch))) [] A1 Q1 → xr_ok (xt_G w) (d + 1 + 1 + 1 + 1 + 1 + 1) 11 108 [(5, .int (Int32.ofInt ch)), (4, .int (Int32.ofInt (8 * (k : Int)))), (3, .int (Int32.ofInt nn)), (0, .ref 64), (1, .long x)] [] A1 Q1 := by
      intro A1 Q1 h
      refine xr_iincn (n := 8) (L' := [(4, .int (Int32.ofInt (8 * (k : Int) - 8))), (5, .int (Int32.ofInt ch)), (3, .int (Int32.ofInt nn)), (0, .ref 64), (1, .long x)]) rfl rfl rfl ?_
      refine xr_steps (pc' := 79) (L' := xw_M 64 x (8 * (k : Int) - 8) nn (some (false, Int32.ofInt ch))) (st' := []) 1 rfl ?_
      exact h
    refine xr_if_eq rfl (by omega) (fun h0 => ?_) (fun h0 => ?_)
    · rw [if_pos h0] at hl hch hQ
      refine next A Q (ih A v n c f nn _ (by omega) hb h64 hl hch (fun A' v' n' f' q1 q2 q3 q4 q5 => hQ A' v' n' f' q1 q2 q3 ?_ q5))
      exact yfr_mono q4 (fun x hx => Or.inl hx) (by omega) (by omega)
    · rw [if_neg h0] at hl hch hQ
      rw [List.length_cons] at hl hQ
      have hch0 := hch ch List.mem_cons_self
      refine xr_steps (pc' := 98) (L' := [(5, .int (Int32.ofInt ch)), (4, .int (Int32.ofInt (8 * (k : Int)))), (3, .int (Int32.ofInt nn)), (0, .ref 64), (1, .long x)]) (st' := [.ref 64]) 1 rfl ?_
      refine xr_getf (v := .ref 65) rfl h64 rfl ?_
      refine xr_steps (pc' := 103) (L' := [(5, .int (Int32.ofInt ch)), (4, .int (Int32.ofInt (8 * (k : Int)))), (3, .int (Int32.ofInt nn)), (0, .ref 64), (1, .long x)]) (st' := [.int (Int32.ofInt ch), .ref 65]) 1 rfl ?_
      refine xr_i2c rfl (by omega) ?_
      refine xr_call (q := (.invokevirtual 44, 3, 15, 2)) (av := [.ref 65, .int (Int32.ofInt ch)]) (rest := []) rfl rfl (by decide) rfl (xr_rcv rfl hb.1) (Nat.le_of_ble_eq_true rfl) (mb_15 hb (by omega) (by omega)) ?_
      rintro _ A1 ⟨rfl, v1, n1, f1, hb1, hn1, hf1, hfc, fr1, hv1⟩
      refine xr_steps (pc' := 108) (L' := [(5, .int (Int32.ofInt ch)), (4, .int (Int32.ofInt (8 * (k : Int)))), (3, .int (Int32.ofInt nn)), (0, .ref 64), (1, .long x)]) (st' := []) 1 rfl ?_
      have hv64 : ¬ v = 64 := by
        intro e
        have := hb.2.1
        rw [e, h64] at this
        cases this
      have h64' : xb_get A1 64 = some (yd dn) := yfr_get fr1 h64 (by simp only [List.mem_cons, List.not_mem_nil, or_false]; omega)
      refine next A1 Q (ih A1 v1 n1 (c + 1) f1 nn _ (by omega) hb1 h64' (by omega) (fun z hz => hch z (List.mem_cons_of_mem _ hz)) (fun A' v' n' f' q1 q2 q3 q4 q5 => ?_))
      have ecl : c + 1 + (xw_chars x k).length = c + ((xw_chars x k).length + 1) := by omega
      rw [ecl] at q1 q3
      refine hQ A' v' n' f' q1 (by omega) (fun j hj => ?_) ?_ ?_
      · rw [q3 j hj]
        show ya_app f1 (c + 1) (xw_chars x k) j = ya_app (va_up f c ch) (c + 1) (xw_chars x k) j
        refine ya_app_eq (xw_chars x k) (fun i hi => ?_) j (by omega)
        by_cases hic : i = c
        · rw [hic, ya_up_same, hfc]
        · rw [ya_up_ne _ _ hic]
          exact hf1 i (by omega)
      · refine yfr_mono (yfr_trans fr1 q4 (fun x hx => ?_)) (fun x hx => Or.inl hx) (by omega) (by omega)
        simp only [List.mem_cons, List.not_mem_nil, or_false] at hx ⊢
        rcases hx with h | h
        · exact Or.inl (Or.inl h)
        · rw [h]
          rcases hv1 with h1 | h1
          · exact Or.inl (Or.inr h1)
          · exact Or.inr (by omega)
      · have := fr1.1.1
        rcases q5 with h | h
        · rw [h]
          rcases hv1 with h1 | h1
          · exact Or.inl h1
          · exact Or.inr (by omega)
        · exact Or.inr (by omega)
/-- ContractDesk.write -/
theorem mc_11 {w : Value} {d : Nat} {A : xb_H} {x : Int64} {m : Int32} {dn : Int} {v n c : Nat} {f : Nat → Int} (hb : yb A 65 v n m c f) (h64 : xb_get A 64 = some (yd dn)) (hc : c ≤ 100) {b : Int} (hbb : (b = 1 ∧ xw_fit x c) ∨ (b = 0 ∧ ¬ xw_fit x c)) :
    xr_ok (xt_G w) (d + 1 + 1 + 1 + 1 + 1 + 1) 11 0 [(0, .ref 64), (1, .long x)] [] A (fun o A' => ∃ r, o = .inl r ∧ r = some (.int (Int32.ofInt b)) ∧ ((b = 0 ∧ A' = A) ∨ (b = 1 ∧ ∃ (v' n' : Nat) (f' : Nat → Int), yb A' 65 v' n' m (c + (xw_chars x 8).length) f' ∧ (n' = n ∨ n' ≤ 202) ∧ (∀ j, j < c + (xw_chars x 8).length → f' j = ya_app f c (xw_chars x 8) j) ∧ yfr A A' [65, v] 8 4816 ∧ (v' = v ∨ A.1 ≤ v') ∧ (c + (xw_chars x 8).length ≤ 100) ∧ ∀ ch ∈ xw_chars x 8, 32 ≤ ch ∧ ch ≤ 126))) := by
  refine xr_steps (pc' := 6) (L' := xw_L 64 x (8 * ((8 : Nat) : Int) - 8) 0 none) (st' := []) 4 rfl ?_
  refine wl_loop 8 0 none (by omega) (by omega) (fun hn => ?_) (fun mm o hm => ?_)
  · obtain rfl : b = 0 := by
      rcases hbb with ⟨_, m, h1, _⟩ | h1
      · rw [hn] at h1; cases h1
      · exact h1.1
    exact ⟨_, rfl, rfl, Or.inl ⟨rfl, rfl⟩⟩
  obtain ⟨hm1, hm2, hm3⟩ := xw_scan_chars x 8 0 mm hm
  rw [Int.zero_add] at hm1
  refine xr_steps (pc' := 60) (L' := xw_L 64 x (-8) mm o) (st' := [.ref 64]) 1 (by cases o <;> rfl) ?_
  refine xr_getf (v := .ref 65) rfl h64 rfl ?_
  refine xr_call (q := (.invokevirtual 40, 3, 13, 1)) (av := [.ref 65]) (rest := []) rfl rfl (by decide) rfl (xr_rcv rfl hb.1) (Nat.le_of_ble_eq_true rfl) (mm_13 hb.1 rfl) ?_
  rintro _ _ ⟨rfl, eA⟩
  rw [eA]
  clear eA
  refine xr_steps (pc' := 67) (L' := xw_L 64 x (-8) mm o) (st' := [.int (Int32.ofInt mm), .int (Int32.ofInt c)]) 1 (by cases o <;> rfl) ?_
  refine xr_iadd rfl ?_
  refine xr_steps (pc' := 70) (L' := xw_L 64 x (-8) mm o) (st' := [.int (Int32.ofInt 100), .int (Int32.ofInt ((c : Int) + mm))]) 1 rfl ?_
  refine xr_icmp_le rfl (by omega) (by omega) (fun hle => ?_) (fun hle => ?_)
  · obtain rfl : b = 1 := by
      rcases hbb with h1 | ⟨_, h1⟩
      · exact h1.1
      · exact absurd ⟨mm, hm, hle⟩ h1
    refine xr_steps (pc' := 79) (L' := xw_M 64 x (8 * ((8 : Nat) : Int) - 8) mm (o.map fun c => (true, c))) (st' := []) 2 (by cases o <;> rfl) ?_
    refine wl_loop2 8 A v n c f mm _ (by omega) hb h64 (by omega) hm2 (fun A' v' n' f' q1 q2 q3 q4 q5 => ?_)
    exact ⟨_, rfl, rfl, Or.inr ⟨rfl, v', n', f', q1, q2, q3, q4, q5, by omega, hm2⟩⟩
  · obtain rfl : b = 0 := by
      rcases hbb with ⟨_, m2, h1, h2⟩ | h1
      · rw [hm] at h1; cases h1; exact absurd h2 hle
      · exact h1.1
    refine xr_steps (pc' := 74) (L' := xw_L 64 x (-8) mm o) (st' := [.int 0]) 1 rfl ?_
    exact xr_retB rfl rfl rfl rfl ⟨_, rfl, rfl, Or.inl ⟨rfl, rfl⟩⟩
