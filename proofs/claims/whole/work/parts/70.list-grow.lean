/-! ArrayList -/
theorem elo_new {A : xb_H} {n : Nat} {c : xb_O} {r : Option Nat} (h : xb_elo A r = true) : xb_elo (xb_new A n c) r = true := by
  cases r with
  | none => rfl
  | some y =>
    unfold xb_elo at h ⊢
    dsimp only at h ⊢
    cases hg : xb_get A y with
    | none => rw [hg] at h; cases h
    | some oo =>
      rw [hg] at h
      rw [xb_get_new_old hg]
      exact h
theorem elo_mv {A A' : xb_H} {r : Option Nat} (e : A = A') (h : xb_elo A r = true) : xb_elo A' r = true := by
  rw [← e]
  exact h
theorem elo_of {A : xb_H} {x k : Nat} {fs : List Value} (h : xb_get A x = some (.inr (k, fs))) (hk : k = 9 ∨ k = 4) : xb_elo A (some x) = true := by
  unfold xb_elo
  dsimp only
  rw [h]
  dsimp only
  rcases hk with rfl | rfl <;> rfl
theorem ma_123 {w : Value} {d : Nat} {A : xb_H} {ed n : Nat} {g : Nat → Option Nat} {k : Int} (he : xb_get A ed = some (.inl (.object "java/lang/Object", n, .inr (.inr g)))) (hz : 64 ≤ ed) (hk : (n : Int) ≤ k ∧ k ≤ 1000) (hel : ∀ j : Nat, j < n → xb_elo A (g j) = true) : xr_ok (xt_G w) (d + 1) 123 0 [(0, .ref ed), (1, .int (Int32.ofInt k)), (2, .ref 21)] [] A (fun o A' => ∃ v0, o = .inl v0 ∧ v0 = some (.ref A.1) ∧ xb_get A' A.1 = some (.inl (.object "java/lang/Object", k.toNat, .inr (.inr (va_cpy g (fun _ => none) 0 0 n)))) ∧ yfr A A' [] 1 k.toNat ∧ A'.1 = A.1 + 1) := by
  have hlt := xb_get_lt he
  have f31 := yfr_refl A [] 0 0
  refine xr_steps (pc' := 7) (L' := [(0, .ref ed), (1, .int (Int32.ofInt k)), (2, .ref 21)]) (st' := [.int (Int32.ofInt k)]) 4 rfl ?_
  obtain ⟨A32, eA32⟩ : ∃ A0, xb_new A k.toNat (.inl (.object "java/lang/Object", k.toNat, .inr (.inr fun _ => none))) = A0 := ⟨_, rfl⟩
  refine xr_newAA rfl (by omega) rfl (xr_heap eA32 ?_)
  have g33 := xr_mv eA32 (xb_get_new_old he)
  have g34 := xr_mv eA32 xb_get_new_same
  have nA32 : A32.1 = A.1 + 1 := by rw [← eA32]; rfl
  have f35 := yfr_mv eA32 (yfr_step_new f31)
  refine xr_steps (pc' := 30) (L' := [(3, .ref A.1), (0, .ref ed), (1, .int (Int32.ofInt k)), (2, .ref 21)]) (st' := [.ref ed, .int (Int32.ofInt 0), .ref A.1, .int (Int32.ofInt 0), .ref ed]) 7 rfl ?_
  refine xr_alen rfl g33 ?_
  refine xr_steps (pc' := 32) (L' := [(3, .ref A.1), (0, .ref ed), (1, .int (Int32.ofInt k)), (2, .ref 21)]) (st' := [.int (Int32.ofInt k), .int (Int32.ofInt (n : Int)), .int (Int32.ofInt 0), .ref A.1, .int (Int32.ofInt 0), .ref ed]) 1 rfl ?_
  refine xr_min rfl (by omega) (by omega) (by omega) (Nat.le_of_ble_eq_true rfl) ?_
  rw [Int.min_eq_left (by omega)]
  obtain ⟨A36, eA36⟩ : ∃ A0, xb_set A32 A.1 (.inl (.object "java/lang/Object", k.toNat, .inr (.inr (va_cpy g (fun _ => none) (0 : Int).toNat (0 : Int).toNat (n : Int).toNat)))) = A0 := ⟨_, rfl⟩
  refine xr_cpyO rfl g33 g34 (show 64 ≤ ed by omega) (show 64 ≤ A.1 by omega) (by omega) (by omega) (by omega) (by omega) (by omega) (by omega) (by omega) (Nat.le_of_ble_eq_true rfl) (fun j hj => elo_mv eA32 (elo_new (by rw [show (0 : Int).toNat + j = j by omega]; exact hel j (by omega)))) (xr_heap eA36 ?_)
  have g37 := xr_mv eA36 (xb_get_set_ne g34 g33 (by omega))
  have g38 := xr_mv eA36 (xb_get_set_same g34)
  have nA36 : A36.1 = A32.1 := by rw [← eA36]; rfl
  have f39 := yfr_mv eA36 (yfr_step_set f35 g34 (Or.inr (by omega)))
  refine xr_steps (pc' := 39) (L' := [(3, .ref A.1), (0, .ref ed), (1, .int (Int32.ofInt k)), (2, .ref 21)]) (st' := [.ref A.1]) 1 rfl ?_
  exact xr_retR rfl rfl ⟨_, rfl, rfl, g38, yfr_mono f39 (fun z hz => Or.inl hz) (by omega) (by omega), by omega⟩
theorem ma_122 {w : Value} {d : Nat} {A : xb_H} {ed n : Nat} {g : Nat → Option Nat} {k : Int} (he : xb_get A ed = some (.inl (.object "java/lang/Object", n, .inr (.inr g)))) (hz : 64 ≤ ed) (hk : (n : Int) ≤ k ∧ k ≤ 1000) (hel : ∀ j : Nat, j < n → xb_elo A (g j) = true) : xr_ok (xt_G w) (d + 1 + 1) 122 0 [(0, .ref ed), (1, .int (Int32.ofInt k))] [] A (fun o A' => ∃ v0, o = .inl v0 ∧ v0 = some (.ref A.1) ∧ xb_get A' A.1 = some (.inl (.object "java/lang/Object", k.toNat, .inr (.inr (va_cpy g (fun _ => none) 0 0 n)))) ∧ yfr A A' [] 1 k.toNat ∧ A'.1 = A.1 + 1) := by
  refine xr_steps (pc' := 3) (L' := [(0, .ref ed), (1, .int (Int32.ofInt k))]) (st' := [.ref ed, .int (Int32.ofInt k), .ref ed]) 3 rfl ?_
  refine xr_getCl rfl he (show 64 ≤ ed by omega) (by omega) (Nat.le_of_ble_eq_true rfl) ?_
  refine xr_call (q := (.invokestatic 300, 3, 123, 3)) (av := [.ref ed, .int (Int32.ofInt k), .ref 21]) (rest := []) rfl rfl (by decide) rfl rfl (Nat.le_of_ble_eq_true rfl) (ma_123 he hz hk hel) ?_
  rintro _ A9 ⟨rfl, k9⟩
  exact xr_retR rfl rfl ⟨_, rfl, rfl, k9⟩
theorem ma_121e {w : Value} {d : Nat} {A : xb_H} {la : Nat} {g : Nat → Option Nat} {mc : Int32} (hla : xb_get A la = some (.inr (13, [.ref 6, .int (Int32.ofInt 0), .int mc]))) (hzl : 64 ≤ la) (he : xb_get A 6 = some (.inl (.object "java/lang/Object", 0, .inr (.inr g)))) : xr_ok (xt_G w) (d + 1) 121 0 [(0, .ref la), (1, .int (Int32.ofInt 1))] [] A (fun o A' => ∃ v0, o = .inl v0 ∧ ∃ (cap : Nat) (g' : Nat → Option Nat), v0 = some (.ref A.1) ∧ xb_get A' la = some (.inr (13, [.ref A.1, .int (Int32.ofInt 0), .int mc])) ∧ xb_get A' A.1 = some (.inl (.object "java/lang/Object", cap, .inr (.inr g'))) ∧ (∀ j : Nat, j < 0 → g' j = g j) ∧ (0 < cap ∧ 2 ≤ cap) ∧ cap ≤ 2 * 0 + 10 ∧ yfr A A' [la] 1 cap ∧ A'.1 = A.1 + 1) := by
  have hlt := xb_get_lt hla
  have f31 := yfr_refl A [la] 0 0
  refine xr_steps (pc' := 1) (L' := [(0, .ref la), (1, .int (Int32.ofInt 1))]) (st' := [.ref la]) 1 rfl ?_
  refine xr_getf (v := .ref 6) rfl hla rfl ?_
  refine xr_alen rfl he ?_
  refine xr_steps (pc' := 7) (L' := [(2, .int (Int32.ofInt 0)), (0, .ref la), (1, .int (Int32.ofInt 1))]) (st' := [.int (Int32.ofInt 0)]) 2 rfl ?_
  refine xr_if_gt rfl (by omega) (fun z32 => ?_) (fun z32 => ?_)
  · exfalso; omega
  · refine xr_steps (pc' := 11) (L' := [(2, .int (Int32.ofInt 0)), (0, .ref la), (1, .int (Int32.ofInt 1))]) (st' := [.ref la]) 1 rfl ?_
    refine xr_getf (v := .ref 6) rfl hla rfl ?_
    refine xr_steps (pc' := 49) (L' := [(2, .int (Int32.ofInt 0)), (0, .ref la), (1, .int (Int32.ofInt 1))]) (st' := [.int (Int32.ofInt 1), .int (Int32.ofInt 10), .ref la]) 5 rfl ?_
    refine xr_max rfl (by omega) (by omega) (by omega) (Nat.le_of_ble_eq_true rfl) ?_
    rw [show max (10 : Int) 1 = 10 from rfl]
    obtain ⟨A33, eA33⟩ : ∃ A0, xb_new A 10 (.inl (.object "java/lang/Object", 10, .inr (.inr fun _ => none))) = A0 := ⟨_, rfl⟩
    refine xr_newAA rfl (by omega) rfl (xr_heap eA33 ?_)
    have g34 := xr_mv eA33 (xb_get_new_old hla)
    have g35 := xr_mv eA33 (xb_get_new_old he)
    have g36 := xr_mv eA33 xb_get_new_same
    have nA33 : A33.1 = A.1 + 1 := by rw [← eA33]; rfl
    have f37 := yfr_mv eA33 (yfr_step_new f31)
    refine xr_steps (pc' := 56) (L' := [(2, .int (Int32.ofInt 0)), (0, .ref la), (1, .int (Int32.ofInt 1))]) (st' := [.ref A.1, .ref la, .ref A.1]) 1 rfl ?_
    obtain ⟨A38, eA38⟩ : ∃ A0, xb_set A33 la (.inr (13, [.ref A.1, .int (Int32.ofInt 0), .int mc])) = A0 := ⟨_, rfl⟩
    refine xr_putf (t := .array (.object "java/lang/Object")) rfl g34 (show 64 ≤ la by omega) (Nat.le_of_ble_eq_true rfl) rfl (xr_fitR _ rfl) (xr_heap eA38 ?_)
    have g39 := xr_mv eA38 (xb_get_set_same g34)
    have g40 := xr_mv eA38 (xb_get_set_ne g34 g35 (by omega))
    have g41 := xr_mv eA38 (xb_get_set_ne g34 g36 (by omega))
    have nA38 : A38.1 = A33.1 := by rw [← eA38]; rfl
    have f42 := yfr_mv eA38 (yfr_step_set f37 g34 (Or.inl (by simp)))
    exact xr_retR rfl rfl ⟨_, rfl, 10, _, rfl, g39, g41, fun j hj => absurd hj (Nat.not_lt_zero _), ⟨by omega, by omega⟩, by omega, f42, by omega⟩
theorem xr_shr1 {n : Nat} (hn : n ≤ 1000) : ∃ m : Int, (0 ≤ m ∧ 2 * m ≤ n ∧ (n : Int) ≤ 2 * m + 1) ∧ Int32.ofInt (n : Int) >>> (Int32.ofInt 1 &&& 31) = Int32.ofInt m := by
  have key : ∀ k : Fin 1001, Int32.ofInt ((k.val : Nat) : Int) >>> (Int32.ofInt 1 &&& 31) = Int32.ofInt ((k.val / 2 : Nat) : Int) := by decide +kernel
  refine ⟨((n / 2 : Nat) : Int), by omega, key ⟨n, by omega⟩⟩
theorem ma_121 {w : Value} {d : Nat} {A : xb_H} {la ed n : Nat} {g : Nat → Option Nat} {mc : Int32} {sz : Int} (hla : xb_get A la = some (.inr (13, [.ref ed, .int (Int32.ofInt sz), .int mc]))) (hzl : 64 ≤ la) (he : xb_get A ed = some (.inl (.object "java/lang/Object", n, .inr (.inr g)))) (hz : 64 ≤ ed) (hn : 2 ≤ n ∧ n ≤ 300) (hsz : sz = n) (hel : ∀ j : Nat, j < n → xb_elo A (g j) = true) : xr_ok (xt_G w) (d + 1 + 1 + 1) 121 0 [(0, .ref la), (1, .int (Int32.ofInt (sz + 1)))] [] A (fun o A' => ∃ v0, o = .inl v0 ∧ ∃ (cap : Nat) (g' : Nat → Option Nat), v0 = some (.ref A.1) ∧ xb_get A' la = some (.inr (13, [.ref A.1, .int (Int32.ofInt sz), .int mc])) ∧ xb_get A' A.1 = some (.inl (.object "java/lang/Object", cap, .inr (.inr g'))) ∧ (∀ j : Nat, j < n → g' j = g j) ∧ (sz < cap ∧ 2 ≤ cap) ∧ cap ≤ 2 * n + 10 ∧ yfr A A' [la] 1 cap ∧ A'.1 = A.1 + 1) := by
  have hlt := xb_get_lt hla
  have hlt2 := xb_get_lt he
  have hne : ¬ ed = la := by
    intro e
    rw [e, hla] at he
    cases he
  have f31 := yfr_refl A [la] 0 0
  refine xr_steps (pc' := 1) (L' := [(0, .ref la), (1, .int (Int32.ofInt (sz + 1)))]) (st' := [.ref la]) 1 rfl ?_
  refine xr_getf (v := .ref ed) rfl hla rfl ?_
  refine xr_alen rfl he ?_
  refine xr_steps (pc' := 7) (L' := [(2, .int (Int32.ofInt (n : Int))), (0, .ref la), (1, .int (Int32.ofInt (sz + 1)))]) (st' := [.int (Int32.ofInt (n : Int))]) 2 rfl ?_
  refine xr_if_gt rfl (by omega) (fun z32 => ?_) (fun z32 => ?_)
  · refine xr_steps (pc' := 23) (L' := [(2, .int (Int32.ofInt (n : Int))), (0, .ref la), (1, .int (Int32.ofInt (sz + 1)))]) (st' := [.int (Int32.ofInt (n : Int)), .int (Int32.ofInt (sz + 1)), .int (Int32.ofInt (n : Int))]) 3 rfl ?_
    refine xr_isub rfl ?_
    refine xr_steps (pc' := 26) (L' := [(2, .int (Int32.ofInt (n : Int))), (0, .ref la), (1, .int (Int32.ofInt (sz + 1)))]) (st' := [.int (Int32.ofInt 1), .int (Int32.ofInt (n : Int)), .int (Int32.ofInt ((sz + 1) - (n : Int))), .int (Int32.ofInt (n : Int))]) 2 rfl ?_
    obtain ⟨nh, hnh, enh⟩ := xr_shr1 (n := n) (by omega)
    refine xr_pure (pc' := 27) (L' := [(2, .int (Int32.ofInt (n : Int))), (0, .ref la), (1, .int (Int32.ofInt (sz + 1)))]) (st' := [.int (Int32.ofInt nh), .int (Int32.ofInt ((sz + 1) - (n : Int))), .int (Int32.ofInt (n : Int))]) (A' := A) (q := (.ishr, 1, 0, 0)) rfl rfl ?_ ?_
    · rw [← enh]; rfl
    refine xr_call (q := (.invokestatic 73, 3, 19, 3)) (av := [.int (Int32.ofInt (n : Int)), .int (Int32.ofInt ((sz + 1) - (n : Int))), .int (Int32.ofInt nh)]) (rest := []) rfl rfl (by decide) rfl rfl (Nat.le_of_ble_eq_true rfl) (mm_19 (by omega) (by omega) (by omega)) ?_
    rintro _ _ ⟨rfl, eA⟩
    rw [eA]
    clear eA
    obtain ⟨k2, ek2, hk2⟩ : ∃ k2 : Int, k2 = (n : Int) + max (sz + 1 - (n : Int)) nh ∧ (n : Int) < k2 ∧ k2 ≤ 2 * (n : Int) + 1 := ⟨_, rfl, by omega⟩
    rw [← ek2]
    clear ek2
    refine xr_steps (pc' := 33) (L' := [(3, .int (Int32.ofInt k2)), (2, .int (Int32.ofInt (n : Int))), (0, .ref la), (1, .int (Int32.ofInt (sz + 1)))]) (st' := [.ref la, .ref la]) 3 rfl ?_
    refine xr_getf (v := .ref ed) rfl hla rfl ?_
    refine xr_steps (pc' := 37) (L' := [(3, .int (Int32.ofInt k2)), (2, .int (Int32.ofInt (n : Int))), (0, .ref la), (1, .int (Int32.ofInt (sz + 1)))]) (st' := [.int (Int32.ofInt k2), .ref ed, .ref la]) 1 rfl ?_
    refine xr_call (q := (.invokestatic 66, 3, 122, 2)) (av := [.ref ed, .int (Int32.ofInt k2)]) (rest := [.ref la]) rfl rfl (by decide) rfl rfl (Nat.le_of_ble_eq_true rfl) (ma_122 he hz (by omega) hel) ?_
    rintro _ A8 ⟨rfl, p1, p2, p3⟩
    have jla := yfr_get p2 hla List.not_mem_nil
    have jed := yfr_get p2 he List.not_mem_nil
    have jfr := yfr_trans f31 p2 (fun z hz => absurd hz List.not_mem_nil)
    refine xr_steps (pc' := 41) (L' := [(3, .int (Int32.ofInt k2)), (2, .int (Int32.ofInt (n : Int))), (0, .ref la), (1, .int (Int32.ofInt (sz + 1)))]) (st' := [.ref A.1, .ref la, .ref A.1]) 1 rfl ?_
    obtain ⟨A33, eA33⟩ : ∃ A0, xb_set A8 la (.inr (13, [.ref A.1, .int (Int32.ofInt sz), .int mc])) = A0 := ⟨_, rfl⟩
    refine xr_putf (t := .array (.object "java/lang/Object")) rfl jla (show 64 ≤ la by omega) (Nat.le_of_ble_eq_true rfl) rfl (xr_fitR _ rfl) (xr_heap eA33 ?_)
    have g34 := xr_mv eA33 (xb_get_set_same jla)
    have g35 := xr_mv eA33 (xb_get_set_ne jla jed (by omega))
    have g36 := xr_mv eA33 (xb_get_set_ne jla p1 (by omega))
    have nA33 : A33.1 = A8.1 := by rw [← eA33]; rfl
    have f37 := yfr_mv eA33 (yfr_step_set jfr jla (Or.inl (by simp)))
    refine xr_retR rfl rfl ⟨_, rfl, k2.toNat, _, rfl, g34, g36, fun j hj => ?_, ⟨by omega, by omega⟩, by omega, yfr_mono f37 (fun z hz => Or.inl hz) (by omega) (by omega), by omega⟩
    unfold va_cpy
    rw [if_pos (by omega)]
    first | rfl | (congr 1; omega)
  · exfalso; omega
/-- a list la: its row ed of cap, its elements as -/
def yal (A : xb_H) (la ed cap : Nat) (as : List Nat) : Prop := ∃ (mc : Int32) (g : Nat → Option Nat), xb_get A la = some (.inr (13, [.ref ed, .int (Int32.ofInt (as.length : Int)), .int mc])) ∧ xb_get A ed = some (.inl (.object "java/lang/Object", cap, .inr (.inr g))) ∧ 64 ≤ la ∧ as.length ≤ cap ∧ cap ≤ 300 ∧ ((ed = 6 ∧ cap = 0) ∨ (64 ≤ ed ∧ 2 ≤ cap)) ∧ ∀ j : Nat, j < as.length → g j = as[j]?
theorem yal_fr {A A' : xb_H} {la ed cap : Nat} {as : List Nat} {M : List Nat} {p q : Nat} (h : yal A la ed cap as) (hf : yfr A A' M p q) (h1 : ¬ la ∈ M) (h2 : ¬ ed ∈ M) : yal A' la ed cap as := by
  obtain ⟨mc, g, q1, q2, q3⟩ := h
  exact ⟨mc, g, yfr_get hf q1 h1, yfr_get hf q2 h2, q3⟩
theorem ma_121g {w : Value} {d : Nat} {A : xb_H} {la ed c : Nat} {g : Nat → Option Nat} {mc : Int32} (hla : xb_get A la = some (.inr (13, [.ref ed, .int (Int32.ofInt (c : Int)), .int mc]))) (hzl : 64 ≤ la) (he : xb_get A ed = some (.inl (.object "java/lang/Object", c, .inr (.inr g)))) (hed : (ed = 6 ∧ c = 0) ∨ (64 ≤ ed ∧ 2 ≤ c)) (hc : c ≤ 140) (hel : ∀ j : Nat, j < c → xb_elo A (g j) = true) : xr_ok (xt_G w) (d + 1 + 1 + 1) 121 0 [(0, .ref la), (1, .int (Int32.ofInt ((c : Int) + 1)))] [] A (fun o A' => ∃ v0, o = .inl v0 ∧ ∃ (cap' : Nat) (g' : Nat → Option Nat), v0 = some (.ref A.1) ∧ xb_get A' la = some (.inr (13, [.ref A.1, .int (Int32.ofInt (c : Int)), .int mc])) ∧ xb_get A' A.1 = some (.inl (.object "java/lang/Object", cap', .inr (.inr g'))) ∧ (∀ j : Nat, j < c → g' j = g j) ∧ ((c : Int) < cap' ∧ 2 ≤ cap') ∧ cap' ≤ 2 * c + 10 ∧ yfr A A' [la] 1 cap' ∧ A'.1 = A.1 + 1) := by
  rcases hed with ⟨rfl, rfl⟩ | ⟨h1, h2⟩
  · refine xr_conseq (ma_121e (d := d + 1 + 1) hla hzl he) ?_
    rintro o A' ⟨v0, e1, cap, g', e2, e3, e4, e5, e6, e7, e8⟩
    exact ⟨v0, e1, cap, g', e2, e3, e4, e5, ⟨by omega, e6.2⟩, e7, e8⟩
  · refine xr_conseq (ma_121 (d := d) hla hzl he h1 (by omega) rfl hel) ?_
    rintro o A' ⟨v0, e1, cap, g', e2, e3, e4, e5, e6, e7, e8⟩
    exact ⟨v0, e1, cap, g', e2, e3, e4, e5, e6, e7, e8⟩
theorem ma_120 {w : Value} {d : Nat} {A : xb_H} {la ed c : Nat} {g : Nat → Option Nat} {mc : Int32} (hla : xb_get A la = some (.inr (13, [.ref ed, .int (Int32.ofInt (c : Int)), .int mc]))) (hzl : 64 ≤ la) (he : xb_get A ed = some (.inl (.object "java/lang/Object", c, .inr (.inr g)))) (hed : (ed = 6 ∧ c = 0) ∨ (64 ≤ ed ∧ 2 ≤ c)) (hc : c ≤ 140) (hel : ∀ j : Nat, j < c → xb_elo A (g j) = true) : xr_ok (xt_G w) (d + 1 + 1 + 1 + 1) 120 0 [(0, .ref la)] [] A (fun o A' => ∃ v0, o = .inl v0 ∧ ∃ (cap' : Nat) (g' : Nat → Option Nat), v0 = some (.ref A.1) ∧ xb_get A' la = some (.inr (13, [.ref A.1, .int (Int32.ofInt (c : Int)), .int mc])) ∧ xb_get A' A.1 = some (.inl (.object "java/lang/Object", cap', .inr (.inr g'))) ∧ (∀ j : Nat, j < c → g' j = g j) ∧ ((c : Int) < cap' ∧ 2 ≤ cap') ∧ cap' ≤ 2 * c + 10 ∧ yfr A A' [la] 1 cap' ∧ A'.1 = A.1 + 1) := by
  refine xr_steps (pc' := 2) (L' := [(0, .ref la)]) (st' := [.ref la, .ref la]) 2 rfl ?_
  refine xr_getf (v := .int (Int32.ofInt (c : Int))) rfl hla rfl ?_
  refine xr_steps (pc' := 6) (L' := [(0, .ref la)]) (st' := [.int (Int32.ofInt 1), .int (Int32.ofInt (c : Int)), .ref la]) 1 rfl ?_
  refine xr_iadd rfl ?_
  refine xr_call (q := (.invokevirtual 69, 3, 121, 2)) (av := [.ref la, .int (Int32.ofInt ((c : Int) + 1))]) (rest := []) rfl rfl (by decide) rfl (xr_rcv rfl hla) (Nat.le_of_ble_eq_true rfl) (ma_121g hla hzl he hed hc hel) ?_
  rintro _ A9 ⟨cap', g', rfl, k9⟩
  exact xr_retR rfl rfl ⟨_, rfl, cap', g', rfl, k9⟩
theorem ma_119 {w : Value} {d : Nat} {A : xb_H} {la ed c cap x k : Nat} {g : Nat → Option Nat} {mc : Int32} {fs : List Value} (hla : xb_get A la = some (.inr (13, [.ref ed, .int (Int32.ofInt (c : Int)), .int mc]))) (hzl : 64 ≤ la) (he : xb_get A ed = some (.inl (.object "java/lang/Object", cap, .inr (.inr g)))) (hed : (ed = 6 ∧ cap = 0) ∨ (64 ≤ ed ∧ 2 ≤ cap)) (hc : c ≤ cap ∧ c ≤ 140 ∧ cap ≤ 300) (hel : ∀ j : Nat, j < c → xb_elo A (g j) = true) (hx : xb_get A x = some (.inr (k, fs))) (hk : k = 9 ∨ k = 4) (hxl : ¬ x = la) : xr_ok (xt_G w) (d + 1 + 1 + 1 + 1 + 1) 119 0 [(0, .ref la), (1, .ref x), (2, .ref ed), (3, .int (Int32.ofInt (c : Int)))] [] A (fun o A' => ∃ v0, o = .inl v0 ∧ v0 = none ∧ ∃ (ed' cap' : Nat) (g' : Nat → Option Nat), xb_get A' la = some (.inr (13, [.ref ed', .int (Int32.ofInt ((c : Int) + 1)), .int mc])) ∧ xb_get A' ed' = some (.inl (.object "java/lang/Object", cap', .inr (.inr g'))) ∧ (64 ≤ ed' ∧ 2 ≤ cap') ∧ c + 1 ≤ cap' ∧ (cap' = cap ∨ cap' ≤ 2 * c + 10) ∧ (∀ j : Nat, j < c → g' j = g j) ∧ g' c = some x ∧ yfr A A' [la, if ed = 6 then la else ed] 1 (2 * c + 10) ∧ (ed' = ed ∨ ed' = A.1)) := by
  have hlt := xb_get_lt hla
  have hlt2 := xb_get_lt he
  have hlt3 := xb_get_lt hx
  have hne : ¬ ed = la := by
    intro e
    rw [e, hla] at he
    cases he
  have hxe : ¬ x = ed := by
    intro e
    rw [e, he] at hx
    cases hx
  have hI : xb_gI (xt_G w) (.object "java/lang/Object") k = true := by rcases hk with rfl | rfl <;> rfl
  have f31 := yfr_refl A [la, ed] 0 0
  refine xr_steps (pc' := 2) (L' := [(0, .ref la), (1, .ref x), (2, .ref ed), (3, .int (Int32.ofInt (c : Int)))]) (st' := [.ref ed, .int (Int32.ofInt (c : Int))]) 2 rfl ?_
  refine xr_alen rfl he ?_
  refine xr_icmp_ne rfl (by omega) (by omega) (fun z32 => ?_) (fun z32 => ?_)
  · refine xr_steps (pc' := 14) (L' := [(0, .ref la), (1, .ref x), (2, .ref ed), (3, .int (Int32.ofInt (c : Int)))]) (st' := [.ref x, .int (Int32.ofInt (c : Int)), .ref ed]) 3 rfl ?_
    obtain ⟨A33, eA33⟩ : ∃ A0, xb_set A ed (.inl ((.object "java/lang/Object"), cap, .inr (.inr (va_up g (c : Int).toNat (some x))))) = A0 := ⟨_, rfl⟩
    refine xr_aastore rfl he hx hI (show 64 ≤ ed by omega) (by omega) (by omega) (by omega) (xr_heap eA33 ?_)
    have g34 := xr_mv eA33 (xb_get_set_ne he hla (by omega))
    have g35 := xr_mv eA33 (xb_get_set_same he)
    have g36 := xr_mv eA33 (xb_get_set_ne he hx (by omega))
    have nA33 : A33.1 = A.1 := by rw [← eA33]; rfl
    have f37 := yfr_mv eA33 (yfr_step_set f31 he (Or.inl (by simp)))
    refine xr_steps (pc' := 18) (L' := [(0, .ref la), (1, .ref x), (2, .ref ed), (3, .int (Int32.ofInt (c : Int)))]) (st' := [.int (Int32.ofInt 1), .int (Int32.ofInt (c : Int)), .ref la]) 3 rfl ?_
    refine xr_iadd rfl ?_
    obtain ⟨A38, eA38⟩ : ∃ A0, xb_set A33 la (.inr (13, [.ref ed, .int (Int32.ofInt ((c : Int) + 1)), .int mc])) = A0 := ⟨_, rfl⟩
    refine xr_putf (t := .int) rfl g34 (show 64 ≤ la by omega) (Nat.le_of_ble_eq_true rfl) rfl (xr_fitI _) (xr_heap eA38 ?_)
    have g39 := xr_mv eA38 (xb_get_set_same g34)
    have g40 := xr_mv eA38 (xb_get_set_ne g34 g35 (by omega))
    have g41 := xr_mv eA38 (xb_get_set_ne g34 g36 (by omega))
    have nA38 : A38.1 = A33.1 := by rw [← eA38]; rfl
    have f42 := yfr_mv eA38 (yfr_step_set f37 g34 (Or.inl (by simp)))
    refine xr_retN rfl rfl ⟨_, rfl, rfl, ed, cap, _, g39, g40, ⟨by omega, by omega⟩, by omega, Or.inl rfl, fun j hj => ?_, ?_, by rw [if_neg (by omega)]; exact yfr_mono f42 (fun z hz => Or.inl hz) (by omega) (by omega), Or.inl rfl⟩
    · rw [Int.toNat_natCast, ya_up_ne _ _ (by omega)]
    · rw [Int.toNat_natCast, ya_up_same]
  · refine xr_steps (pc' := 7) (L' := [(0, .ref la), (1, .ref x), (2, .ref ed), (3, .int (Int32.ofInt (c : Int)))]) (st' := [.ref la]) 1 rfl ?_
    obtain rfl : c = cap := by omega
    refine xr_call (q := (.invokevirtual 129, 3, 120, 1)) (av := [.ref la]) (rest := []) rfl rfl (by decide) rfl (xr_rcv rfl hla) (Nat.le_of_ble_eq_true rfl) (ma_120 hla hzl he hed (by omega) hel) ?_
    rintro _ A8 ⟨cap2, g2, rfl, p1, p2, p3, p4, p5, p6, p7⟩
    have pe := yfr_get p6 hx (by rw [List.mem_singleton]; exact hxl)
    refine xr_steps (pc' := 14) (L' := [(2, .ref A.1), (0, .ref la), (1, .ref x), (3, .int (Int32.ofInt (c : Int)))]) (st' := [.ref x, .int (Int32.ofInt (c : Int)), .ref A.1]) 4 rfl ?_
    obtain ⟨A43, eA43⟩ : ∃ A0, xb_set A8 A.1 (.inl ((.object "java/lang/Object"), cap2, .inr (.inr (va_up g2 (c : Int).toNat (some x))))) = A0 := ⟨_, rfl⟩
    refine xr_aastore rfl p2 pe hI (show 64 ≤ A.1 by omega) (by omega) (by omega) (by omega) (xr_heap eA43 ?_)
    have g44 := xr_mv eA43 (xb_get_set_ne p2 p1 (by omega))
    have g45 := xr_mv eA43 (xb_get_set_same p2)
    have g46 := xr_mv eA43 (xb_get_set_ne p2 pe (by omega))
    have nA43 : A43.1 = A8.1 := by rw [← eA43]; rfl
    have f47 := yfr_mv eA43 (yfr_step_set p6 p2 (Or.inr (by omega)))
    refine xr_steps (pc' := 18) (L' := [(2, .ref A.1), (0, .ref la), (1, .ref x), (3, .int (Int32.ofInt (c : Int)))]) (st' := [.int (Int32.ofInt 1), .int (Int32.ofInt (c : Int)), .ref la]) 3 rfl ?_
    refine xr_iadd rfl ?_
    obtain ⟨A48, eA48⟩ : ∃ A0, xb_set A43 la (.inr (13, [.ref A.1, .int (Int32.ofInt ((c : Int) + 1)), .int mc])) = A0 := ⟨_, rfl⟩
    refine xr_putf (t := .int) rfl g44 (show 64 ≤ la by omega) (Nat.le_of_ble_eq_true rfl) rfl (xr_fitI _) (xr_heap eA48 ?_)
    have g49 := xr_mv eA48 (xb_get_set_same g44)
    have g50 := xr_mv eA48 (xb_get_set_ne g44 g45 (by omega))
    have g51 := xr_mv eA48 (xb_get_set_ne g44 g46 (by omega))
    have nA48 : A48.1 = A43.1 := by rw [← eA48]; rfl
    have f52 := yfr_mv eA48 (yfr_step_set f47 g44 (Or.inl (by simp)))
    refine xr_retN rfl rfl ⟨_, rfl, rfl, A.1, cap2, _, g49, g50, ⟨by omega, by omega⟩, by omega, Or.inr p5, fun j hj => ?_, ?_, yfr_mono f52 (fun z hz => Or.inl (by rw [List.mem_singleton] at hz; rw [hz]; exact List.mem_cons_self)) (by omega) (by omega), Or.inr rfl⟩
    · rw [Int.toNat_natCast, ya_up_ne _ _ (by omega)]
      exact p3 j hj
    · rw [Int.toNat_natCast, ya_up_same]
