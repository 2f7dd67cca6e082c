/-! StringBuilder.append of a character, where there is room -/
theorem mm_24 {w : Value} {d : Nat} {A : xb_H} {a : Nat} {fs : List Value} (h : xb_get A a = some (.inr (11, fs))) (h1 : fs[1]? = some (.int 0)) : xr_ok (xt_G w) d 24 0 [(0, .ref a)] [] A (fun o A' => ∃ v, o = .inl v ∧ v = some (.int 1) ∧ A' = A) := by
  refine xr_steps (pc' := 7) (L' := [(0, .ref a)]) (st' := [.ref a]) 3 rfl ?_
  refine xr_getf rfl h h1 ?_
  refine xr_steps (pc' := 18) (L' := [(0, .ref a)]) (st' := [.int 1]) 3 rfl ?_
  exact xr_retB rfl rfl rfl rfl ⟨_, rfl, rfl, rfl⟩
theorem mm_25 {w : Value} {d : Nat} {A : xb_H} {c : Int} (hc : 0 ≤ c ∧ c ≤ 255) : xr_ok (xt_G w) d 25 0 [(0, .int (Int32.ofInt c))] [] A (fun o A' => ∃ v, o = .inl v ∧ v = some (.int 1) ∧ A' = A) := by
  refine xr_steps (pc' := 4) 2 rfl ?_
  refine xr_icmp_gt rfl (by omega) (by omega) (fun h => absurd h (by omega)) (fun _ => ?_)
  refine xr_steps (pc' := 12) (L' := [(0, .int (Int32.ofInt c))]) (st' := [.int 1]) 2 rfl ?_
  exact xr_retB rfl rfl rfl rfl ⟨_, rfl, rfl, rfl⟩
theorem xr_fitI (x : Int32) : xb_fitx .int (.int x) = true := by
  unfold xb_fitx
  rw [decide_eq_true (show narrow .int (.int x) = .int x from rfl)]
  rfl
def xh_put (A : xb_H) (a v n : Nat) (fs : List Value) (f : Nat → Int32) (c : Nat) (ch : Int32) : xb_H := xb_set (xb_set A a (.inr (11, fs.set 3 (.int (Int32.ofInt ((c : Int) + 1)))))) v (.inl (.byte, n, .inl (upd f c (vp_nar .byte (ch.toInt8.toInt32)))))
theorem mm_16 {w : Value} {d : Nat} {A : xb_H} {a v n c : Nat} {fs : List Value} {f : Nat → Int32} {ch : Int} (h : xb_get A a = some (.inr (11, fs))) (hl : fs.length = 4) (h0 : fs[0]? = some (.ref v)) (h1 : fs[1]? = some (.int 0)) (h3 : fs[3]? = some (.int (Int32.ofInt c))) (hv : xb_get A v = some (.inl (.byte, n, .inl f))) (hn : n ≤ 65536) (hc : c + 1 ≤ n) (hch : 0 ≤ ch ∧ ch ≤ 255) (ha : xb_z ≤ a) (hvz : xb_z ≤ v) :
    xr_ok (xt_G w) (d + 1) 16 0 [(0, .ref a), (1, .int (Int32.ofInt ch))] [] A (fun o A' => ∃ r, o = .inl r ∧ r = some (.ref a) ∧ A' = xh_put A a v n fs f c (Int32.ofInt ch)) := by
  have hne : ¬ v = a := by
    rintro rfl
    rw [h] at hv
    cases hv
  refine xr_steps (pc' := 2) 2 rfl ?_
  refine xr_getf rfl h h3 ?_
  refine xr_steps (pc' := 6) (L' := [(0, .ref a), (1, .int (Int32.ofInt ch))]) (st' := [.int (Int32.ofInt 1), .int (Int32.ofInt c), .ref a]) 1 rfl ?_
  refine xr_iadd rfl ?_
  refine xr_call (q := (.invokevirtual 100, 3, 17, 2)) (av := [.ref a, .int (Int32.ofInt ((c : Int) + 1))]) (rest := []) rfl rfl (by decide) rfl (xr_rcv rfl h) (show 2 ≤ 3 by omega) (mm_17 h h0 h1 hv hn (by omega)) ?_
  rintro _ _ ⟨rfl, eA⟩
  rw [eA]
  clear eA
  refine xr_steps (pc' := 11) (L' := [(0, .ref a), (1, .int (Int32.ofInt ch))]) (st' := [.ref a]) 1 rfl ?_
  refine xr_call (q := (.invokevirtual 83, 3, 24, 1)) (av := [.ref a]) (rest := []) rfl rfl (by decide) rfl (xr_rcv rfl h) (show 1 ≤ 1 by omega) (mm_24 h h1) ?_
  rintro _ _ ⟨rfl, eA⟩
  rw [eA]
  clear eA
  refine xr_steps (pc' := 18) (L' := [(0, .ref a), (1, .int (Int32.ofInt ch))]) (st' := [.int (Int32.ofInt ch)]) 2 rfl ?_
  refine xr_call (q := (.invokestatic 191, 3, 25, 1)) (av := [.int (Int32.ofInt ch)]) (rest := []) rfl rfl (by decide) rfl rfl (show 1 ≤ 1 by omega) (mm_25 hch) ?_
  rintro _ _ ⟨rfl, eA⟩
  rw [eA]
  clear eA
  refine xr_steps (pc' := 25) (L' := [(0, .ref a), (1, .int (Int32.ofInt ch))]) (st' := [.ref a]) 2 rfl ?_
  refine xr_getf rfl h h0 ?_
  refine xr_steps (pc' := 30) (L' := [(0, .ref a), (1, .int (Int32.ofInt ch))]) (st' := [.ref a, .ref a, .ref v]) 2 rfl ?_
  refine xr_getf rfl h h3 ?_
  refine xr_steps (pc' := 35) (L' := [(0, .ref a), (1, .int (Int32.ofInt ch))]) (st' := [.int (Int32.ofInt 1), .int (Int32.ofInt c), .ref a, .int (Int32.ofInt c), .ref v]) 2 rfl ?_
  refine xr_iadd rfl ?_
  refine xr_putf (t := .int) rfl h ha (by omega) rfl (xr_fitI _) ?_
  refine xr_steps (pc' := 41) (L' := [(0, .ref a), (1, .int (Int32.ofInt ch))]) (st' := [.int ((Int32.ofInt ch).toInt8.toInt32), .int (Int32.ofInt c), .ref v]) 2 rfl ?_
  obtain ⟨e1, e2⟩ := xr_in (i := (c : Int)) (n := n) (by omega) (by omega) (by omega)
  have hg : xb_get (xb_set A a (.inr (11, fs.set 3 (.int (Int32.ofInt ((c : Int) + 1)))))) v = some (.inl (.byte, n, .inl f)) := by
    rw [xb_get_set (xb_get_lt h), if_neg hne]
    exact hv
  refine xr_pure (pc' := 42) (L' := [(0, .ref a), (1, .int (Int32.ofInt ch))]) (st' := []) (A' := xh_put A a v n fs f c (Int32.ofInt ch)) (q := (.bastore, 1, 0, 0)) rfl rfl ?_ ?_
  · show xb_ias xb_isB 41 _ _ (.int ((Int32.ofInt ch).toInt8.toInt32) :: .int (Int32.ofInt c) :: .ref v :: []) = _
    unfold xb_ias
    simp only [hg]
    rw [if_pos ⟨rfl, hvz, e1⟩, e2]
    rfl
  refine xr_steps (pc' := 76) (L' := [(0, .ref a), (1, .int (Int32.ofInt ch))]) (st' := [.ref a]) 2 rfl ?_
  exact xr_retA (q := (.areturn, 1, 0, 0)) rfl rfl rfl ⟨_, rfl, rfl, rfl⟩
