/-- StringBuilder.append of a character, where there is room -/
theorem mm_15 {w : Value} {d : Nat} {A : xb_H} {a v n c : Nat} {fs : List Value} {f : Nat → Int32} {ch : Int} (h : xb_get A a = some (.inr (11, fs))) (hl : fs.length = 4) (h0 : fs[0]? = some (.ref v)) (h1 : fs[1]? = some (.int 0)) (h3 : fs[3]? = some (.int (Int32.ofInt c))) (hv : xb_get A v = some (.inl (.byte, n, .inl f))) (hn : n ≤ 65536) (hc : c + 1 ≤ n) (hch : 0 ≤ ch ∧ ch ≤ 255) (ha : xb_z ≤ a) (hvz : xb_z ≤ v) :
    xr_ok (xt_G w) (d + 1 + 1) 15 0 [(0, .ref a), (1, .int (Int32.ofInt ch))] [] A (fun o A' => ∃ r, o = .inl r ∧ r = some (.ref a) ∧ A' = xh_put A a v n fs f c (Int32.ofInt ch)) := by
  refine xr_steps (pc' := 2) (L' := [(0, .ref a), (1, .int (Int32.ofInt ch))]) (st' := [.int (Int32.ofInt ch), .ref a]) 2 rfl ?_
  refine xr_call (q := (.invokespecial 50, 3, 16, 2)) (av := [.ref a, .int (Int32.ofInt ch)]) (rest := []) rfl rfl (by decide) rfl (xr_rcv rfl h) (show 2 ≤ 2 by omega) (mm_16 h hl h0 h1 h3 hv hn hc hch ha hvz) ?_
  rintro _ _ ⟨rfl, eA⟩
  rw [eA]
  clear eA
  refine xr_steps (pc' := 7) (L' := [(0, .ref a), (1, .int (Int32.ofInt ch))]) (st' := [.ref a]) 2 rfl ?_
  exact xr_retA (q := (.areturn, 1, 0, 0)) rfl rfl rfl ⟨_, rfl, rfl, rfl⟩
