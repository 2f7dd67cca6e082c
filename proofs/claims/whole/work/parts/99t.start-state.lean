/-! The start -/
theorem xg_203 {w : Value} {A : xb_H} (hA : A.1 = 166) (h165 : xb_get A 165 = some (.inr (10, [.int (Int32.ofInt 0), .null, .int (Int32.ofInt 0), .int (Int32.ofInt 0), .null, .null, .null, .null, .null, .null, .null, .int (Int32.ofInt 0), .null, .int (Int32.ofInt 0), .null, .null, .null, .null, .null, .int (Int32.ofInt 0), .null, .null, .int (Int32.ofInt 0), .null, .null, .null, .null, .int (Int32.ofInt 0), .null, .null, .null, .null, .null, .null, .null]))) : xr_ok (xt_G w) 1000 203 0 [(0, .ref 165)] [] A (fun o A' => o = .inl none ∧ xb_get A' 166 = some (.inl (.char, 3712, .inl fun _ => Int32.ofInt 0))) := by
  refine xr_steps (pc' := 1) (L' := [(0, .ref 165)]) (st' := [.ref 165]) 1 rfl ?_
  refine xr_objI rfl (by omega) (by decide) ?_
  refine xr_steps (pc' := 8) (L' := [(0, .ref 165)]) (st' := [.int (Int32.ofInt 3712), .ref 165]) 2 rfl ?_
  obtain ⟨A31, eA31⟩ : ∃ A0, xb_new A 3712 (.inl (.char, 3712, .inl fun _ => Int32.ofInt 0)) = A0 := ⟨_, rfl⟩
  refine xr_newA rfl (by omega) rfl (xr_heap eA31 ?_)
  have g32 := xr_mv eA31 (xb_get_new_old h165)
  have g33 := xr_mv eA31 xb_get_new_same
  have nA31 : A31.1 = A.1 + 1 := by rw [← eA31]; rfl
  obtain ⟨A34, eA34⟩ : ∃ A0, xb_set A31 165 (.inr (10, [.int (Int32.ofInt 0), .ref A.1, .int (Int32.ofInt 0), .int (Int32.ofInt 0), .null, .null, .null, .null, .null, .null, .null, .int (Int32.ofInt 0), .null, .int (Int32.ofInt 0), .null, .null, .null, .null, .null, .int (Int32.ofInt 0), .null, .null, .int (Int32.ofInt 0), .null, .null, .null, .null, .int (Int32.ofInt 0), .null, .null, .null, .null, .null, .null, .null])) = A0 := ⟨_, rfl⟩
  refine xr_putf (t := .array (.char)) rfl g32 (by decide) (Nat.le_of_ble_eq_true rfl) rfl (xr_fitR _ rfl) (xr_heap eA34 ?_)
  have g35 := xr_mv eA34 (xb_get_set_same g32)
  have g36 := xr_mv eA34 (xb_get_set_ne g32 g33 (by omega))
  have nA34 : A34.1 = A31.1 := by rw [← eA34]; rfl
  refine xr_steps (pc' := 15) (L' := [(0, .ref 165)]) (st' := [.int (Int32.ofInt 4), .ref 165]) 2 rfl ?_
  obtain ⟨A37, eA37⟩ : ∃ A0, xb_new A34 4 (.inl (.boolean, 4, .inl fun _ => Int32.ofInt 0)) = A0 := ⟨_, rfl⟩
  refine xr_newA rfl (by omega) rfl (xr_heap eA37 ?_)
  have g38 := xr_mv eA37 (xb_get_new_old g35)
  have g39 := xr_mv eA37 (xb_get_new_old g36)
  have g40 := xr_mv eA37 xb_get_new_same
  have nA37 : A37.1 = A34.1 + 1 := by rw [← eA37]; rfl
  obtain ⟨A41, eA41⟩ : ∃ A0, xb_set A37 165 (.inr (10, [.int (Int32.ofInt 0), .ref A.1, .int (Int32.ofInt 0), .int (Int32.ofInt 0), .ref A34.1, .null, .null, .null, .null, .null, .null, .int (Int32.ofInt 0), .null, .int (Int32.ofInt 0), .null, .null, .null, .null, .null, .int (Int32.ofInt 0), .null, .null, .int (Int32.ofInt 0), .null, .null, .null, .null, .int (Int32.ofInt 0), .null, .null, .null, .null, .null, .null, .null])) = A0 := ⟨_, rfl⟩
  refine xr_putf (t := .array (.boolean)) rfl g38 (by decide) (Nat.le_of_ble_eq_true rfl) rfl (xr_fitR _ rfl) (xr_heap eA41 ?_)
  have g42 := xr_mv eA41 (xb_get_set_same g38)
  have g43 := xr_mv eA41 (xb_get_set_ne g38 g39 (by omega))
  have g44 := xr_mv eA41 (xb_get_set_ne g38 g40 (by omega))
  have nA41 : A41.1 = A37.1 := by rw [← eA41]; rfl
  refine xr_steps (pc' := 22) (L' := [(0, .ref 165)]) (st' := [.int (Int32.ofInt 4), .ref 165]) 2 rfl ?_
  obtain ⟨A45, eA45⟩ : ∃ A0, xb_new A41 4 (.inl (.int, 4, .inl fun _ => Int32.ofInt 0)) = A0 := ⟨_, rfl⟩
  refine xr_newA rfl (by omega) rfl (xr_heap eA45 ?_)
  have g46 := xr_mv eA45 (xb_get_new_old g42)
  have g47 := xr_mv eA45 (xb_get_new_old g43)
  have g48 := xr_mv eA45 xb_get_new_same
  have nA45 : A45.1 = A41.1 + 1 := by rw [← eA45]; rfl
  obtain ⟨A49, eA49⟩ : ∃ A0, xb_set A45 165 (.inr (10, [.int (Int32.ofInt 0), .ref A.1, .int (Int32.ofInt 0), .int (Int32.ofInt 0), .ref A34.1, .ref A41.1, .null, .null, .null, .null, .null, .int (Int32.ofInt 0), .null, .int (Int32.ofInt 0), .null, .null, .null, .null, .null, .int (Int32.ofInt 0), .null, .null, .int (Int32.ofInt 0), .null, .null, .null, .null, .int (Int32.ofInt 0), .null, .null, .null, .null, .null, .null, .null])) = A0 := ⟨_, rfl⟩
  refine xr_putf (t := .array (.int)) rfl g46 (by decide) (Nat.le_of_ble_eq_true rfl) rfl (xr_fitR _ rfl) (xr_heap eA49 ?_)
  have g50 := xr_mv eA49 (xb_get_set_same g46)
  have g51 := xr_mv eA49 (xb_get_set_ne g46 g47 (by omega))
  have g52 := xr_mv eA49 (xb_get_set_ne g46 g48 (by omega))
  have nA49 : A49.1 = A45.1 := by rw [← eA49]; rfl
  refine xr_steps (pc' := 29) (L' := [(0, .ref 165)]) (st' := [.int (Int32.ofInt 4), .ref 165]) 2 rfl ?_
  obtain ⟨A53, eA53⟩ : ∃ A0, xb_new A49 4 (.inl (.int, 4, .inl fun _ => Int32.ofInt 0)) = A0 := ⟨_, rfl⟩
  refine xr_newA rfl (by omega) rfl (xr_heap eA53 ?_)
  have g54 := xr_mv eA53 (xb_get_new_old g50)
  have g55 := xr_mv eA53 (xb_get_new_old g51)
  have g56 := xr_mv eA53 xb_get_new_same
  have nA53 : A53.1 = A49.1 + 1 := by rw [← eA53]; rfl
  obtain ⟨A57, eA57⟩ : ∃ A0, xb_set A53 165 (.inr (10, [.int (Int32.ofInt 0), .ref A.1, .int (Int32.ofInt 0), .int (Int32.ofInt 0), .ref A34.1, .ref A41.1, .ref A49.1, .null, .null, .null, .null, .int (Int32.ofInt 0), .null, .int (Int32.ofInt 0), .null, .null, .null, .null, .null, .int (Int32.ofInt 0), .null, .null, .int (Int32.ofInt 0), .null, .null, .null, .null, .int (Int32.ofInt 0), .null, .null, .null, .null, .null, .null, .null])) = A0 := ⟨_, rfl⟩
  refine xr_putf (t := .array (.int)) rfl g54 (by decide) (Nat.le_of_ble_eq_true rfl) rfl (xr_fitR _ rfl) (xr_heap eA57 ?_)
  have g58 := xr_mv eA57 (xb_get_set_same g54)
  have g59 := xr_mv eA57 (xb_get_set_ne g54 g55 (by omega))
  have g60 := xr_mv eA57 (xb_get_set_ne g54 g56 (by omega))
  have nA57 : A57.1 = A53.1 := by rw [← eA57]; rfl
  refine xr_steps (pc' := 37) (L' := [(0, .ref 165)]) (st' := [.int (Int32.ofInt 32), .ref 165]) 2 rfl ?_
  obtain ⟨A61, eA61⟩ : ∃ A0, xb_new A57 32 (.inl (.int, 32, .inl fun _ => Int32.ofInt 0)) = A0 := ⟨_, rfl⟩
  refine xr_newA rfl (by omega) rfl (xr_heap eA61 ?_)
  have g62 := xr_mv eA61 (xb_get_new_old g58)
  have g63 := xr_mv eA61 (xb_get_new_old g59)
  have g64 := xr_mv eA61 xb_get_new_same
  have nA61 : A61.1 = A57.1 + 1 := by rw [← eA61]; rfl
  obtain ⟨A65, eA65⟩ : ∃ A0, xb_set A61 165 (.inr (10, [.int (Int32.ofInt 0), .ref A.1, .int (Int32.ofInt 0), .int (Int32.ofInt 0), .ref A34.1, .ref A41.1, .ref A49.1, .ref A57.1, .null, .null, .null, .int (Int32.ofInt 0), .null, .int (Int32.ofInt 0), .null, .null, .null, .null, .null, .int (Int32.ofInt 0), .null, .null, .int (Int32.ofInt 0), .null, .null, .null, .null, .int (Int32.ofInt 0), .null, .null, .null, .null, .null, .null, .null])) = A0 := ⟨_, rfl⟩
  refine xr_putf (t := .array (.int)) rfl g62 (by decide) (Nat.le_of_ble_eq_true rfl) rfl (xr_fitR _ rfl) (xr_heap eA65 ?_)
  have g66 := xr_mv eA65 (xb_get_set_same g62)
  have g67 := xr_mv eA65 (xb_get_set_ne g62 g63 (by omega))
  have g68 := xr_mv eA65 (xb_get_set_ne g62 g64 (by omega))
  have nA65 : A65.1 = A61.1 := by rw [← eA65]; rfl
  refine xr_steps (pc' := 44) (L' := [(0, .ref 165)]) (st' := [.int (Int32.ofInt 4), .ref 165]) 2 rfl ?_
  obtain ⟨A69, eA69⟩ : ∃ A0, xb_new A65 4 (.inl (.int, 4, .inl fun _ => Int32.ofInt 0)) = A0 := ⟨_, rfl⟩
  refine xr_newA rfl (by omega) rfl (xr_heap eA69 ?_)
  have g70 := xr_mv eA69 (xb_get_new_old g66)
  have g71 := xr_mv eA69 (xb_get_new_old g67)
  have g72 := xr_mv eA69 xb_get_new_same
  have nA69 : A69.1 = A65.1 + 1 := by rw [← eA69]; rfl
  obtain ⟨A73, eA73⟩ : ∃ A0, xb_set A69 165 (.inr (10, [.int (Int32.ofInt 0), .ref A.1, .int (Int32.ofInt 0), .int (Int32.ofInt 0), .ref A34.1, .ref A41.1, .ref A49.1, .ref A57.1, .ref A65.1, .null, .null, .int (Int32.ofInt 0), .null, .int (Int32.ofInt 0), .null, .null, .null, .null, .null, .int (Int32.ofInt 0), .null, .null, .int (Int32.ofInt 0), .null, .null, .null, .null, .int (Int32.ofInt 0), .null, .null, .null, .null, .null, .null, .null])) = A0 := ⟨_, rfl⟩
  refine xr_putf (t := .array (.int)) rfl g70 (by decide) (Nat.le_of_ble_eq_true rfl) rfl (xr_fitR _ rfl) (xr_heap eA73 ?_)
  have g74 := xr_mv eA73 (xb_get_set_same g70)
  have g75 := xr_mv eA73 (xb_get_set_ne g70 g71 (by omega))
  have g76 := xr_mv eA73 (xb_get_set_ne g70 g72 (by omega))
  have nA73 : A73.1 = A69.1 := by rw [← eA73]; rfl
  refine xr_steps (pc' := 52) (L' := [(0, .ref 165)]) (st' := [.int (Int32.ofInt 12), .ref 165]) 2 rfl ?_
  obtain ⟨A77, eA77⟩ : ∃ A0, xb_new A73 12 (.inl (.int, 12, .inl fun _ => Int32.ofInt 0)) = A0 := ⟨_, rfl⟩
  refine xr_newA rfl (by omega) rfl (xr_heap eA77 ?_)
  have g78 := xr_mv eA77 (xb_get_new_old g74)
  have g79 := xr_mv eA77 (xb_get_new_old g75)
  have g80 := xr_mv eA77 xb_get_new_same
  have nA77 : A77.1 = A73.1 + 1 := by rw [← eA77]; rfl
  obtain ⟨A81, eA81⟩ : ∃ A0, xb_set A77 165 (.inr (10, [.int (Int32.ofInt 0), .ref A.1, .int (Int32.ofInt 0), .int (Int32.ofInt 0), .ref A34.1, .ref A41.1, .ref A49.1, .ref A57.1, .ref A65.1, .ref A73.1, .null, .int (Int32.ofInt 0), .null, .int (Int32.ofInt 0), .null, .null, .null, .null, .null, .int (Int32.ofInt 0), .null, .null, .int (Int32.ofInt 0), .null, .null, .null, .null, .int (Int32.ofInt 0), .null, .null, .null, .null, .null, .null, .null])) = A0 := ⟨_, rfl⟩
  refine xr_putf (t := .array (.int)) rfl g78 (by decide) (Nat.le_of_ble_eq_true rfl) rfl (xr_fitR _ rfl) (xr_heap eA81 ?_)
  have g82 := xr_mv eA81 (xb_get_set_same g78)
  have g83 := xr_mv eA81 (xb_get_set_ne g78 g79 (by omega))
  have g84 := xr_mv eA81 (xb_get_set_ne g78 g80 (by omega))
  have nA81 : A81.1 = A77.1 := by rw [← eA81]; rfl
  refine xr_steps (pc' := 60) (L' := [(0, .ref 165)]) (st' := [.int (Int32.ofInt 6), .ref 165]) 2 rfl ?_
  obtain ⟨A85, eA85⟩ : ∃ A0, xb_new A81 6 (.inl (.int, 6, .inl fun _ => Int32.ofInt 0)) = A0 := ⟨_, rfl⟩
  refine xr_newA rfl (by omega) rfl (xr_heap eA85 ?_)
  have g86 := xr_mv eA85 (xb_get_new_old g82)
  have g87 := xr_mv eA85 (xb_get_new_old g83)
  have g88 := xr_mv eA85 xb_get_new_same
  have nA85 : A85.1 = A81.1 + 1 := by rw [← eA85]; rfl
  obtain ⟨A89, eA89⟩ : ∃ A0, xb_set A85 165 (.inr (10, [.int (Int32.ofInt 0), .ref A.1, .int (Int32.ofInt 0), .int (Int32.ofInt 0), .ref A34.1, .ref A41.1, .ref A49.1, .ref A57.1, .ref A65.1, .ref A73.1, .ref A81.1, .int (Int32.ofInt 0), .null, .int (Int32.ofInt 0), .null, .null, .null, .null, .null, .int (Int32.ofInt 0), .null, .null, .int (Int32.ofInt 0), .null, .null, .null, .null, .int (Int32.ofInt 0), .null, .null, .null, .null, .null, .null, .null])) = A0 := ⟨_, rfl⟩
  refine xr_putf (t := .array (.int)) rfl g86 (by decide) (Nat.le_of_ble_eq_true rfl) rfl (xr_fitR _ rfl) (xr_heap eA89 ?_)
  have g90 := xr_mv eA89 (xb_get_set_same g86)
  have g91 := xr_mv eA89 (xb_get_set_ne g86 g87 (by omega))
  have g92 := xr_mv eA89 (xb_get_set_ne g86 g88 (by omega))
  have nA89 : A89.1 = A85.1 := by rw [← eA89]; rfl
  refine xr_steps (pc' := 69) (L' := [(0, .ref 165)]) (st' := [.int (Int32.ofInt 3100), .ref 165]) 2 rfl ?_
  obtain ⟨A93, eA93⟩ : ∃ A0, xb_new A89 3100 (.inl (.int, 3100, .inl fun _ => Int32.ofInt 0)) = A0 := ⟨_, rfl⟩
  refine xr_newA rfl (by omega) rfl (xr_heap eA93 ?_)
  have g94 := xr_mv eA93 (xb_get_new_old g90)
  have g95 := xr_mv eA93 (xb_get_new_old g91)
  have g96 := xr_mv eA93 xb_get_new_same
  have nA93 : A93.1 = A89.1 + 1 := by rw [← eA93]; rfl
  obtain ⟨A97, eA97⟩ : ∃ A0, xb_set A93 165 (.inr (10, [.int (Int32.ofInt 0), .ref A.1, .int (Int32.ofInt 0), .int (Int32.ofInt 0), .ref A34.1, .ref A41.1, .ref A49.1, .ref A57.1, .ref A65.1, .ref A73.1, .ref A81.1, .int (Int32.ofInt 0), .ref A89.1, .int (Int32.ofInt 0), .null, .null, .null, .null, .null, .int (Int32.ofInt 0), .null, .null, .int (Int32.ofInt 0), .null, .null, .null, .null, .int (Int32.ofInt 0), .null, .null, .null, .null, .null, .null, .null])) = A0 := ⟨_, rfl⟩
  refine xr_putf (t := .array (.int)) rfl g94 (by decide) (Nat.le_of_ble_eq_true rfl) rfl (xr_fitR _ rfl) (xr_heap eA97 ?_)
  have g98 := xr_mv eA97 (xb_get_set_same g94)
  have g99 := xr_mv eA97 (xb_get_set_ne g94 g95 (by omega))
  have g100 := xr_mv eA97 (xb_get_set_ne g94 g96 (by omega))
  have nA97 : A97.1 = A93.1 := by rw [← eA97]; rfl
  refine xr_steps (pc' := 77) (L' := [(0, .ref 165)]) (st' := [.int (Int32.ofInt 30), .ref 165]) 2 rfl ?_
  obtain ⟨A101, eA101⟩ : ∃ A0, xb_new A97 30 (.inl (.int, 30, .inl fun _ => Int32.ofInt 0)) = A0 := ⟨_, rfl⟩
  refine xr_newA rfl (by omega) rfl (xr_heap eA101 ?_)
  have g102 := xr_mv eA101 (xb_get_new_old g98)
  have g103 := xr_mv eA101 (xb_get_new_old g99)
  have g104 := xr_mv eA101 xb_get_new_same
  have nA101 : A101.1 = A97.1 + 1 := by rw [← eA101]; rfl
  obtain ⟨A105, eA105⟩ : ∃ A0, xb_set A101 165 (.inr (10, [.int (Int32.ofInt 0), .ref A.1, .int (Int32.ofInt 0), .int (Int32.ofInt 0), .ref A34.1, .ref A41.1, .ref A49.1, .ref A57.1, .ref A65.1, .ref A73.1, .ref A81.1, .int (Int32.ofInt 0), .ref A89.1, .int (Int32.ofInt 0), .ref A97.1, .null, .null, .null, .null, .int (Int32.ofInt 0), .null, .null, .int (Int32.ofInt 0), .null, .null, .null, .null, .int (Int32.ofInt 0), .null, .null, .null, .null, .null, .null, .null])) = A0 := ⟨_, rfl⟩
  refine xr_putf (t := .array (.int)) rfl g102 (by decide) (Nat.le_of_ble_eq_true rfl) rfl (xr_fitR _ rfl) (xr_heap eA105 ?_)
  have g106 := xr_mv eA105 (xb_get_set_same g102)
  have g107 := xr_mv eA105 (xb_get_set_ne g102 g103 (by omega))
  have g108 := xr_mv eA105 (xb_get_set_ne g102 g104 (by omega))
  have nA105 : A105.1 = A101.1 := by rw [← eA105]; rfl
  refine xr_steps (pc' := 85) (L' := [(0, .ref 165)]) (st' := [.int (Int32.ofInt 30), .ref 165]) 2 rfl ?_
  obtain ⟨A109, eA109⟩ : ∃ A0, xb_new A105 30 (.inl (.int, 30, .inl fun _ => Int32.ofInt 0)) = A0 := ⟨_, rfl⟩
  refine xr_newA rfl (by omega) rfl (xr_heap eA109 ?_)
  have g110 := xr_mv eA109 (xb_get_new_old g106)
  have g111 := xr_mv eA109 (xb_get_new_old g107)
  have g112 := xr_mv eA109 xb_get_new_same
  have nA109 : A109.1 = A105.1 + 1 := by rw [← eA109]; rfl
  obtain ⟨A113, eA113⟩ : ∃ A0, xb_set A109 165 (.inr (10, [.int (Int32.ofInt 0), .ref A.1, .int (Int32.ofInt 0), .int (Int32.ofInt 0), .ref A34.1, .ref A41.1, .ref A49.1, .ref A57.1, .ref A65.1, .ref A73.1, .ref A81.1, .int (Int32.ofInt 0), .ref A89.1, .int (Int32.ofInt 0), .ref A97.1, .ref A105.1, .null, .null, .null, .int (Int32.ofInt 0), .null, .null, .int (Int32.ofInt 0), .null, .null, .null, .null, .int (Int32.ofInt 0), .null, .null, .null, .null, .null, .null, .null])) = A0 := ⟨_, rfl⟩
  refine xr_putf (t := .array (.int)) rfl g110 (by decide) (Nat.le_of_ble_eq_true rfl) rfl (xr_fitR _ rfl) (xr_heap eA113 ?_)
  have g114 := xr_mv eA113 (xb_get_set_same g110)
  have g115 := xr_mv eA113 (xb_get_set_ne g110 g111 (by omega))
  have g116 := xr_mv eA113 (xb_get_set_ne g110 g112 (by omega))
  have nA113 : A113.1 = A109.1 := by rw [← eA113]; rfl
  refine xr_steps (pc' := 94) (L' := [(0, .ref 165)]) (st' := [.int (Int32.ofInt 720), .ref 165]) 2 rfl ?_
  obtain ⟨A117, eA117⟩ : ∃ A0, xb_new A113 720 (.inl (.char, 720, .inl fun _ => Int32.ofInt 0)) = A0 := ⟨_, rfl⟩
  refine xr_newA rfl (by omega) rfl (xr_heap eA117 ?_)
  have g118 := xr_mv eA117 (xb_get_new_old g114)
  have g119 := xr_mv eA117 (xb_get_new_old g115)
  have g120 := xr_mv eA117 xb_get_new_same
  have nA117 : A117.1 = A113.1 + 1 := by rw [← eA117]; rfl
  obtain ⟨A121, eA121⟩ : ∃ A0, xb_set A117 165 (.inr (10, [.int (Int32.ofInt 0), .ref A.1, .int (Int32.ofInt 0), .int (Int32.ofInt 0), .ref A34.1, .ref A41.1, .ref A49.1, .ref A57.1, .ref A65.1, .ref A73.1, .ref A81.1, .int (Int32.ofInt 0), .ref A89.1, .int (Int32.ofInt 0), .ref A97.1, .ref A105.1, .ref A113.1, .null, .null, .int (Int32.ofInt 0), .null, .null, .int (Int32.ofInt 0), .null, .null, .null, .null, .int (Int32.ofInt 0), .null, .null, .null, .null, .null, .null, .null])) = A0 := ⟨_, rfl⟩
  refine xr_putf (t := .array (.char)) rfl g118 (by decide) (Nat.le_of_ble_eq_true rfl) rfl (xr_fitR _ rfl) (xr_heap eA121 ?_)
  have g122 := xr_mv eA121 (xb_get_set_same g118)
  have g123 := xr_mv eA121 (xb_get_set_ne g118 g119 (by omega))
  have g124 := xr_mv eA121 (xb_get_set_ne g118 g120 (by omega))
  have nA121 : A121.1 = A117.1 := by rw [← eA121]; rfl
  refine xr_steps (pc' := 102) (L' := [(0, .ref 165)]) (st' := [.int (Int32.ofInt 6), .ref 165]) 2 rfl ?_
  obtain ⟨A125, eA125⟩ : ∃ A0, xb_new A121 6 (.inl (.char, 6, .inl fun _ => Int32.ofInt 0)) = A0 := ⟨_, rfl⟩
  refine xr_newA rfl (by omega) rfl (xr_heap eA125 ?_)
  have g126 := xr_mv eA125 (xb_get_new_old g122)
  have g127 := xr_mv eA125 (xb_get_new_old g123)
  have g128 := xr_mv eA125 xb_get_new_same
  have nA125 : A125.1 = A121.1 + 1 := by rw [← eA125]; rfl
  obtain ⟨A129, eA129⟩ : ∃ A0, xb_set A125 165 (.inr (10, [.int (Int32.ofInt 0), .ref A.1, .int (Int32.ofInt 0), .int (Int32.ofInt 0), .ref A34.1, .ref A41.1, .ref A49.1, .ref A57.1, .ref A65.1, .ref A73.1, .ref A81.1, .int (Int32.ofInt 0), .ref A89.1, .int (Int32.ofInt 0), .ref A97.1, .ref A105.1, .ref A113.1, .ref A121.1, .null, .int (Int32.ofInt 0), .null, .null, .int (Int32.ofInt 0), .null, .null, .null, .null, .int (Int32.ofInt 0), .null, .null, .null, .null, .null, .null, .null])) = A0 := ⟨_, rfl⟩
  refine xr_putf (t := .array (.char)) rfl g126 (by decide) (Nat.le_of_ble_eq_true rfl) rfl (xr_fitR _ rfl) (xr_heap eA129 ?_)
  have g130 := xr_mv eA129 (xb_get_set_same g126)
  have g131 := xr_mv eA129 (xb_get_set_ne g126 g127 (by omega))
  have g132 := xr_mv eA129 (xb_get_set_ne g126 g128 (by omega))
  have nA129 : A129.1 = A125.1 := by rw [← eA129]; rfl
  refine xr_steps (pc' := 110) (L' := [(0, .ref 165)]) (st' := [.int (Int32.ofInt 6), .ref 165]) 2 rfl ?_
  obtain ⟨A133, eA133⟩ : ∃ A0, xb_new A129 6 (.inl (.int, 6, .inl fun _ => Int32.ofInt 0)) = A0 := ⟨_, rfl⟩
  refine xr_newA rfl (by omega) rfl (xr_heap eA133 ?_)
  have g134 := xr_mv eA133 (xb_get_new_old g130)
  have g135 := xr_mv eA133 (xb_get_new_old g131)
  have g136 := xr_mv eA133 xb_get_new_same
  have nA133 : A133.1 = A129.1 + 1 := by rw [← eA133]; rfl
  obtain ⟨A137, eA137⟩ : ∃ A0, xb_set A133 165 (.inr (10, [.int (Int32.ofInt 0), .ref A.1, .int (Int32.ofInt 0), .int (Int32.ofInt 0), .ref A34.1, .ref A41.1, .ref A49.1, .ref A57.1, .ref A65.1, .ref A73.1, .ref A81.1, .int (Int32.ofInt 0), .ref A89.1, .int (Int32.ofInt 0), .ref A97.1, .ref A105.1, .ref A113.1, .ref A121.1, .ref A129.1, .int (Int32.ofInt 0), .null, .null, .int (Int32.ofInt 0), .null, .null, .null, .null, .int (Int32.ofInt 0), .null, .null, .null, .null, .null, .null, .null])) = A0 := ⟨_, rfl⟩
  refine xr_putf (t := .array (.int)) rfl g134 (by decide) (Nat.le_of_ble_eq_true rfl) rfl (xr_fitR _ rfl) (xr_heap eA137 ?_)
  have g138 := xr_mv eA137 (xb_get_set_same g134)
  have g139 := xr_mv eA137 (xb_get_set_ne g134 g135 (by omega))
  have g140 := xr_mv eA137 (xb_get_set_ne g134 g136 (by omega))
  have nA137 : A137.1 = A133.1 := by rw [← eA137]; rfl
  refine xr_steps (pc' := 119) (L' := [(0, .ref 165)]) (st' := [.int (Int32.ofInt 768), .ref 165]) 2 rfl ?_
  obtain ⟨A141, eA141⟩ : ∃ A0, xb_new A137 768 (.inl (.int, 768, .inl fun _ => Int32.ofInt 0)) = A0 := ⟨_, rfl⟩
  refine xr_newA rfl (by omega) rfl (xr_heap eA141 ?_)
  have g142 := xr_mv eA141 (xb_get_new_old g138)
  have g143 := xr_mv eA141 (xb_get_new_old g139)
  have g144 := xr_mv eA141 xb_get_new_same
  have nA141 : A141.1 = A137.1 + 1 := by rw [← eA141]; rfl
  obtain ⟨A145, eA145⟩ : ∃ A0, xb_set A141 165 (.inr (10, [.int (Int32.ofInt 0), .ref A.1, .int (Int32.ofInt 0), .int (Int32.ofInt 0), .ref A34.1, .ref A41.1, .ref A49.1, .ref A57.1, .ref A65.1, .ref A73.1, .ref A81.1, .int (Int32.ofInt 0), .ref A89.1, .int (Int32.ofInt 0), .ref A97.1, .ref A105.1, .ref A113.1, .ref A121.1, .ref A129.1, .int (Int32.ofInt 0), .ref A137.1, .null, .int (Int32.ofInt 0), .null, .null, .null, .null, .int (Int32.ofInt 0), .null, .null, .null, .null, .null, .null, .null])) = A0 := ⟨_, rfl⟩
  refine xr_putf (t := .array (.int)) rfl g142 (by decide) (Nat.le_of_ble_eq_true rfl) rfl (xr_fitR _ rfl) (xr_heap eA145 ?_)
  have g146 := xr_mv eA145 (xb_get_set_same g142)
  have g147 := xr_mv eA145 (xb_get_set_ne g142 g143 (by omega))
  have g148 := xr_mv eA145 (xb_get_set_ne g142 g144 (by omega))
  have nA145 : A145.1 = A141.1 := by rw [← eA145]; rfl
  refine xr_steps (pc' := 128) (L' := [(0, .ref 165)]) (st' := [.int (Int32.ofInt 768), .ref 165]) 2 rfl ?_
  obtain ⟨A149, eA149⟩ : ∃ A0, xb_new A145 768 (.inl (.int, 768, .inl fun _ => Int32.ofInt 0)) = A0 := ⟨_, rfl⟩
  refine xr_newA rfl (by omega) rfl (xr_heap eA149 ?_)
  have g150 := xr_mv eA149 (xb_get_new_old g146)
  have g151 := xr_mv eA149 (xb_get_new_old g147)
  have g152 := xr_mv eA149 xb_get_new_same
  have nA149 : A149.1 = A145.1 + 1 := by rw [← eA149]; rfl
  obtain ⟨A153, eA153⟩ : ∃ A0, xb_set A149 165 (.inr (10, [.int (Int32.ofInt 0), .ref A.1, .int (Int32.ofInt 0), .int (Int32.ofInt 0), .ref A34.1, .ref A41.1, .ref A49.1, .ref A57.1, .ref A65.1, .ref A73.1, .ref A81.1, .int (Int32.ofInt 0), .ref A89.1, .int (Int32.ofInt 0), .ref A97.1, .ref A105.1, .ref A113.1, .ref A121.1, .ref A129.1, .int (Int32.ofInt 0), .ref A137.1, .ref A145.1, .int (Int32.ofInt 0), .null, .null, .null, .null, .int (Int32.ofInt 0), .null, .null, .null, .null, .null, .null, .null])) = A0 := ⟨_, rfl⟩
  refine xr_putf (t := .array (.int)) rfl g150 (by decide) (Nat.le_of_ble_eq_true rfl) rfl (xr_fitR _ rfl) (xr_heap eA153 ?_)
  have g154 := xr_mv eA153 (xb_get_set_same g150)
  have g155 := xr_mv eA153 (xb_get_set_ne g150 g151 (by omega))
  have g156 := xr_mv eA153 (xb_get_set_ne g150 g152 (by omega))
  have nA153 : A153.1 = A149.1 := by rw [← eA153]; rfl
  refine xr_steps (pc' := 137) (L' := [(0, .ref 165)]) (st' := [.int (Int32.ofInt 256), .ref 165]) 2 rfl ?_
  obtain ⟨A157, eA157⟩ : ∃ A0, xb_new A153 256 (.inl (.int, 256, .inl fun _ => Int32.ofInt 0)) = A0 := ⟨_, rfl⟩
  refine xr_newA rfl (by omega) rfl (xr_heap eA157 ?_)
  have g158 := xr_mv eA157 (xb_get_new_old g154)
  have g159 := xr_mv eA157 (xb_get_new_old g155)
  have g160 := xr_mv eA157 xb_get_new_same
  have nA157 : A157.1 = A153.1 + 1 := by rw [← eA157]; rfl
  obtain ⟨A161, eA161⟩ : ∃ A0, xb_set A157 165 (.inr (10, [.int (Int32.ofInt 0), .ref A.1, .int (Int32.ofInt 0), .int (Int32.ofInt 0), .ref A34.1, .ref A41.1, .ref A49.1, .ref A57.1, .ref A65.1, .ref A73.1, .ref A81.1, .int (Int32.ofInt 0), .ref A89.1, .int (Int32.ofInt 0), .ref A97.1, .ref A105.1, .ref A113.1, .ref A121.1, .ref A129.1, .int (Int32.ofInt 0), .ref A137.1, .ref A145.1, .int (Int32.ofInt 0), .ref A153.1, .null, .null, .null, .int (Int32.ofInt 0), .null, .null, .null, .null, .null, .null, .null])) = A0 := ⟨_, rfl⟩
  refine xr_putf (t := .array (.int)) rfl g158 (by decide) (Nat.le_of_ble_eq_true rfl) rfl (xr_fitR _ rfl) (xr_heap eA161 ?_)
  have g162 := xr_mv eA161 (xb_get_set_same g158)
  have g163 := xr_mv eA161 (xb_get_set_ne g158 g159 (by omega))
  have g164 := xr_mv eA161 (xb_get_set_ne g158 g160 (by omega))
  have nA161 : A161.1 = A157.1 := by rw [← eA161]; rfl
  refine xr_steps (pc' := 146) (L' := [(0, .ref 165)]) (st' := [.int (Int32.ofInt 256), .ref 165]) 2 rfl ?_
  obtain ⟨A165, eA165⟩ : ∃ A0, xb_new A161 256 (.inl (.int, 256, .inl fun _ => Int32.ofInt 0)) = A0 := ⟨_, rfl⟩
  refine xr_newA rfl (by omega) rfl (xr_heap eA165 ?_)
  have g166 := xr_mv eA165 (xb_get_new_old g162)
  have g167 := xr_mv eA165 (xb_get_new_old g163)
  have g168 := xr_mv eA165 xb_get_new_same
  have nA165 : A165.1 = A161.1 + 1 := by rw [← eA165]; rfl
  obtain ⟨A169, eA169⟩ : ∃ A0, xb_set A165 165 (.inr (10, [.int (Int32.ofInt 0), .ref A.1, .int (Int32.ofInt 0), .int (Int32.ofInt 0), .ref A34.1, .ref A41.1, .ref A49.1, .ref A57.1, .ref A65.1, .ref A73.1, .ref A81.1, .int (Int32.ofInt 0), .ref A89.1, .int (Int32.ofInt 0), .ref A97.1, .ref A105.1, .ref A113.1, .ref A121.1, .ref A129.1, .int (Int32.ofInt 0), .ref A137.1, .ref A145.1, .int (Int32.ofInt 0), .ref A153.1, .ref A161.1, .null, .null, .int (Int32.ofInt 0), .null, .null, .null, .null, .null, .null, .null])) = A0 := ⟨_, rfl⟩
  refine xr_putf (t := .array (.int)) rfl g166 (by decide) (Nat.le_of_ble_eq_true rfl) rfl (xr_fitR _ rfl) (xr_heap eA169 ?_)
  have g170 := xr_mv eA169 (xb_get_set_same g166)
  have g171 := xr_mv eA169 (xb_get_set_ne g166 g167 (by omega))
  have g172 := xr_mv eA169 (xb_get_set_ne g166 g168 (by omega))
  have nA169 : A169.1 = A165.1 := by rw [← eA169]; rfl
  refine xr_steps (pc' := 155) (L' := [(0, .ref 165)]) (st' := [.int (Int32.ofInt 256), .ref 165]) 2 rfl ?_
  obtain ⟨A173, eA173⟩ : ∃ A0, xb_new A169 256 (.inl (.int, 256, .inl fun _ => Int32.ofInt 0)) = A0 := ⟨_, rfl⟩
  refine xr_newA rfl (by omega) rfl (xr_heap eA173 ?_)
  have g174 := xr_mv eA173 (xb_get_new_old g170)
  have g175 := xr_mv eA173 (xb_get_new_old g171)
  have g176 := xr_mv eA173 xb_get_new_same
  have nA173 : A173.1 = A169.1 + 1 := by rw [← eA173]; rfl
  obtain ⟨A177, eA177⟩ : ∃ A0, xb_set A173 165 (.inr (10, [.int (Int32.ofInt 0), .ref A.1, .int (Int32.ofInt 0), .int (Int32.ofInt 0), .ref A34.1, .ref A41.1, .ref A49.1, .ref A57.1, .ref A65.1, .ref A73.1, .ref A81.1, .int (Int32.ofInt 0), .ref A89.1, .int (Int32.ofInt 0), .ref A97.1, .ref A105.1, .ref A113.1, .ref A121.1, .ref A129.1, .int (Int32.ofInt 0), .ref A137.1, .ref A145.1, .int (Int32.ofInt 0), .ref A153.1, .ref A161.1, .ref A169.1, .null, .int (Int32.ofInt 0), .null, .null, .null, .null, .null, .null, .null])) = A0 := ⟨_, rfl⟩
  refine xr_putf (t := .array (.int)) rfl g174 (by decide) (Nat.le_of_ble_eq_true rfl) rfl (xr_fitR _ rfl) (xr_heap eA177 ?_)
  have g178 := xr_mv eA177 (xb_get_set_same g174)
  have g179 := xr_mv eA177 (xb_get_set_ne g174 g175 (by omega))
  have g180 := xr_mv eA177 (xb_get_set_ne g174 g176 (by omega))
  have nA177 : A177.1 = A173.1 := by rw [← eA177]; rfl
  refine xr_steps (pc' := 164) (L' := [(0, .ref 165)]) (st' := [.int (Int32.ofInt 256), .ref 165]) 2 rfl ?_
  obtain ⟨A181, eA181⟩ : ∃ A0, xb_new A177 256 (.inl (.int, 256, .inl fun _ => Int32.ofInt 0)) = A0 := ⟨_, rfl⟩
  refine xr_newA rfl (by omega) rfl (xr_heap eA181 ?_)
  have g182 := xr_mv eA181 (xb_get_new_old g178)
  have g183 := xr_mv eA181 (xb_get_new_old g179)
  have g184 := xr_mv eA181 xb_get_new_same
  have nA181 : A181.1 = A177.1 + 1 := by rw [← eA181]; rfl
  obtain ⟨A185, eA185⟩ : ∃ A0, xb_set A181 165 (.inr (10, [.int (Int32.ofInt 0), .ref A.1, .int (Int32.ofInt 0), .int (Int32.ofInt 0), .ref A34.1, .ref A41.1, .ref A49.1, .ref A57.1, .ref A65.1, .ref A73.1, .ref A81.1, .int (Int32.ofInt 0), .ref A89.1, .int (Int32.ofInt 0), .ref A97.1, .ref A105.1, .ref A113.1, .ref A121.1, .ref A129.1, .int (Int32.ofInt 0), .ref A137.1, .ref A145.1, .int (Int32.ofInt 0), .ref A153.1, .ref A161.1, .ref A169.1, .ref A177.1, .int (Int32.ofInt 0), .null, .null, .null, .null, .null, .null, .null])) = A0 := ⟨_, rfl⟩
  refine xr_putf (t := .array (.int)) rfl g182 (by decide) (Nat.le_of_ble_eq_true rfl) rfl (xr_fitR _ rfl) (xr_heap eA185 ?_)
  have g186 := xr_mv eA185 (xb_get_set_same g182)
  have g187 := xr_mv eA185 (xb_get_set_ne g182 g183 (by omega))
  have g188 := xr_mv eA185 (xb_get_set_ne g182 g184 (by omega))
  have nA185 : A185.1 = A181.1 := by rw [← eA185]; rfl
  refine xr_steps (pc' := 172) (L' := [(0, .ref 165)]) (st' := [.int (Int32.ofInt 64), .ref 165]) 2 rfl ?_
  obtain ⟨A189, eA189⟩ : ∃ A0, xb_new A185 64 (.inl (.int, 64, .inl fun _ => Int32.ofInt 0)) = A0 := ⟨_, rfl⟩
  refine xr_newA rfl (by omega) rfl (xr_heap eA189 ?_)
  have g190 := xr_mv eA189 (xb_get_new_old g186)
  have g191 := xr_mv eA189 (xb_get_new_old g187)
  have g192 := xr_mv eA189 xb_get_new_same
  have nA189 : A189.1 = A185.1 + 1 := by rw [← eA189]; rfl
  obtain ⟨A193, eA193⟩ : ∃ A0, xb_set A189 165 (.inr (10, [.int (Int32.ofInt 0), .ref A.1, .int (Int32.ofInt 0), .int (Int32.ofInt 0), .ref A34.1, .ref A41.1, .ref A49.1, .ref A57.1, .ref A65.1, .ref A73.1, .ref A81.1, .int (Int32.ofInt 0), .ref A89.1, .int (Int32.ofInt 0), .ref A97.1, .ref A105.1, .ref A113.1, .ref A121.1, .ref A129.1, .int (Int32.ofInt 0), .ref A137.1, .ref A145.1, .int (Int32.ofInt 0), .ref A153.1, .ref A161.1, .ref A169.1, .ref A177.1, .int (Int32.ofInt 0), .ref A185.1, .null, .null, .null, .null, .null, .null])) = A0 := ⟨_, rfl⟩
  refine xr_putf (t := .array (.int)) rfl g190 (by decide) (Nat.le_of_ble_eq_true rfl) rfl (xr_fitR _ rfl) (xr_heap eA193 ?_)
  have g194 := xr_mv eA193 (xb_get_set_same g190)
  have g195 := xr_mv eA193 (xb_get_set_ne g190 g191 (by omega))
  have g196 := xr_mv eA193 (xb_get_set_ne g190 g192 (by omega))
  have nA193 : A193.1 = A189.1 := by rw [← eA193]; rfl
  refine xr_steps (pc' := 180) (L' := [(0, .ref 165)]) (st' := [.int (Int32.ofInt 9), .ref 165]) 2 rfl ?_
  obtain ⟨A197, eA197⟩ : ∃ A0, xb_new A193 9 (.inl (.boolean, 9, .inl fun _ => Int32.ofInt 0)) = A0 := ⟨_, rfl⟩
  refine xr_newA rfl (by omega) rfl (xr_heap eA197 ?_)
  have g198 := xr_mv eA197 (xb_get_new_old g194)
  have g199 := xr_mv eA197 (xb_get_new_old g195)
  have g200 := xr_mv eA197 xb_get_new_same
  have nA197 : A197.1 = A193.1 + 1 := by rw [← eA197]; rfl
  obtain ⟨A201, eA201⟩ : ∃ A0, xb_set A197 165 (.inr (10, [.int (Int32.ofInt 0), .ref A.1, .int (Int32.ofInt 0), .int (Int32.ofInt 0), .ref A34.1, .ref A41.1, .ref A49.1, .ref A57.1, .ref A65.1, .ref A73.1, .ref A81.1, .int (Int32.ofInt 0), .ref A89.1, .int (Int32.ofInt 0), .ref A97.1, .ref A105.1, .ref A113.1, .ref A121.1, .ref A129.1, .int (Int32.ofInt 0), .ref A137.1, .ref A145.1, .int (Int32.ofInt 0), .ref A153.1, .ref A161.1, .ref A169.1, .ref A177.1, .int (Int32.ofInt 0), .ref A185.1, .ref A193.1, .null, .null, .null, .null, .null])) = A0 := ⟨_, rfl⟩
  refine xr_putf (t := .array (.boolean)) rfl g198 (by decide) (Nat.le_of_ble_eq_true rfl) rfl (xr_fitR _ rfl) (xr_heap eA201 ?_)
  have g202 := xr_mv eA201 (xb_get_set_same g198)
  have g203 := xr_mv eA201 (xb_get_set_ne g198 g199 (by omega))
  have g204 := xr_mv eA201 (xb_get_set_ne g198 g200 (by omega))
  have nA201 : A201.1 = A197.1 := by rw [← eA201]; rfl
  refine xr_steps (pc' := 188) (L' := [(0, .ref 165)]) (st' := [.int (Int32.ofInt 9), .ref 165]) 2 rfl ?_
  obtain ⟨A205, eA205⟩ : ∃ A0, xb_new A201 9 (.inl (.boolean, 9, .inl fun _ => Int32.ofInt 0)) = A0 := ⟨_, rfl⟩
  refine xr_newA rfl (by omega) rfl (xr_heap eA205 ?_)
  have g206 := xr_mv eA205 (xb_get_new_old g202)
  have g207 := xr_mv eA205 (xb_get_new_old g203)
  have g208 := xr_mv eA205 xb_get_new_same
  have nA205 : A205.1 = A201.1 + 1 := by rw [← eA205]; rfl
  obtain ⟨A209, eA209⟩ : ∃ A0, xb_set A205 165 (.inr (10, [.int (Int32.ofInt 0), .ref A.1, .int (Int32.ofInt 0), .int (Int32.ofInt 0), .ref A34.1, .ref A41.1, .ref A49.1, .ref A57.1, .ref A65.1, .ref A73.1, .ref A81.1, .int (Int32.ofInt 0), .ref A89.1, .int (Int32.ofInt 0), .ref A97.1, .ref A105.1, .ref A113.1, .ref A121.1, .ref A129.1, .int (Int32.ofInt 0), .ref A137.1, .ref A145.1, .int (Int32.ofInt 0), .ref A153.1, .ref A161.1, .ref A169.1, .ref A177.1, .int (Int32.ofInt 0), .ref A185.1, .ref A193.1, .ref A201.1, .null, .null, .null, .null])) = A0 := ⟨_, rfl⟩
  refine xr_putf (t := .array (.boolean)) rfl g206 (by decide) (Nat.le_of_ble_eq_true rfl) rfl (xr_fitR _ rfl) (xr_heap eA209 ?_)
  have g210 := xr_mv eA209 (xb_get_set_same g206)
  have g211 := xr_mv eA209 (xb_get_set_ne g206 g207 (by omega))
  have g212 := xr_mv eA209 (xb_get_set_ne g206 g208 (by omega))
  have nA209 : A209.1 = A205.1 := by rw [← eA209]; rfl
  refine xr_steps (pc' := 196) (L' := [(0, .ref 165)]) (st' := [.int (Int32.ofInt 8), .ref 165]) 2 rfl ?_
  obtain ⟨A213, eA213⟩ : ∃ A0, xb_new A209 8 (.inl (.char, 8, .inl fun _ => Int32.ofInt 0)) = A0 := ⟨_, rfl⟩
  refine xr_newA rfl (by omega) rfl (xr_heap eA213 ?_)
  have g214 := xr_mv eA213 (xb_get_new_old g210)
  have g215 := xr_mv eA213 (xb_get_new_old g211)
  have g216 := xr_mv eA213 xb_get_new_same
  have nA213 : A213.1 = A209.1 + 1 := by rw [← eA213]; rfl
  obtain ⟨A217, eA217⟩ : ∃ A0, xb_set A213 165 (.inr (10, [.int (Int32.ofInt 0), .ref A.1, .int (Int32.ofInt 0), .int (Int32.ofInt 0), .ref A34.1, .ref A41.1, .ref A49.1, .ref A57.1, .ref A65.1, .ref A73.1, .ref A81.1, .int (Int32.ofInt 0), .ref A89.1, .int (Int32.ofInt 0), .ref A97.1, .ref A105.1, .ref A113.1, .ref A121.1, .ref A129.1, .int (Int32.ofInt 0), .ref A137.1, .ref A145.1, .int (Int32.ofInt 0), .ref A153.1, .ref A161.1, .ref A169.1, .ref A177.1, .int (Int32.ofInt 0), .ref A185.1, .ref A193.1, .ref A201.1, .ref A209.1, .null, .null, .null])) = A0 := ⟨_, rfl⟩
  refine xr_putf (t := .array (.char)) rfl g214 (by decide) (Nat.le_of_ble_eq_true rfl) rfl (xr_fitR _ rfl) (xr_heap eA217 ?_)
  have g218 := xr_mv eA217 (xb_get_set_same g214)
  have g219 := xr_mv eA217 (xb_get_set_ne g214 g215 (by omega))
  have g220 := xr_mv eA217 (xb_get_set_ne g214 g216 (by omega))
  have nA217 : A217.1 = A213.1 := by rw [← eA217]; rfl
  refine xr_steps (pc' := 204) (L' := [(0, .ref 165)]) (st' := [.int (Int32.ofInt 8), .ref 165]) 2 rfl ?_
  obtain ⟨A221, eA221⟩ : ∃ A0, xb_new A217 8 (.inl (.char, 8, .inl fun _ => Int32.ofInt 0)) = A0 := ⟨_, rfl⟩
  refine xr_newA rfl (by omega) rfl (xr_heap eA221 ?_)
  have g222 := xr_mv eA221 (xb_get_new_old g218)
  have g223 := xr_mv eA221 (xb_get_new_old g219)
  have g224 := xr_mv eA221 xb_get_new_same
  have nA221 : A221.1 = A217.1 + 1 := by rw [← eA221]; rfl
  obtain ⟨A225, eA225⟩ : ∃ A0, xb_set A221 165 (.inr (10, [.int (Int32.ofInt 0), .ref A.1, .int (Int32.ofInt 0), .int (Int32.ofInt 0), .ref A34.1, .ref A41.1, .ref A49.1, .ref A57.1, .ref A65.1, .ref A73.1, .ref A81.1, .int (Int32.ofInt 0), .ref A89.1, .int (Int32.ofInt 0), .ref A97.1, .ref A105.1, .ref A113.1, .ref A121.1, .ref A129.1, .int (Int32.ofInt 0), .ref A137.1, .ref A145.1, .int (Int32.ofInt 0), .ref A153.1, .ref A161.1, .ref A169.1, .ref A177.1, .int (Int32.ofInt 0), .ref A185.1, .ref A193.1, .ref A201.1, .ref A209.1, .ref A217.1, .null, .null])) = A0 := ⟨_, rfl⟩
  refine xr_putf (t := .array (.char)) rfl g222 (by decide) (Nat.le_of_ble_eq_true rfl) rfl (xr_fitR _ rfl) (xr_heap eA225 ?_)
  have g226 := xr_mv eA225 (xb_get_set_same g222)
  have g227 := xr_mv eA225 (xb_get_set_ne g222 g223 (by omega))
  have g228 := xr_mv eA225 (xb_get_set_ne g222 g224 (by omega))
  have nA225 : A225.1 = A221.1 := by rw [← eA225]; rfl
  refine xr_steps (pc' := 213) (L' := [(0, .ref 165)]) (st' := [.int (Int32.ofInt 128), .ref 165]) 2 rfl ?_
  obtain ⟨A229, eA229⟩ : ∃ A0, xb_new A225 128 (.inl (.int, 128, .inl fun _ => Int32.ofInt 0)) = A0 := ⟨_, rfl⟩
  refine xr_newA rfl (by omega) rfl (xr_heap eA229 ?_)
  have g230 := xr_mv eA229 (xb_get_new_old g226)
  have g231 := xr_mv eA229 (xb_get_new_old g227)
  have g232 := xr_mv eA229 xb_get_new_same
  have nA229 : A229.1 = A225.1 + 1 := by rw [← eA229]; rfl
  obtain ⟨A233, eA233⟩ : ∃ A0, xb_set A229 165 (.inr (10, [.int (Int32.ofInt 0), .ref A.1, .int (Int32.ofInt 0), .int (Int32.ofInt 0), .ref A34.1, .ref A41.1, .ref A49.1, .ref A57.1, .ref A65.1, .ref A73.1, .ref A81.1, .int (Int32.ofInt 0), .ref A89.1, .int (Int32.ofInt 0), .ref A97.1, .ref A105.1, .ref A113.1, .ref A121.1, .ref A129.1, .int (Int32.ofInt 0), .ref A137.1, .ref A145.1, .int (Int32.ofInt 0), .ref A153.1, .ref A161.1, .ref A169.1, .ref A177.1, .int (Int32.ofInt 0), .ref A185.1, .ref A193.1, .ref A201.1, .ref A209.1, .ref A217.1, .ref A225.1, .null])) = A0 := ⟨_, rfl⟩
  refine xr_putf (t := .array (.int)) rfl g230 (by decide) (Nat.le_of_ble_eq_true rfl) rfl (xr_fitR _ rfl) (xr_heap eA233 ?_)
  have g234 := xr_mv eA233 (xb_get_set_same g230)
  have g235 := xr_mv eA233 (xb_get_set_ne g230 g231 (by omega))
  have g236 := xr_mv eA233 (xb_get_set_ne g230 g232 (by omega))
  have nA233 : A233.1 = A229.1 := by rw [← eA233]; rfl
  refine xr_steps (pc' := 222) (L' := [(0, .ref 165)]) (st' := [.int (Int32.ofInt 128), .ref 165]) 2 rfl ?_
  obtain ⟨A237, eA237⟩ : ∃ A0, xb_new A233 128 (.inl (.int, 128, .inl fun _ => Int32.ofInt 0)) = A0 := ⟨_, rfl⟩
  refine xr_newA rfl (by omega) rfl (xr_heap eA237 ?_)
  have g238 := xr_mv eA237 (xb_get_new_old g234)
  have g239 := xr_mv eA237 (xb_get_new_old g235)
  have g240 := xr_mv eA237 xb_get_new_same
  have nA237 : A237.1 = A233.1 + 1 := by rw [← eA237]; rfl
  obtain ⟨A241, eA241⟩ : ∃ A0, xb_set A237 165 (.inr (10, [.int (Int32.ofInt 0), .ref A.1, .int (Int32.ofInt 0), .int (Int32.ofInt 0), .ref A34.1, .ref A41.1, .ref A49.1, .ref A57.1, .ref A65.1, .ref A73.1, .ref A81.1, .int (Int32.ofInt 0), .ref A89.1, .int (Int32.ofInt 0), .ref A97.1, .ref A105.1, .ref A113.1, .ref A121.1, .ref A129.1, .int (Int32.ofInt 0), .ref A137.1, .ref A145.1, .int (Int32.ofInt 0), .ref A153.1, .ref A161.1, .ref A169.1, .ref A177.1, .int (Int32.ofInt 0), .ref A185.1, .ref A193.1, .ref A201.1, .ref A209.1, .ref A217.1, .ref A225.1, .ref A233.1])) = A0 := ⟨_, rfl⟩
  refine xr_putf (t := .array (.int)) rfl g238 (by decide) (Nat.le_of_ble_eq_true rfl) rfl (xr_fitR _ rfl) (xr_heap eA241 ?_)
  have g242 := xr_mv eA241 (xb_get_set_same g238)
  have g243 := xr_mv eA241 (xb_get_set_ne g238 g239 (by omega))
  have g244 := xr_mv eA241 (xb_get_set_ne g238 g240 (by omega))
  have nA241 : A241.1 = A237.1 := by rw [← eA241]; rfl
  refine xr_retN rfl rfl ⟨rfl, ?_⟩
  rw [← hA]
  exact g243
/-! The start: old cells, mismatches, the path -/
def xg_A0 : xb_H := (64, 0, fun _ => none)
def xg_1 (w : Value) : Option (xb_R × xb_H) := xb_run (xt_G w) 5000 xl_d 1 0 [(0, .ref 64)] [] (xb_new xg_A0 5 (.inr (0, (xt_ty 0).map defaultValue)))
def xg_A1 (w : Value) : xb_H := match xg_1 w with
  | some (_, A) => A
  | none => xg_A0
def xg_2 (w : Value) : Option (xb_R × xb_H) := xb_run (xt_G w) 5000 xl_d 203 0 [(0, .ref 165)] [] (xb_new (xg_A1 w) 35 (.inr (10, (xt_ty 10).map defaultValue)))
def xg_A2 (w : Value) : xb_H := match xg_2 w with
  | some (_, A) => A
  | none => xg_A0
def xg_c (w : Value) : Bool := decide ((xg_1 w).map (fun r => (r.1, r.2.1)) = some (.inl none, 165)) && (decide ((xg_2 w).map (fun r => r.1) = some (.inl none)) && (List.range 64).all fun a => ((xg_A2 w).2.2 a).isNone)
theorem xg_c0 : xg_c .null = true ∧ xg_c (.ref 19) = true := by decide +kernel
def xg_m (A : xb_H) : Bool := match xb_get A 74 with
  | some (.inl (ty, n, .inr (.inr f))) => decide (ty = .object "ContractDesk$Mismatch" ∧ n = 30) && (List.range 30).all fun k => decide (f k = some (75 + 3 * k))
  | _ => false
def xg_k (A : xb_H) : Bool := (decide (yz_o A 72 = some (6, [.ref 73, .int 0])) && decide (yz_i A 73 = some (.int, 5, true))) && (xg_m A && (List.range 30).all fun k => decide (yz_o A (75 + 3 * k) = some (5, [.ref (76 + 3 * k), .int 0])) && (decide (yz_o A (76 + 3 * k) = some (11, [.ref (77 + 3 * k), .int 0, .int 0, .int 0])) && decide (yz_i A (77 + 3 * k) = some (.byte, 16, true))))
theorem xg_k0 : xg_k (xd_A2 .null) = true ∧ xg_k (xd_A2 (.ref 19)) = true := by decide +kernel
section ST0
variable {w : Value}
theorem xd_old64 : ∀ a, 64 ≤ a → xd_old a = none := by
  intro a h
  unfold xd_old xt_old
  rw [if_neg (by omega), if_neg (by omega), if_neg (by omega), if_neg (by omega), if_neg (by omega), if_neg (by omega), if_neg (by omega), if_neg (by omega)]
theorem xg_old (hw : w = .null ∨ w = .ref 19) : ∃ B : xb_H, xd_A2 w = xb_ov B xd_old ∧ ∀ a, a < 64 → B.2.2 a = none := by
  have hc : xg_c w = true := by
    rcases hw with rfl | rfl
    · exact xg_c0.1
    · exact xg_c0.2
  unfold xg_c at hc
  simp only [Bool.and_eq_true, decide_eq_true_eq] at hc
  obtain ⟨c1, c2, c3⟩ := hc
  have hA0 : xb_ov xg_A0 xd_old = xd_A0 := rfl
  cases e1 : xg_1 w with
  | none => rw [e1] at c1; cases c1
  | some r1 =>
    obtain ⟨o1, A1⟩ := r1
    rw [e1] at c1
    have c1' : (o1, A1.1) = (.inl none, 165) := Option.some.inj c1
    obtain ⟨rfl, n1⟩ := Prod.mk.inj c1'
    have a1 : xg_A1 w = A1 := by unfold xg_A1; rw [e1]
    cases e2 : xg_2 w with
    | none => rw [e2] at c2; cases c2
    | some r2 =>
      obtain ⟨o2, A2⟩ := r2
      rw [e2] at c2
      have c2' : o2 = .inl none := Option.some.inj c2
      subst c2'
      have a2 : xg_A2 w = A2 := by unfold xg_A2; rw [e2]
      have h1 : xd_1 w = some (.inl none, xb_ov A1 xd_old) := by
        unfold xg_1 at e1
        have := xo_run (X := xd_old) xd_old64 _ _ _ _ _ _ _ _ e1 (by show 64 ≤ 64 + 1; omega)
        unfold xd_1
        rw [← hA0, xo_new]
        exact this
      have b1 : xd_A1 w = xb_ov A1 xd_old := by unfold xd_A1; rw [h1]
      have h2 : xd_2 w = some (.inl none, xb_ov A2 xd_old) := by
        unfold xg_2 at e2
        rw [a1] at e2
        have := xo_run (X := xd_old) xd_old64 _ _ _ _ _ _ _ _ e2 (by show 64 ≤ A1.1 + 1; omega)
        unfold xd_2
        rw [b1, xo_new]
        exact this
      refine ⟨A2, by unfold xd_A2; rw [h2], fun a ha => ?_⟩
      have := List.all_eq_true.mp c3 a (List.mem_range.mpr ha)
      rw [a2] at this
      exact Option.isNone_iff_eq_none.mp this
theorem xg_lo (hw : w = .null ∨ w = .ref 19) (n : Nat) (xs : Nat → Int32) : ∀ a, a < 64 → xb_get (xd_B (xd_A2 w) n xs) a = (match xd_old a with | some o => some o | none => xd_X n xs a) := by
  intro a ha
  obtain ⟨A2, -, e2, n2, -⟩ := xd_m2 w hw
  obtain ⟨B, eB, hB⟩ := xg_old hw
  rw [eB] at e2 ⊢
  have hn : (xb_ov B xd_old).1 = 193 := by rw [e2]; exact n2
  unfold xd_B xb_get
  rw [if_pos (by show a < (xb_ov B xd_old).1 + 1; omega)]
  show (match (if a = (xb_ov B xd_old).1 then some ((Sum.inl (FieldType.long, 1, Sum.inr (Sum.inl fun _ => 0))) : xb_O) else (match B.2.2 a with | some o => some o | none => xd_old a)) with | some o => some o | none => xd_X n xs a) = _
  rw [if_neg (by omega), hB a ha]
  rfl
theorem xg_old1 (hw : w = .null ∨ w = .ref 19) (n : Nat) (xs : Nat → Int32) {a : Nat} {o : xb_O} (ha : a < 64) (h : xd_old a = some o) : xb_get (xd_B (xd_A2 w) n xs) a = some o := by
  rw [xg_lo hw n xs a ha, h]
theorem xg_166 (hw : w = .null ∨ w = .ref 19) (n : Nat) (xs : Nat → Int32) : xb_get (xd_B (xd_A2 w) n xs) 166 = some (.inl (.char, 3712, .inl fun _ => Int32.ofInt 0)) := by
  obtain ⟨A1, -, e1, n1⟩ := xd_m1 w hw
  obtain ⟨A2, r2, e2, -, -⟩ := xd_m2 w hw
  unfold xd_2 at r2
  rw [e1] at r2
  obtain ⟨m, o, A', h1, h2, h3⟩ := xg_203 (w := w) (A := xb_new A1 35 (.inr (10, (xt_ty 10).map defaultValue))) (by show A1.1 + 1 = 166; omega) (by rw [← n1]; exact xb_get_new_same)
  have g1 := xb_run_le h1 (Nat.le_max_left m 5000)
  have g2 := xb_run_le r2 (Nat.le_max_right m 5000)
  have e := g1.symm.trans g2
  have e3 : (o, A') = (.inl none, A2) := Option.some.inj e
  obtain ⟨-, rfl⟩ := Prod.mk.inj e3
  rw [e2]
  exact yz_B h3
theorem xg_str (hw : w = .null ∨ w = .ref 19) (n : Nat) (xs : Nat → Int32) {i m : Nat} (hi : i < 5) (hm : (xt_str i).length = m) (hr : ∀ j : Nat, j < m → 0 ≤ yk_f i j ∧ yk_f i j ≤ 127) (hm2 : m ≤ 1000) : ys (xd_B (xd_A2 w) n xs) (9 + i) (14 + i) m (yk_f i) := by
  have o1 : xd_old (9 + i) = some (.inr (12, [.ref (9 + i + 5), .int 0])) := by
    unfold xd_old xt_old
    rw [if_neg (by omega), if_neg (by omega), if_neg (by omega), if_neg (by omega), if_neg (by omega), if_pos (by omega)]
  have o2 : xd_old (14 + i) = some (xt_by (xt_str (14 + i - 14))) := by
    unfold xd_old xt_old
    rw [if_neg (by omega), if_neg (by omega), if_neg (by omega), if_neg (by omega), if_neg (by omega), if_neg (by omega), if_pos (by omega)]
  refine ⟨⟨_, xg_old1 hw n xs (by omega) o1, ?_, rfl⟩, ?_, hm2, hr⟩
  · show some (Value.ref (9 + i + 5)) = some (Value.ref (14 + i))
    rw [show 9 + i + 5 = 14 + i by omega]
  · rw [xg_old1 hw n xs (by omega) o2, show 14 + i - 14 = i by omega]
    show some (Sum.inl (FieldType.byte, (xt_str i).length, Sum.inl fun j => (xt_str i).getD j 0)) = _
    rw [hm]
    exact congrArg (fun z => some (Sum.inl (FieldType.byte, m, Sum.inl z))) (funext fun j => (Int32.ofInt_toInt _).symm)
theorem xg_dig : (xt_dig false).length = 100 ∧ (xt_dig true).length = 100 ∧ (∀ j : Nat, j < 100 → (xt_dig false).getD j 0 = Int32.ofInt ((48 + j % 10 : Nat) : Int)) ∧ ∀ j : Nat, j < 100 → (xt_dig true).getD j 0 = Int32.ofInt ((48 + j / 10 : Nat) : Int) := by decide +kernel
theorem xg_yk3 (hw : w = .null ∨ w = .ref 19) (n : Nat) (xs : Nat → Int32) : yk3 (xd_B (xd_A2 w) n xs) := by
  refine ⟨fun j => (xt_dig false).getD j 0, fun j => (xt_dig true).getD j 0, ?_, ?_, xg_dig.2.2.1, xg_dig.2.2.2⟩
  · rw [xg_old1 hw n xs (by omega) (show xd_old 7 = some (xt_by (xt_dig false)) from rfl)]
    show some (Sum.inl (FieldType.byte, (xt_dig false).length, Sum.inl fun j => (xt_dig false).getD j 0)) = _
    rw [xg_dig.1]
  · rw [xg_old1 hw n xs (by omega) (show xd_old 8 = some (xt_by (xt_dig true)) from rfl)]
    show some (Sum.inl (FieldType.byte, (xt_dig true).length, Sum.inl fun j => (xt_dig true).getD j 0)) = _
    rw [xg_dig.2.1]
theorem xg_yk2 (hw : w = .null ∨ w = .ref 19) (n : Nat) (xs : Nat → Int32) (h64 : 64 ≤ (xd_B (xd_A2 w) n xs).1) : yk2 (xd_B (xd_A2 w) n xs) := by
  refine ⟨h64, fun x fs hx h => ?_⟩
  rw [xg_lo hw n xs x hx] at h
  by_cases hr : 9 ≤ x ∧ x < 14
  · exact hr
  · exfalso
    unfold xd_old xt_old xd_X at h
    by_cases e20 : x = 20
    · rw [if_pos e20, if_pos e20] at h; cases h
    · rw [if_neg e20] at h
      by_cases e6 : x < 6
      · rw [if_pos e6, if_neg e20] at h; cases h
      · rw [if_neg e6] at h
        by_cases e7 : x = 6
        · rw [if_pos e7] at h; cases h
        · rw [if_neg e7] at h
          by_cases e8 : x = 7
          · rw [if_pos e8] at h; cases h
          · rw [if_neg e8] at h
            by_cases e9 : x = 8
            · rw [if_pos e9] at h; cases h
            · rw [if_neg e9, if_neg (by omega)] at h
              by_cases e10 : x < 19
              · rw [if_pos e10] at h; cases h
              · rw [if_neg e10, if_neg e20, if_neg e20] at h; cases h
theorem xg_yk1 (hw : w = .null ∨ w = .ref 19) (n : Nat) (xs : Nat → Int32) : yk1 (xd_B (xd_A2 w) n xs) := by
  refine ⟨⟨xg_str (i := 0) hw n xs (by omega) rfl (by decide +kernel) (by omega), xg_str (i := 1) hw n xs (by omega) rfl (by decide +kernel) (by omega), xg_str (i := 2) hw n xs (by omega) rfl (by decide +kernel) (by omega), xg_str (i := 3) hw n xs (by omega) rfl (by decide +kernel) (by omega), xg_str (i := 4) hw n xs (by omega) rfl (by decide +kernel) (by omega)⟩, ?_⟩
  exact xg_old1 hw n xs (by omega) rfl
theorem yJ_0 (hw : w = .null ∨ w = .ref 19) (n : Nat) (xs : Nat → Int32) : yJ n xs 0 (xd_B (xd_A2 w) n xs) := by
  have hk1 := xg_yk1 hw n xs
  have hk2 := xg_yk2 hw n xs
  have hk3 := xg_yk3 hw n xs
  have h166 := xg_166 hw n xs
  have hk : xg_k (xd_A2 w) = true := by
    rcases hw with rfl | rfl
    · exact xg_k0.1
    · exact xg_k0.2
  have hB : ∀ {a : Nat} {o : xb_O}, xb_get (xd_A2 w) a = some o → xb_get (xd_B (xd_A2 w) n xs) a = some o := fun h => yz_B h
  unfold xg_k at hk
  simp only [Bool.and_eq_true, decide_eq_true_eq] at hk
  obtain ⟨⟨p1, p2⟩, p3, p4⟩ := hk
  obtain ⟨f73, g73, -⟩ := yz_i_get p2
  have g72 := hB (yz_o_get p1)
  have g73 := hB g73
  have g74 : ∃ fm : Nat → Option Nat, xb_get (xd_B (xd_A2 w) n xs) 74 = some (.inl (.object "ContractDesk$Mismatch", 30, .inr (.inr fm))) ∧ ∀ k : Nat, k < 30 → fm k = some (75 + 3 * k) := by
    unfold xg_m at p3
    split at p3
    · rename_i ty n0 f h
      simp only [Bool.and_eq_true, decide_eq_true_eq] at p3
      obtain ⟨⟨rfl, rfl⟩, q⟩ := p3
      refine ⟨f, hB h, fun k hk => ?_⟩
      have := List.all_eq_true.mp q k (List.mem_range.mpr hk)
      exact decide_eq_true_iff.mp this
    · cases p3
  have gm : ∀ k : Nat, k < 30 → ymm (xd_B (xd_A2 w) n xs) (75 + 3 * k) (76 + 3 * k) 0 (77 + 3 * k) 16 [] := by
    intro k hk
    have h := List.all_eq_true.mp p4 k (List.mem_range.mpr hk)
    simp only [Bool.and_eq_true, decide_eq_true_eq] at h
    obtain ⟨h1, h2, h3⟩ := h
    obtain ⟨f, g1, g2⟩ := yz_i_get h3
    refine ⟨hB (yz_o_get h1), ⟨0, fun j => (f j).toInt, ⟨hB (yz_o_get h2), ?_, ⟨by show 0 ≤ 16; omega, by omega⟩, ⟨by omega, by omega⟩, fun j hj => ?_⟩, fun j hj => absurd hj (Nat.not_lt_zero _)⟩, ⟨by omega, by omega⟩, by omega⟩
    · rw [hB g1]
      exact congrArg (fun z => some (Sum.inl (FieldType.byte, 16, Sum.inl z))) (funext fun j => (Int32.ofInt_toInt _).symm)
    · show 0 ≤ (f j).toInt ∧ (f j).toInt ≤ 127
      rw [g2 j hj]
      decide
  clear p1 p2 p3 p4 hB
  obtain ⟨A, t, f66, f69, f70, f67, hy, eB, n1, n2, hz, h20, h193, h64, hb65, ⟨h68, h71⟩, ⟨h69, z69⟩, ⟨h70, z70⟩, ⟨h67, z67⟩⟩ := yz_fresh hw n xs
  rw [eB] at hk1 hk2 hk3 h166 g72 g73 g74 gm hy ⊢
  clear eB
  have hz0 : ∀ x : Nat, 166 ≤ x → x < 193 → ¬ x = 166 → (va_up t 166 (fun _ => 0)) x = t x := fun x _ _ e => ya_up_ne _ _ e
  have hym : A = ym A (fun _ => 0) (va_up t 166 (fun _ => 0)) := by
    refine ym_of ?_ (fun x h1 h2 => ?_)
    · rw [hy]; exact ym_165 (by omega)
    · by_cases e : x = 166
      · rw [e, h166]
        show _ = some (Sum.inl (FieldType.char, 3712, Sum.inl fun j => Int32.ofInt ((va_up t 166 (fun _ => 0)) 166 j)))
        rw [ya_up_same]
      · have g : xb_get A x = some (ym_c t x) := by rw [hy]; exact ym_get (by omega) h1 h2
        rw [g]
        unfold ym_c
        rw [ya_up_ne _ _ e]
  have h69' : xb_get A 69 = some (.inl (.int, 6, .inl fun j => Int32.ofInt (f69 j).toInt)) := by
    rw [h69]
    exact congrArg (fun z => some (Sum.inl (FieldType.int, 6, Sum.inl z))) (funext fun j => (Int32.ofInt_toInt (f69 j)).symm)
  have h70' : xb_get A 70 = some (.inl (.int, 3072, .inl fun j => Int32.ofInt (f70 j).toInt)) := by
    rw [h70]
    exact congrArg (fun z => some (Sum.inl (FieldType.int, 3072, Sum.inl z))) (funext fun j => (Int32.ofInt_toInt (f70 j)).symm)
  have h73' : xb_get A 73 = some (.inl (.int, 5, .inl fun j => Int32.ofInt (f73 j).toInt)) := by
    rw [g73]
    exact congrArg (fun z => some (Sum.inl (FieldType.int, 5, Sum.inl z))) (funext fun j => (Int32.ofInt_toInt (f73 j)).symm)
  have zh : ∀ j : Nat, j < 6 → (f69 j).toInt = 0 := fun j hj => by rw [z69 j hj]; rfl
  have zt : ∀ x : Nat, 166 ≤ x → x < 193 → ¬ x = 166 → ∀ j, j < (ym_ty x).2 → (va_up t 166 (fun _ => 0)) x j = 0 := fun x h1 h2 e j hj => by rw [ya_up_ne _ _ e]; exact hz x h1 h2 j hj
  refine ⟨fun y => if y = 66 then 1 else if 77 ≤ y ∧ y ≤ 164 ∧ (y - 77) % 3 = 0 then 2 + (y - 77) / 3 else 0, 66, 16, fun k => 77 + 3 * k, fun _ => (0, 0, 0), .null, [], [], [], fun j => (f69 j).toInt, [], [], fun _ => 0, va_up t 166 (fun _ => 0), ⟨⟨⟨by omega, fun y hy => ?_, hk1⟩, h64, ⟨⟨0, f66, hb65, fun j hj => absurd hj (Nat.not_lt_zero _)⟩, Or.inl rfl, rfl, Nat.zero_le _, fun c hc => absurd hc List.not_mem_nil⟩, ⟨⟨f67, h67, fun i hi => absurd hi (Nat.not_lt_zero _)⟩, Nat.zero_le _⟩, fun i I hI => (by cases hI), ⟨h68, h69', ⟨_, h70', fun j hj => absurd hj (Nat.not_lt_zero _)⟩, Nat.zero_le _, fun j hj => ?_⟩, ⟨⟨Nat.le_refl _, by omega⟩, h71, ⟨_, g72, h73', fun j hj => absurd hj (Nat.not_lt_zero _), ⟨Nat.zero_le _, by omega⟩, ⟨by omega, by omega⟩, fun c hc => absurd hc List.not_mem_nil⟩, ⟨g74, fun k hk => ⟨0, 16, [], gm k hk, fun e he => (by cases he)⟩, fun k hk => ⟨id, Or.inl rfl⟩, fun k k' _ _ e => ?_⟩, hk2 (by omega), hk3⟩, fun k hk => ?_⟩, hym, ?_⟩, ⟨h20, _, h193⟩, Nat.zero_le _, Nat.zero_le _, by omega, by omega⟩
  · show (if y = 66 then 1 else if 77 ≤ y ∧ y ≤ 164 ∧ (y - 77) % 3 = 0 then 2 + (y - 77) / 3 else 0) = 0
    rw [if_neg (by omega), if_neg (by omega)]
  · show 0 ≤ (f69 j).toInt ∧ (f69 j).toInt ≤ 3
    rw [zh j hj]
    omega
  · have e' : 77 + 3 * k = 77 + 3 * k' := e
    omega
  · show (if 77 + 3 * k = 66 then 1 else if 77 ≤ 77 + 3 * k ∧ 77 + 3 * k ≤ 164 ∧ (77 + 3 * k - 77) % 3 = 0 then 2 + (77 + 3 * k - 77) / 3 else 0) = 2 + k
    rw [if_neg (by omega), if_pos (by omega)]
    omega
  · refine ⟨⟨rfl, Nat.zero_le _, fun j => by rw [ya_up_same]; omega, fun j hj => absurd hj (Nat.not_lt_zero _)⟩, ⟨rfl, Nat.zero_le _⟩, fun i I hI => (by cases hI), fun i _ hi => ⟨zt 168 (by omega) (by omega) (by omega) i hi, zt 169 (by omega) (by omega) (by omega) i hi, zt 171 (by omega) (by omega) (by omega) i hi⟩, fun j hj => ⟨?_, ?_⟩, ⟨rfl, Nat.zero_le _, fun j hj => absurd hj (Nat.not_lt_zero _)⟩, ⟨rfl, fun k e _ he => (by cases he)⟩, fun j hj => ?_, fun j hj => ?_⟩
    · show _ = (f69 j).toInt
      rw [zt 173 (by omega) (by omega) (by omega) j hj, zh j hj]
    · show 0 ≤ (f69 j).toInt ∧ (f69 j).toInt ≤ 3
      rw [zh j hj]; omega
    · rw [zt 172 (by omega) (by omega) (by omega) j hj]; omega
    · rw [zt 176 (by omega) (by omega) (by omega) j hj]; omega
end ST0
theorem xw_all : ∀ (w : Value) (L : Nat) (xs : Nat → Int32), (w = .null ∨ w = .ref 19) → L ≤ 1536 → xl_ok (xt_G w) 0 [(0, .ref 20)] [] (xt_A0 L xs) (fun v A => v = 1 ∧ A.1 ≤ 601088 ∧ A.2.1 ≤ 7293034) := by
  intro w L xs hw hL
  refine yl_law hw hL (yJ L xs) (yJ_0 hw L xs) (fun m A h => yJ_st h) (fun m A h hm => yJ_turn hw h (by omega) _) (fun m A h hm => ?_)
  obtain ⟨R, v, nv, vv, xa, ir, l, T, ins, hd, ev, ms, s, t, -, -, -, -, hb1, hb2⟩ := h
  exact ⟨rfl, by omega, by omega⟩
