/-! The law's run on scripts of at most 3 ints -/
theorem yf_goal : xw_goal := by
  intro w n xs hw hn
  refine yl_law hw (by omega) (fun m A => (m = 0 → A = xd_B (xd_A2 w) n xs) ∧ yf_J n xs A) ⟨fun _ => rfl, yf_first hw n xs⟩ (fun m A h => h.2.1) ?_ ?_
  · intro m A h h3
    obtain rfl : m = 0 := by omega
    have e : (fun A => (0 + 1 = 0 → A = xd_B (xd_A2 w) n xs) ∧ yf_J n xs A) = yf_J n xs := by
      funext A
      exact propext ⟨fun h => h.2, fun h => ⟨fun e => absurd e (by decide), h⟩⟩
    rw [e, h.1 rfl]
    exact yf_turn hw n xs
  · intro m A h _
    have := h.2.2
    exact ⟨rfl, by omega, by omega⟩
theorem i_vc : Claimed_1_1 ∧ Claimed_1_2 := xw_claim yf_goal
