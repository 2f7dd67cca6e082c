/-! The reference: kind, end -/
theorem mo_217 {w : Value} {d : Nat} {A : xb_H} {s : Nat → Int} {t : Nat → Nat → Int} {p : Nat} (hA : 194 ≤ A.1) (hE : ∀ j : Nat, 0 ≤ t 166 j ∧ t 166 j ≤ 127) (hp : p < 3712) : xr_ok (xt_G w) d 217 0 [(0, .ref 165), (1, .int (Int32.ofInt (p : Int)))] [] (ym A s t) (fun o A' => ∃ v0, o = .inl v0 ∧ v0 = some (.int (Int32.ofInt (xkd (t 166 p) : Nat))) ∧ A' = ym A s t) := by
  refine xr_steps (pc' := 1) (L' := [(0, .ref 165), (1, .int (Int32.ofInt (p : Int)))]) (st' := [.ref 165]) 1 rfl ?_
  refine xr_getf (v := .ref 166) rfl (ym_165 hA) rfl ?_
  refine xr_steps (pc' := 5) (L' := [(0, .ref 165), (1, .int (Int32.ofInt (p : Int)))]) (st' := [.int (Int32.ofInt (p : Int)), .ref 166]) 1 rfl ?_
  refine ym_caload (e := t 166 (p : Int).toNat) hA rfl rfl (by decide) (by omega) (by omega) rfl ?_
  rw [show (p : Int).toNat = p by omega]
  refine xr_steps (pc' := 7) (L' := [(2, .int (Int32.ofInt (t 166 p))), (0, .ref 165), (1, .int (Int32.ofInt (p : Int)))]) (st' := []) 1 rfl ?_
  have hp1 := hE p
  refine xr_steps (pc' := 10) (L' := [(2, .int (Int32.ofInt (t 166 p))), (0, .ref 165), (1, .int (Int32.ofInt (p : Int)))]) (st' := [.int (Int32.ofInt 110), .int (Int32.ofInt (t 166 p))]) 2 rfl ?_
  refine xr_icmp_ne rfl (by omega) (by omega) (fun z31 => ?_) (fun z31 => ?_)
  · refine xr_steps (pc' := 20) (L' := [(2, .int (Int32.ofInt (t 166 p))), (0, .ref 165), (1, .int (Int32.ofInt (p : Int)))]) (st' := [.int (Int32.ofInt 116), .int (Int32.ofInt (t 166 p))]) 2 rfl ?_
    refine xr_icmp_eq rfl (by omega) (by omega) (fun z32 => ?_) (fun z32 => ?_)
    · refine xr_steps (pc' := 64) (L' := [(2, .int (Int32.ofInt (t 166 p))), (0, .ref 165), (1, .int (Int32.ofInt (p : Int)))]) (st' := [.int (Int32.ofInt 1)]) 2 rfl ?_
      exact xr_retI2 rfl rfl ⟨_, rfl, congrArg (fun z : Int => some (Value.int (Int32.ofInt z))) (by unfold xkd; (repeat' split) <;> first | rfl | omega), rfl⟩
    · refine xr_steps (pc' := 26) (L' := [(2, .int (Int32.ofInt (t 166 p))), (0, .ref 165), (1, .int (Int32.ofInt (p : Int)))]) (st' := [.int (Int32.ofInt 102), .int (Int32.ofInt (t 166 p))]) 2 rfl ?_
      refine xr_icmp_ne rfl (by omega) (by omega) (fun z33 => ?_) (fun z33 => ?_)
      · refine xr_steps (pc' := 36) (L' := [(2, .int (Int32.ofInt (t 166 p))), (0, .ref 165), (1, .int (Int32.ofInt (p : Int)))]) (st' := [.int (Int32.ofInt 34), .int (Int32.ofInt (t 166 p))]) 2 rfl ?_
        refine xr_icmp_ne rfl (by omega) (by omega) (fun z34 => ?_) (fun z34 => ?_)
        · refine xr_steps (pc' := 46) (L' := [(2, .int (Int32.ofInt (t 166 p))), (0, .ref 165), (1, .int (Int32.ofInt (p : Int)))]) (st' := [.int (Int32.ofInt 91), .int (Int32.ofInt (t 166 p))]) 2 rfl ?_
          refine xr_icmp_ne rfl (by omega) (by omega) (fun z35 => ?_) (fun z35 => ?_)
          · refine xr_steps (pc' := 56) (L' := [(2, .int (Int32.ofInt (t 166 p))), (0, .ref 165), (1, .int (Int32.ofInt (p : Int)))]) (st' := [.int (Int32.ofInt 123), .int (Int32.ofInt (t 166 p))]) 2 rfl ?_
            refine xr_icmp_ne rfl (by omega) (by omega) (fun z36 => ?_) (fun z36 => ?_)
            · refine xr_steps (pc' := 64) (L' := [(2, .int (Int32.ofInt (t 166 p))), (0, .ref 165), (1, .int (Int32.ofInt (p : Int)))]) (st' := [.int (Int32.ofInt 2)]) 1 rfl ?_
              exact xr_retI2 rfl rfl ⟨_, rfl, congrArg (fun z : Int => some (Value.int (Int32.ofInt z))) (by unfold xkd; (repeat' split) <;> first | rfl | omega), rfl⟩
            · refine xr_steps (pc' := 64) (L' := [(2, .int (Int32.ofInt (t 166 p))), (0, .ref 165), (1, .int (Int32.ofInt (p : Int)))]) (st' := [.int (Int32.ofInt 5)]) 2 rfl ?_
              exact xr_retI2 rfl rfl ⟨_, rfl, congrArg (fun z : Int => some (Value.int (Int32.ofInt z))) (by unfold xkd; (repeat' split) <;> first | rfl | omega), rfl⟩
          · refine xr_steps (pc' := 64) (L' := [(2, .int (Int32.ofInt (t 166 p))), (0, .ref 165), (1, .int (Int32.ofInt (p : Int)))]) (st' := [.int (Int32.ofInt 4)]) 2 rfl ?_
            exact xr_retI2 rfl rfl ⟨_, rfl, congrArg (fun z : Int => some (Value.int (Int32.ofInt z))) (by unfold xkd; (repeat' split) <;> first | rfl | omega), rfl⟩
        · refine xr_steps (pc' := 64) (L' := [(2, .int (Int32.ofInt (t 166 p))), (0, .ref 165), (1, .int (Int32.ofInt (p : Int)))]) (st' := [.int (Int32.ofInt 3)]) 2 rfl ?_
          exact xr_retI2 rfl rfl ⟨_, rfl, congrArg (fun z : Int => some (Value.int (Int32.ofInt z))) (by unfold xkd; (repeat' split) <;> first | rfl | omega), rfl⟩
      · refine xr_steps (pc' := 64) (L' := [(2, .int (Int32.ofInt (t 166 p))), (0, .ref 165), (1, .int (Int32.ofInt (p : Int)))]) (st' := [.int (Int32.ofInt 1)]) 2 rfl ?_
        exact xr_retI2 rfl rfl ⟨_, rfl, congrArg (fun z : Int => some (Value.int (Int32.ofInt z))) (by unfold xkd; (repeat' split) <;> first | rfl | omega), rfl⟩
  · refine xr_steps (pc' := 64) (L' := [(2, .int (Int32.ofInt (t 166 p))), (0, .ref 165), (1, .int (Int32.ofInt (p : Int)))]) (st' := [.int (Int32.ofInt 0)]) 2 rfl ?_
    exact xr_retI2 rfl rfl ⟨_, rfl, congrArg (fun z : Int => some (Value.int (Int32.ofInt z))) (by unfold xkd; (repeat' split) <;> first | rfl | omega), rfl⟩
theorem mo_220 {w : Value} {d : Nat} {A : xb_H} {s : Nat → Int} {t : Nat → Nat → Int} {c : Int} (hA : 194 ≤ A.1) (hc : 0 ≤ c ∧ c ≤ 127) {b : Int} (hb : (b = 1 ∧ (xst c)) ∨ (b = 0 ∧ ¬ (xst c))) : xr_ok (xt_G w) d 220 0 [(0, .int (Int32.ofInt c))] [] (ym A s t) (fun o A' => ∃ v0, o = .inl v0 ∧ v0 = some (.int (Int32.ofInt b)) ∧ A' = ym A s t) := by
  refine xr_steps (pc' := 3) (L' := [(0, .int (Int32.ofInt c))]) (st' := [.int (Int32.ofInt 44), .int (Int32.ofInt c)]) 2 rfl ?_
  refine xr_icmp_eq rfl (by omega) (by omega) (fun z31 => ?_) (fun z31 => ?_)
  · refine xr_steps (pc' := 27) (L' := [(0, .int (Int32.ofInt c))]) (st' := [.int (Int32.ofInt 1)]) 2 rfl ?_
    obtain rfl : b = 1 := by unfold xst at hb; omega
    exact xr_retZ rfl rfl (by omega) ⟨_, rfl, rfl, rfl⟩
  · refine xr_steps (pc' := 9) (L' := [(0, .int (Int32.ofInt c))]) (st' := [.int (Int32.ofInt 93), .int (Int32.ofInt c)]) 2 rfl ?_
    refine xr_icmp_eq rfl (by omega) (by omega) (fun z32 => ?_) (fun z32 => ?_)
    · refine xr_steps (pc' := 27) (L' := [(0, .int (Int32.ofInt c))]) (st' := [.int (Int32.ofInt 1)]) 2 rfl ?_
      obtain rfl : b = 1 := by unfold xst at hb; omega
      exact xr_retZ rfl rfl (by omega) ⟨_, rfl, rfl, rfl⟩
    · refine xr_steps (pc' := 15) (L' := [(0, .int (Int32.ofInt c))]) (st' := [.int (Int32.ofInt 125), .int (Int32.ofInt c)]) 2 rfl ?_
      refine xr_icmp_eq rfl (by omega) (by omega) (fun z33 => ?_) (fun z33 => ?_)
      · refine xr_steps (pc' := 27) (L' := [(0, .int (Int32.ofInt c))]) (st' := [.int (Int32.ofInt 1)]) 2 rfl ?_
        obtain rfl : b = 1 := by unfold xst at hb; omega
        exact xr_retZ rfl rfl (by omega) ⟨_, rfl, rfl, rfl⟩
      · refine xr_steps (pc' := 19) (L' := [(0, .int (Int32.ofInt c))]) (st' := [.int (Int32.ofInt c)]) 1 rfl ?_
        refine xr_if_ne rfl (by omega) (fun z34 => ?_) (fun z34 => ?_)
        · refine xr_steps (pc' := 27) (L' := [(0, .int (Int32.ofInt c))]) (st' := [.int (Int32.ofInt 0)]) 1 rfl ?_
          obtain rfl : b = 0 := by unfold xst at hb; omega
          exact xr_retZ rfl rfl (by omega) ⟨_, rfl, rfl, rfl⟩
        · refine xr_steps (pc' := 27) (L' := [(0, .int (Int32.ofInt c))]) (st' := [.int (Int32.ofInt 1)]) 2 rfl ?_
          obtain rfl : b = 1 := by unfold xst at hb; omega
          exact xr_retZ rfl rfl (by omega) ⟨_, rfl, rfl, rfl⟩
def xeL (p q : Nat) (dep : Int) (o : Option Int) : xb_L := (3, .int (Int32.ofInt (q : Int))) :: (match o with
  | none => [(2, .int (Int32.ofInt dep)), (0, .ref 165), (1, .int (Int32.ofInt (p : Int)))]
  | some c => [(2, .int (Int32.ofInt dep)), (4, .int (Int32.ofInt c)), (0, .ref 165), (1, .int (Int32.ofInt (p : Int)))])
/-- how a character changes the depth -/
def xdl (c : Int) : Int := if c = 91 ∨ c = 123 then 1 else if c = 93 ∨ c = 125 then -1 else 0
section ME
variable {w : Value} {d : Nat} {A : xb_H} {s : Nat → Int} {t : Nat → Nat → Int} {p : Nat} {Q : xb_R → xb_H → Prop}
theorem mo_219s (hA : 194 ≤ A.1) (hE : ∀ j : Nat, 0 ≤ t 166 j ∧ t 166 j ≤ 127) (hp : p < 3712) {q : Nat} {dep : Int} {o : Option Int} (hq : q < 3712) (hd : -100 ≤ dep ∧ dep ≤ 100) (h1 : (dep = 0 ∧ p < q ∧ (xst (t 166 q) ∨ 3 < xkd (t 166 p))) → Q (.inl (some (.int (Int32.ofInt (q : Int))))) (ym A s t)) (h2 : ¬ (dep = 0 ∧ p < q ∧ (xst (t 166 q) ∨ 3 < xkd (t 166 p))) → xr_ok (xt_G w) (d + 1) 219 4 (xeL p (q + 1) (dep + xdl (t 166 q)) (some (t 166 q))) [] (ym A s t) Q) : xr_ok (xt_G w) (d + 1) 219 4 (xeL p q dep o) [] (ym A s t) Q := by
  have hEq := hE q
  refine xr_steps (pc' := 8) (L' := xeL p q dep o) (st' := [.int (Int32.ofInt 3712), .int (Int32.ofInt (q : Int))]) 2 (by cases o <;> rfl) ?_
  refine xr_icmp_ge rfl (by omega) (by omega) (fun h => absurd h (by omega)) (fun _ => ?_)
  refine xr_steps (pc' := 12) (L' := xeL p q dep o) (st' := [.ref 165]) 1 (by cases o <;> rfl) ?_
  refine xr_getf (v := .ref 166) rfl (ym_165 hA) rfl ?_
  refine xr_steps (pc' := 16) (L' := xeL p q dep o) (st' := [.int (Int32.ofInt (q : Int)), .ref 166]) 1 (by cases o <;> rfl) ?_
  refine ym_caload (e := t 166 ((q : Int)).toNat) hA rfl rfl (by decide) (by omega) (by omega) rfl ?_
  rw [Int.toNat_natCast]
  refine xr_steps (pc' := 19) (L' := [(4, .int (Int32.ofInt (t 166 q))), (3, .int (Int32.ofInt (q : Int))), (2, .int (Int32.ofInt dep)), (0, .ref 165), (1, .int (Int32.ofInt (p : Int)))]) (st' := []) 1 (by cases o <;> rfl) ?_
  have hrk : xkd (t 166 p) < 6 := by
    unfold xkd
    repeat' split
    all_goals omega
  obtain ⟨bs, hbs⟩ := mo_bool (xst (t 166 q))
  unfold xst at h1 h2 hbs
  have kx : ∀ δ : Int, xdl (t 166 q) = δ → xr_ok (xt_G w) (d + 1) 219 89 [(2, .int (Int32.ofInt (dep + δ))), (4, .int (Int32.ofInt (t 166 q))), (3, .int (Int32.ofInt (q : Int))), (0, .ref 165), (1, .int (Int32.ofInt (p : Int)))] [] (ym A s t) Q ∨ (dep = 0 ∧ p < q ∧ ((t 166 q = 44 ∨ t 166 q = 93 ∨ t 166 q = 125 ∨ t 166 q = 0) ∨ 3 < xkd (t 166 p))) := by
    intro δ hδ
    by_cases hz : dep = 0 ∧ p < q ∧ ((t 166 q = 44 ∨ t 166 q = 93 ∨ t 166 q = 125 ∨ t 166 q = 0) ∨ 3 < xkd (t 166 p))
    · exact Or.inr hz
    · refine Or.inl ?_
      have h2' := h2 hz
      rw [hδ] at h2'
      refine xr_iinc (L' := xeL p (q + 1) (dep + δ) (some (t 166 q))) rfl rfl ?_ ?_
      · have ei : (q : Int) + 1 = ((q + 1 : Nat) : Int) := by omega
        rw [ei]
        rfl
      refine xr_steps (pc' := 4) (L' := xeL p (q + 1) (dep + δ) (some (t 166 q))) (st' := []) 1 rfl ?_
      exact h2' 
  refine xr_steps (pc' := 20) (L' := [(4, .int (Int32.ofInt (t 166 q))), (3, .int (Int32.ofInt (q : Int))), (2, .int (Int32.ofInt dep)), (0, .ref 165), (1, .int (Int32.ofInt (p : Int)))]) (st' := [.int (Int32.ofInt dep)]) 1 rfl ?_
  refine xr_if_ne rfl (by omega) (fun z31 => ?_) (fun z31 => ?_)
  · refine xr_steps (pc' := 51) (L' := [(4, .int (Int32.ofInt (t 166 q))), (3, .int (Int32.ofInt (q : Int))), (2, .int (Int32.ofInt dep)), (0, .ref 165), (1, .int (Int32.ofInt (p : Int)))]) (st' := [.int (Int32.ofInt 91), .int (Int32.ofInt (t 166 q))]) 2 rfl ?_
    refine xr_icmp_eq rfl (by omega) (by omega) (fun z32 => ?_) (fun z32 => ?_)
    · refine xr_steps (pc' := 63) (L' := [(4, .int (Int32.ofInt (t 166 q))), (3, .int (Int32.ofInt (q : Int))), (2, .int (Int32.ofInt dep)), (0, .ref 165), (1, .int (Int32.ofInt (p : Int)))]) (st' := [.int (Int32.ofInt 1), .int (Int32.ofInt dep)]) 2 rfl ?_
      refine xr_iadd rfl ?_
      refine xr_steps (pc' := 89) (L' := [(2, .int (Int32.ofInt (dep + 1))), (4, .int (Int32.ofInt (t 166 q))), (3, .int (Int32.ofInt (q : Int))), (0, .ref 165), (1, .int (Int32.ofInt (p : Int)))]) (st' := []) 2 rfl ?_
      rcases kx 1 (by unfold xdl; rw [if_pos (by omega)]) with hk | hk
      · exact hk
      · exfalso
        omega
    · refine xr_steps (pc' := 58) (L' := [(4, .int (Int32.ofInt (t 166 q))), (3, .int (Int32.ofInt (q : Int))), (2, .int (Int32.ofInt dep)), (0, .ref 165), (1, .int (Int32.ofInt (p : Int)))]) (st' := [.int (Int32.ofInt 123), .int (Int32.ofInt (t 166 q))]) 2 rfl ?_
      refine xr_icmp_ne rfl (by omega) (by omega) (fun z33 => ?_) (fun z33 => ?_)
      · refine xr_steps (pc' := 71) (L' := [(4, .int (Int32.ofInt (t 166 q))), (3, .int (Int32.ofInt (q : Int))), (2, .int (Int32.ofInt dep)), (0, .ref 165), (1, .int (Int32.ofInt (p : Int)))]) (st' := [.int (Int32.ofInt 93), .int (Int32.ofInt (t 166 q))]) 2 rfl ?_
        refine xr_icmp_eq rfl (by omega) (by omega) (fun z34 => ?_) (fun z34 => ?_)
        · refine xr_steps (pc' := 83) (L' := [(4, .int (Int32.ofInt (t 166 q))), (3, .int (Int32.ofInt (q : Int))), (2, .int (Int32.ofInt dep)), (0, .ref 165), (1, .int (Int32.ofInt (p : Int)))]) (st' := [.int (Int32.ofInt 1), .int (Int32.ofInt dep)]) 2 rfl ?_
          refine xr_isub rfl ?_
          refine xr_steps (pc' := 89) (L' := [(2, .int (Int32.ofInt (dep - 1))), (4, .int (Int32.ofInt (t 166 q))), (3, .int (Int32.ofInt (q : Int))), (0, .ref 165), (1, .int (Int32.ofInt (p : Int)))]) (st' := []) 2 rfl ?_
          rw [Int.sub_eq_add_neg]
          rcases kx (-1) (by unfold xdl; rw [if_neg (by omega), if_pos (by omega)]) with hk | hk
          · exact hk
          · exfalso
            omega
        · refine xr_steps (pc' := 78) (L' := [(4, .int (Int32.ofInt (t 166 q))), (3, .int (Int32.ofInt (q : Int))), (2, .int (Int32.ofInt dep)), (0, .ref 165), (1, .int (Int32.ofInt (p : Int)))]) (st' := [.int (Int32.ofInt 125), .int (Int32.ofInt (t 166 q))]) 2 rfl ?_
          refine xr_icmp_ne rfl (by omega) (by omega) (fun z35 => ?_) (fun z35 => ?_)
          · refine xr_steps (pc' := 89) (L' := [(2, .int (Int32.ofInt dep)), (4, .int (Int32.ofInt (t 166 q))), (3, .int (Int32.ofInt (q : Int))), (0, .ref 165), (1, .int (Int32.ofInt (p : Int)))]) (st' := []) 2 rfl ?_
            rw [← Int.add_zero dep]
            rcases kx 0 (by unfold xdl; rw [if_neg (by omega), if_neg (by omega)]) with hk | hk
            · exact hk
            · exfalso
              omega
          · refine xr_steps (pc' := 83) (L' := [(4, .int (Int32.ofInt (t 166 q))), (3, .int (Int32.ofInt (q : Int))), (2, .int (Int32.ofInt dep)), (0, .ref 165), (1, .int (Int32.ofInt (p : Int)))]) (st' := [.int (Int32.ofInt 1), .int (Int32.ofInt dep)]) 2 rfl ?_
            refine xr_isub rfl ?_
            refine xr_steps (pc' := 89) (L' := [(2, .int (Int32.ofInt (dep - 1))), (4, .int (Int32.ofInt (t 166 q))), (3, .int (Int32.ofInt (q : Int))), (0, .ref 165), (1, .int (Int32.ofInt (p : Int)))]) (st' := []) 2 rfl ?_
            rw [Int.sub_eq_add_neg]
            rcases kx (-1) (by unfold xdl; rw [if_neg (by omega), if_pos (by omega)]) with hk | hk
            · exact hk
            · exfalso
              omega
      · refine xr_steps (pc' := 63) (L' := [(4, .int (Int32.ofInt (t 166 q))), (3, .int (Int32.ofInt (q : Int))), (2, .int (Int32.ofInt dep)), (0, .ref 165), (1, .int (Int32.ofInt (p : Int)))]) (st' := [.int (Int32.ofInt 1), .int (Int32.ofInt dep)]) 2 rfl ?_
        refine xr_iadd rfl ?_
        refine xr_steps (pc' := 89) (L' := [(2, .int (Int32.ofInt (dep + 1))), (4, .int (Int32.ofInt (t 166 q))), (3, .int (Int32.ofInt (q : Int))), (0, .ref 165), (1, .int (Int32.ofInt (p : Int)))]) (st' := []) 2 rfl ?_
        rcases kx 1 (by unfold xdl; rw [if_pos (by omega)]) with hk | hk
        · exact hk
        · exfalso
          omega
  · refine xr_steps (pc' := 25) (L' := [(4, .int (Int32.ofInt (t 166 q))), (3, .int (Int32.ofInt (q : Int))), (2, .int (Int32.ofInt dep)), (0, .ref 165), (1, .int (Int32.ofInt (p : Int)))]) (st' := [.int (Int32.ofInt (p : Int)), .int (Int32.ofInt (q : Int))]) 2 rfl ?_
    refine xr_icmp_le rfl (by omega) (by omega) (fun z36 => ?_) (fun z36 => ?_)
    · refine xr_steps (pc' := 51) (L' := [(4, .int (Int32.ofInt (t 166 q))), (3, .int (Int32.ofInt (q : Int))), (2, .int (Int32.ofInt dep)), (0, .ref 165), (1, .int (Int32.ofInt (p : Int)))]) (st' := [.int (Int32.ofInt 91), .int (Int32.ofInt (t 166 q))]) 2 rfl ?_
      refine xr_icmp_eq rfl (by omega) (by omega) (fun z37 => ?_) (fun z37 => ?_)
      · refine xr_steps (pc' := 63) (L' := [(4, .int (Int32.ofInt (t 166 q))), (3, .int (Int32.ofInt (q : Int))), (2, .int (Int32.ofInt dep)), (0, .ref 165), (1, .int (Int32.ofInt (p : Int)))]) (st' := [.int (Int32.ofInt 1), .int (Int32.ofInt dep)]) 2 rfl ?_
        refine xr_iadd rfl ?_
        refine xr_steps (pc' := 89) (L' := [(2, .int (Int32.ofInt (dep + 1))), (4, .int (Int32.ofInt (t 166 q))), (3, .int (Int32.ofInt (q : Int))), (0, .ref 165), (1, .int (Int32.ofInt (p : Int)))]) (st' := []) 2 rfl ?_
        rcases kx 1 (by unfold xdl; rw [if_pos (by omega)]) with hk | hk
        · exact hk
        · exfalso
          omega
      · refine xr_steps (pc' := 58) (L' := [(4, .int (Int32.ofInt (t 166 q))), (3, .int (Int32.ofInt (q : Int))), (2, .int (Int32.ofInt dep)), (0, .ref 165), (1, .int (Int32.ofInt (p : Int)))]) (st' := [.int (Int32.ofInt 123), .int (Int32.ofInt (t 166 q))]) 2 rfl ?_
        refine xr_icmp_ne rfl (by omega) (by omega) (fun z38 => ?_) (fun z38 => ?_)
        · refine xr_steps (pc' := 71) (L' := [(4, .int (Int32.ofInt (t 166 q))), (3, .int (Int32.ofInt (q : Int))), (2, .int (Int32.ofInt dep)), (0, .ref 165), (1, .int (Int32.ofInt (p : Int)))]) (st' := [.int (Int32.ofInt 93), .int (Int32.ofInt (t 166 q))]) 2 rfl ?_
          refine xr_icmp_eq rfl (by omega) (by omega) (fun z39 => ?_) (fun z39 => ?_)
          · refine xr_steps (pc' := 83) (L' := [(4, .int (Int32.ofInt (t 166 q))), (3, .int (Int32.ofInt (q : Int))), (2, .int (Int32.ofInt dep)), (0, .ref 165), (1, .int (Int32.ofInt (p : Int)))]) (st' := [.int (Int32.ofInt 1), .int (Int32.ofInt dep)]) 2 rfl ?_
            refine xr_isub rfl ?_
            refine xr_steps (pc' := 89) (L' := [(2, .int (Int32.ofInt (dep - 1))), (4, .int (Int32.ofInt (t 166 q))), (3, .int (Int32.ofInt (q : Int))), (0, .ref 165), (1, .int (Int32.ofInt (p : Int)))]) (st' := []) 2 rfl ?_
            rw [Int.sub_eq_add_neg]
            rcases kx (-1) (by unfold xdl; rw [if_neg (by omega), if_pos (by omega)]) with hk | hk
            · exact hk
            · exfalso
              omega
          · refine xr_steps (pc' := 78) (L' := [(4, .int (Int32.ofInt (t 166 q))), (3, .int (Int32.ofInt (q : Int))), (2, .int (Int32.ofInt dep)), (0, .ref 165), (1, .int (Int32.ofInt (p : Int)))]) (st' := [.int (Int32.ofInt 125), .int (Int32.ofInt (t 166 q))]) 2 rfl ?_
            refine xr_icmp_ne rfl (by omega) (by omega) (fun z40 => ?_) (fun z40 => ?_)
            · refine xr_steps (pc' := 89) (L' := [(2, .int (Int32.ofInt dep)), (4, .int (Int32.ofInt (t 166 q))), (3, .int (Int32.ofInt (q : Int))), (0, .ref 165), (1, .int (Int32.ofInt (p : Int)))]) (st' := []) 2 rfl ?_
              rw [← Int.add_zero dep]
              rcases kx 0 (by unfold xdl; rw [if_neg (by omega), if_neg (by omega)]) with hk | hk
              · exact hk
              · exfalso
                omega
            · refine xr_steps (pc' := 83) (L' := [(4, .int (Int32.ofInt (t 166 q))), (3, .int (Int32.ofInt (q : Int))), (2, .int (Int32.ofInt dep)), (0, .ref 165), (1, .int (Int32.ofInt (p : Int)))]) (st' := [.int (Int32.ofInt 1), .int (Int32.ofInt dep)]) 2 rfl ?_
              refine xr_isub rfl ?_
              refine xr_steps (pc' := 89) (L' := [(2, .int (Int32.ofInt (dep - 1))), (4, .int (Int32.ofInt (t 166 q))), (3, .int (Int32.ofInt (q : Int))), (0, .ref 165), (1, .int (Int32.ofInt (p : Int)))]) (st' := []) 2 rfl ?_
              rw [Int.sub_eq_add_neg]
              rcases kx (-1) (by unfold xdl; rw [if_neg (by omega), if_pos (by omega)]) with hk | hk
              · exact hk
              · exfalso
                omega
        · refine xr_steps (pc' := 63) (L' := [(4, .int (Int32.ofInt (t 166 q))), (3, .int (Int32.ofInt (q : Int))), (2, .int (Int32.ofInt dep)), (0, .ref 165), (1, .int (Int32.ofInt (p : Int)))]) (st' := [.int (Int32.ofInt 1), .int (Int32.ofInt dep)]) 2 rfl ?_
          refine xr_iadd rfl ?_
          refine xr_steps (pc' := 89) (L' := [(2, .int (Int32.ofInt (dep + 1))), (4, .int (Int32.ofInt (t 166 q))), (3, .int (Int32.ofInt (q : Int))), (0, .ref 165), (1, .int (Int32.ofInt (p : Int)))]) (st' := []) 2 rfl ?_
          rcases kx 1 (by unfold xdl; rw [if_pos (by omega)]) with hk | hk
          · exact hk
          · exfalso
            omega
    · refine xr_steps (pc' := 30) (L' := [(4, .int (Int32.ofInt (t 166 q))), (3, .int (Int32.ofInt (q : Int))), (2, .int (Int32.ofInt dep)), (0, .ref 165), (1, .int (Int32.ofInt (p : Int)))]) (st' := [.int (Int32.ofInt (t 166 q))]) 1 rfl ?_
      refine xr_call (q := (.invokestatic 122, 3, 220, 1)) (av := [.int (Int32.ofInt (t 166 q))]) (rest := []) rfl rfl (by decide) rfl rfl (Nat.le_of_ble_eq_true rfl) (mo_220 (t := t) (s := s) hA hEq hbs) ?_
      rintro _ _ ⟨rfl, eA⟩
      rw [eA]
      clear eA
      refine xr_if_ne rfl (by omega) (fun z41 => ?_) (fun z41 => ?_)
      · refine xr_steps (pc' := 46) (L' := [(4, .int (Int32.ofInt (t 166 q))), (3, .int (Int32.ofInt (q : Int))), (2, .int (Int32.ofInt dep)), (0, .ref 165), (1, .int (Int32.ofInt (p : Int)))]) (st' := [.int (Int32.ofInt (q : Int))]) 1 rfl ?_
        exact xr_retI2 rfl rfl (h1 (by omega))
      · refine xr_steps (pc' := 38) (L' := [(4, .int (Int32.ofInt (t 166 q))), (3, .int (Int32.ofInt (q : Int))), (2, .int (Int32.ofInt dep)), (0, .ref 165), (1, .int (Int32.ofInt (p : Int)))]) (st' := [.int (Int32.ofInt (p : Int)), .ref 165]) 2 rfl ?_
        refine xr_call (q := (.invokevirtual 125, 3, 217, 2)) (av := [.ref 165, .int (Int32.ofInt (p : Int))]) (rest := []) rfl rfl (by decide) rfl (ym_rcv hA rfl) (Nat.le_of_ble_eq_true rfl) (mo_217 hA hE hp) ?_
        rintro _ _ ⟨rfl, eA⟩
        rw [eA]
        clear eA
        refine xr_steps (pc' := 42) (L' := [(4, .int (Int32.ofInt (t 166 q))), (3, .int (Int32.ofInt (q : Int))), (2, .int (Int32.ofInt dep)), (0, .ref 165), (1, .int (Int32.ofInt (p : Int)))]) (st' := [.int (Int32.ofInt 3), .int (Int32.ofInt (xkd (t 166 p) : Nat))]) 1 rfl ?_
        refine xr_icmp_le rfl (by omega) (by omega) (fun z42 => ?_) (fun z42 => ?_)
        · refine xr_steps (pc' := 51) (L' := [(4, .int (Int32.ofInt (t 166 q))), (3, .int (Int32.ofInt (q : Int))), (2, .int (Int32.ofInt dep)), (0, .ref 165), (1, .int (Int32.ofInt (p : Int)))]) (st' := [.int (Int32.ofInt 91), .int (Int32.ofInt (t 166 q))]) 2 rfl ?_
          refine xr_icmp_eq rfl (by omega) (by omega) (fun z43 => ?_) (fun z43 => ?_)
          · refine xr_steps (pc' := 63) (L' := [(4, .int (Int32.ofInt (t 166 q))), (3, .int (Int32.ofInt (q : Int))), (2, .int (Int32.ofInt dep)), (0, .ref 165), (1, .int (Int32.ofInt (p : Int)))]) (st' := [.int (Int32.ofInt 1), .int (Int32.ofInt dep)]) 2 rfl ?_
            refine xr_iadd rfl ?_
            refine xr_steps (pc' := 89) (L' := [(2, .int (Int32.ofInt (dep + 1))), (4, .int (Int32.ofInt (t 166 q))), (3, .int (Int32.ofInt (q : Int))), (0, .ref 165), (1, .int (Int32.ofInt (p : Int)))]) (st' := []) 2 rfl ?_
            rcases kx 1 (by unfold xdl; rw [if_pos (by omega)]) with hk | hk
            · exact hk
            · exfalso
              omega
          · refine xr_steps (pc' := 58) (L' := [(4, .int (Int32.ofInt (t 166 q))), (3, .int (Int32.ofInt (q : Int))), (2, .int (Int32.ofInt dep)), (0, .ref 165), (1, .int (Int32.ofInt (p : Int)))]) (st' := [.int (Int32.ofInt 123), .int (Int32.ofInt (t 166 q))]) 2 rfl ?_
            refine xr_icmp_ne rfl (by omega) (by omega) (fun z44 => ?_) (fun z44 => ?_)
            · refine xr_steps (pc' := 71) (L' := [(4, .int (Int32.ofInt (t 166 q))), (3, .int (Int32.ofInt (q : Int))), (2, .int (Int32.ofInt dep)), (0, .ref 165), (1, .int (Int32.ofInt (p : Int)))]) (st' := [.int (Int32.ofInt 93), .int (Int32.ofInt (t 166 q))]) 2 rfl ?_
              refine xr_icmp_eq rfl (by omega) (by omega) (fun z45 => ?_) (fun z45 => ?_)
              · refine xr_steps (pc' := 83) (L' := [(4, .int (Int32.ofInt (t 166 q))), (3, .int (Int32.ofInt (q : Int))), (2, .int (Int32.ofInt dep)), (0, .ref 165), (1, .int (Int32.ofInt (p : Int)))]) (st' := [.int (Int32.ofInt 1), .int (Int32.ofInt dep)]) 2 rfl ?_
                refine xr_isub rfl ?_
                refine xr_steps (pc' := 89) (L' := [(2, .int (Int32.ofInt (dep - 1))), (4, .int (Int32.ofInt (t 166 q))), (3, .int (Int32.ofInt (q : Int))), (0, .ref 165), (1, .int (Int32.ofInt (p : Int)))]) (st' := []) 2 rfl ?_
                rw [Int.sub_eq_add_neg]
                rcases kx (-1) (by unfold xdl; rw [if_neg (by omega), if_pos (by omega)]) with hk | hk
                · exact hk
                · exfalso
                  omega
              · refine xr_steps (pc' := 78) (L' := [(4, .int (Int32.ofInt (t 166 q))), (3, .int (Int32.ofInt (q : Int))), (2, .int (Int32.ofInt dep)), (0, .ref 165), (1, .int (Int32.ofInt (p : Int)))]) (st' := [.int (Int32.ofInt 125), .int (Int32.ofInt (t 166 q))]) 2 rfl ?_
                refine xr_icmp_ne rfl (by omega) (by omega) (fun z46 => ?_) (fun z46 => ?_)
                · refine xr_steps (pc' := 89) (L' := [(2, .int (Int32.ofInt dep)), (4, .int (Int32.ofInt (t 166 q))), (3, .int (Int32.ofInt (q : Int))), (0, .ref 165), (1, .int (Int32.ofInt (p : Int)))]) (st' := []) 2 rfl ?_
                  rw [← Int.add_zero dep]
                  rcases kx 0 (by unfold xdl; rw [if_neg (by omega), if_neg (by omega)]) with hk | hk
                  · exact hk
                  · exfalso
                    omega
                · refine xr_steps (pc' := 83) (L' := [(4, .int (Int32.ofInt (t 166 q))), (3, .int (Int32.ofInt (q : Int))), (2, .int (Int32.ofInt dep)), (0, .ref 165), (1, .int (Int32.ofInt (p : Int)))]) (st' := [.int (Int32.ofInt 1), .int (Int32.ofInt dep)]) 2 rfl ?_
                  refine xr_isub rfl ?_
                  refine xr_steps (pc' := 89) (L' := [(2, .int (Int32.ofInt (dep - 1))), (4, .int (Int32.ofInt (t 166 q))), (3, .int (Int32.ofInt (q : Int))), (0, .ref 165), (1, .int (Int32.ofInt (p : Int)))]) (st' := []) 2 rfl ?_
                  rw [Int.sub_eq_add_neg]
                  rcases kx (-1) (by unfold xdl; rw [if_neg (by omega), if_pos (by omega)]) with hk | hk
                  · exact hk
                  · exfalso
                    omega
            · refine xr_steps (pc' := 63) (L' := [(4, .int (Int32.ofInt (t 166 q))), (3, .int (Int32.ofInt (q : Int))), (2, .int (Int32.ofInt dep)), (0, .ref 165), (1, .int (Int32.ofInt (p : Int)))]) (st' := [.int (Int32.ofInt 1), .int (Int32.ofInt dep)]) 2 rfl ?_
              refine xr_iadd rfl ?_
              refine xr_steps (pc' := 89) (L' := [(2, .int (Int32.ofInt (dep + 1))), (4, .int (Int32.ofInt (t 166 q))), (3, .int (Int32.ofInt (q : Int))), (0, .ref 165), (1, .int (Int32.ofInt (p : Int)))]) (st' := []) 2 rfl ?_
              rcases kx 1 (by unfold xdl; rw [if_pos (by omega)]) with hk | hk
              · exact hk
              · exfalso
                omega
        · refine xr_steps (pc' := 46) (L' := [(4, .int (Int32.ofInt (t 166 q))), (3, .int (Int32.ofInt (q : Int))), (2, .int (Int32.ofInt dep)), (0, .ref 165), (1, .int (Int32.ofInt (p : Int)))]) (st' := [.int (Int32.ofInt (q : Int))]) 1 rfl ?_
          exact xr_retI2 rfl rfl (h1 (by omega))
end ME
/-! The reference finds the end of a value -/
section XR
variable {E : Nat → Int} {R : Nat → Int → Prop} {B : Nat}
theorem xdl_pc {c : Int} (h : xpc c) : xdl c = 0 := by
  unfold xpc at h
  unfold xdl
  rw [if_neg (by omega), if_neg (by omega)]
theorem xr_plain (step : ∀ (q : Nat) (dep : Int), q < B → (1 ≤ dep ∧ dep ≤ 50) → R (q + 1) (dep + xdl (E q)) → R q dep) {dep : Int} (hd : 1 ≤ dep ∧ dep ≤ 50) : ∀ (k x : Nat), x + k ≤ B → (∀ j : Nat, x ≤ j → j < x + k → xpc (E j) ∨ E j = 58) → R (x + k) dep → R x dep := by
  intro k
  induction k with
  | zero => intro x _ _ h; exact h
  | succ k ih =>
    intro x hB hc h
    have e0 : xdl (E x) = 0 := by
      rcases hc x (Nat.le_refl _) (by omega) with h | h
      · exact xdl_pc h
      · rw [h]; rfl
    refine step x dep (by omega) hd ?_
    rw [e0, Int.add_zero]
    refine ih (x + 1) (by omega) (fun j h1 h2 => hc j (by omega) (by omega)) ?_
    rw [Nat.add_assoc, Nat.add_comm 1 k]
    exact h
theorem xVL_run {α : Type} {V : Nat → α → Nat → Prop} {ob : Nat} {c : Int} (hV : ∀ p v r, V p v r → p < r) (hc : c = 93 ∨ c = 125) (step : ∀ (q : Nat) (dep : Int), q < B → (1 ≤ dep ∧ dep ≤ 50) → R (q + 1) (dep + xdl (E q)) → R q dep) {dep : Int} (hd : 0 ≤ dep ∧ dep + 1 ≤ 50) (hv : ∀ (x y : Nat) (v : α), V x v y → y ≤ B → R y (dep + 1) → R x (dep + 1)) : ∀ (l : List (Int × α)) (p q : Nat), xVL E V ob c l p q → q ≤ B → R q dep → R p (dep + 1) := by
  intro l
  induction l with
  | nil => intro p q h; exact absurd h id
  | cons a l ih =>
    obtain ⟨k, v⟩ := a
    intro p q h hq hR
    obtain ⟨r, h1, h2, h3⟩ := h
    have hr := hV _ _ _ h1
    have hrq : r < q := by
      rcases h3 with ⟨-, -, h3⟩ | ⟨-, -, h3⟩
      · omega
      · have := (xVL_get hV _ _ _ h3).1
        omega
    have hRr : R r (dep + 1) := by
      refine step r (dep + 1) (by omega) (by omega) ?_
      rcases h3 with ⟨-, h4, h5⟩ | ⟨-, h4, h5⟩
      · have e : xdl (E r) = -1 := by
          rw [h4]
          rcases hc with rfl | rfl <;> rfl
        rw [e, ← h5, show dep + 1 + -1 = dep by omega]
        exact hR
      · rw [h4, show xdl 44 = 0 from rfl, Int.add_zero]
        exact ih (r + 1) q h5 hq hR
    have hRv := hv _ _ _ h1 (by omega) hRr
    rcases h2 with ⟨rfl, -⟩ | ⟨rfl, h5, h6, h7, h8, h9⟩
    · exact hRv
    · refine xr_plain step (by omega) 4 p (by omega) (fun j g1 g2 => ?_) hRv
      have : j = p ∨ j = p + 1 ∨ j = p + 2 ∨ j = p + 3 := by omega
      rcases this with rfl | rfl | rfl | rfl
      · exact Or.inl (Or.inl h6)
      · exact Or.inl (Or.inr (Or.inr (Or.inr (by omega))))
      · exact Or.inl (Or.inl h8)
      · exact Or.inr h9
theorem xV_run (step : ∀ (q : Nat) (dep : Int), q < B → (1 ≤ dep ∧ dep ≤ 50) → R (q + 1) (dep + xdl (E q)) → R q dep) : ∀ (m x y : Nat) (t : xv m), xV E m x t y → y ≤ B → ∀ dep : Int, 1 ≤ dep ∧ dep + m ≤ 50 → R y dep → R x dep := by
  intro m
  induction m with
  | zero => intro x y t h; exact absurd h id
  | succ m ih =>
    intro x y t h hB dep hd hR
    obtain ⟨h1, h2, h3⟩ := h
    have hv : ∀ (x y : Nat) (v : xv m), xV E m x v y → y ≤ B → R y (dep + 1) → R x (dep + 1) := fun x y v h1 h2 h3 => ih x y v h1 h2 (dep + 1) (by omega) h3
    rcases h3 with ⟨e1, c1, c2, c3, -⟩ | ⟨e1, ⟨e2, e3, ⟨e4, e5, e6⟩ | e4⟩ | ⟨e2, e3, ⟨e4, e5, e6⟩ | e4⟩⟩
    · refine xr_plain step (by omega) (y - x) x (by omega) (fun j g1 g2 => Or.inl (c3 j g1 (by omega))) ?_
      rw [show x + (y - x) = y by omega]
      exact hR
    · refine step x dep (by omega) (by omega) ?_
      rw [e3]
      refine step (x + 1) _ (by omega) (by rw [show xdl 91 = 1 from rfl]; omega) ?_
      rw [e5, show dep + xdl 91 + xdl 93 = dep by rw [show xdl 91 = 1 from rfl, show xdl 93 = -1 from rfl]; omega, ← e6]
      exact hR
    · refine step x dep (by omega) (by omega) ?_
      rw [e3, show xdl 91 = 1 from rfl]
      exact xVL_run (fun _ _ _ h => xV_lt h) (Or.inl rfl) step (by omega) hv _ _ _ e4 hB hR
    · refine step x dep (by omega) (by omega) ?_
      rw [e3]
      refine step (x + 1) _ (by omega) (by rw [show xdl 123 = 1 from rfl]; omega) ?_
      rw [e5, show dep + xdl 123 + xdl 125 = dep by rw [show xdl 123 = 1 from rfl, show xdl 125 = -1 from rfl]; omega, ← e6]
      exact hR
    · refine step x dep (by omega) (by omega) ?_
      rw [e3, show xdl 123 = 1 from rfl]
      exact xVL_run (fun _ _ _ h => xV_lt h) (Or.inr rfl) step (by omega) hv _ _ _ e4 hB hR
end XR
theorem mo_219 {w : Value} {d : Nat} {A : xb_H} {s : Nat → Int} {t : Nat → Nat → Int} {p m q : Nat} {u : xv m} (hA : 194 ≤ A.1) (hE : ∀ j : Nat, 0 ≤ t 166 j ∧ t 166 j ≤ 127) (hm : m ≤ 6) (hu : xV (t 166) m p u q) (hq : q < 3712) : xr_ok (xt_G w) (d + 1) 219 0 [(0, .ref 165), (1, .int (Int32.ofInt (p : Int)))] [] (ym A s t) (fun o A' => ∃ v0, o = .inl v0 ∧ v0 = some (.int (Int32.ofInt (q : Int))) ∧ A' = ym A s t) := by
  have hpq := xV_lt hu
  refine xr_steps (pc' := 4) (L' := xeL p p 0 none) (st' := []) 4 rfl ?_
  obtain ⟨Q, hQ⟩ : ∃ Q : xb_R → xb_H → Prop, Q = (fun o A' => ∃ v0, o = .inl v0 ∧ v0 = some (.int (Int32.ofInt (q : Int))) ∧ A' = ym A s t) := ⟨_, rfl⟩
  rw [← hQ]
  -- behind the value
  have fin : ∀ o : Option Int, (xst (t 166 q) ∨ 3 < xkd (t 166 p)) → xr_ok (xt_G w) (d + 1) 219 4 (xeL p q 0 o) [] (ym A s t) Q := fun o h => mo_219s hA hE (by omega) hq (by omega) (fun _ => by rw [hQ]; exact ⟨_, rfl, rfl, rfl⟩) (fun h' => absurd ⟨rfl, hpq, h⟩ h')
  cases m with
  | zero => exact absurd hu id
  | succ m =>
  obtain ⟨h1, h2, h3⟩ := hu
  rcases h3 with ⟨e1, c1, c2, c3, c4, -⟩ | ⟨e1, e2⟩
  · -- plain
    have go : ∀ (k x : Nat) (o : Option Int), p ≤ x → x + k = q → xr_ok (xt_G w) (d + 1) 219 4 (xeL p x 0 o) [] (ym A s t) Q := by
      intro k
      induction k with
      | zero =>
        intro x o hx hk
        obtain rfl : x = q := by omega
        exact fin o (Or.inl c4)
      | succ k ih =>
        intro x o hx hk
        have hc := c3 x hx (by omega)
        refine mo_219s hA hE (by omega) (by omega) (by omega) (fun h => ?_) (fun _ => ?_)
        · exfalso
          rcases h.2.2 with h | h
          · unfold xst at h
            unfold xpc at hc
            omega
          · omega
        · rw [xdl_pc hc]
          exact ih (x + 1) _ (by omega) (by omega)
    exact go (q - p) p none (Nat.le_refl _) (by omega)
  · -- with parts
    have hk3 : 3 < xkd (t 166 p) := by
      rw [h2]
      rcases e2 with e2 | e2 <;> omega
    have step : ∀ (x : Nat) (dep : Int), x < q → (1 ≤ dep ∧ dep ≤ 50) → (fun (x : Nat) (dep : Int) => ∀ o : Option Int, xr_ok (xt_G w) (d + 1) 219 4 (xeL p x dep o) [] (ym A s t) Q) (x + 1) (dep + xdl (t 166 x)) → (fun (x : Nat) (dep : Int) => ∀ o : Option Int, xr_ok (xt_G w) (d + 1) 219 4 (xeL p x dep o) [] (ym A s t) Q) x dep := by
      intro x dep hx hd h o
      exact mo_219s hA hE (by omega) (by omega) (by omega) (fun h' => absurd h'.1 (by omega)) (fun _ => h _)
    have hv : ∀ (x y : Nat) (v : xv m), xV (t 166) m x v y → y ≤ q → (∀ o : Option Int, xr_ok (xt_G w) (d + 1) 219 4 (xeL p y 1 o) [] (ym A s t) Q) → ∀ o : Option Int, xr_ok (xt_G w) (d + 1) 219 4 (xeL p x 1 o) [] (ym A s t) Q := fun x y v h1 h2 h3 => xV_run (R := fun (x : Nat) (dep : Int) => ∀ o : Option Int, xr_ok (xt_G w) (d + 1) 219 4 (xeL p x dep o) [] (ym A s t) Q) step m x y v h1 h2 1 (by omega) h3
    refine mo_219s hA hE (by omega) (by omega) (by omega) (fun h => absurd h.2.1 (Nat.lt_irrefl _)) (fun _ => ?_)
    have two : ∀ c : Int, xdl c = -1 → t 166 (p + 1) = c → q = p + 2 → xr_ok (xt_G w) (d + 1) 219 4 (xeL p (p + 1) 1 (some (t 166 p))) [] (ym A s t) Q := by
      intro c g1 g2 g3
      refine step (p + 1) 1 (by omega) (by omega) (fun o => ?_) _
      rw [g2, g1, show p + 1 + 1 = q by omega]
      exact fin o (Or.inr hk3)
    rcases e2 with ⟨g1, g2, ⟨g4, g5, g6⟩ | g4⟩ | ⟨g1, g2, ⟨g4, g5, g6⟩ | g4⟩
    · rw [show (0 : Int) + xdl (t 166 p) = 1 by rw [g2]; rfl]
      exact two 93 rfl g5 g6
    · rw [show (0 : Int) + xdl (t 166 p) = 0 + 1 by rw [g2]; rfl]
      exact xVL_run (R := fun (x : Nat) (dep : Int) => ∀ o : Option Int, xr_ok (xt_G w) (d + 1) 219 4 (xeL p x dep o) [] (ym A s t) Q) (fun _ _ _ h => xV_lt h) (Or.inl rfl) step (by omega) hv _ _ _ g4 (Nat.le_refl _) (fun o => fin o (Or.inr hk3)) _
    · rw [show (0 : Int) + xdl (t 166 p) = 1 by rw [g2]; rfl]
      exact two 125 rfl g5 g6
    · rw [show (0 : Int) + xdl (t 166 p) = 0 + 1 by rw [g2]; rfl]
      exact xVL_run (R := fun (x : Nat) (dep : Int) => ∀ o : Option Int, xr_ok (xt_G w) (d + 1) 219 4 (xeL p x dep o) [] (ym A s t) Q) (fun _ _ _ h => xV_lt h) (Or.inr rfl) step (by omega) hv _ _ _ g4 (Nat.le_refl _) (fun o => fin o (Or.inr hk3)) _
