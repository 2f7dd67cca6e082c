/-! Interactions -/
/-- an interaction in the heap: strict or not, its rules, its states, its body -/
def yin (A : xb_H) (P : Nat → Prop) (x rr sr : Nat) (st : Int) (rs : List (List Int × List (Int × Int × List Int) × Int)) (ns : List Int) (ex : Option (xv 6)) : Prop := ∃ (fr : Nat → Option Nat) (fs : Nat → Int) (ev : Value), xb_get A x = some (.inr (3, [.int (Int32.ofInt st), .ref rr, .int (Int32.ofInt (rs.length : Int)), .ref sr, .int (Int32.ofInt (ns.length : Int)), ev])) ∧ xb_get A rr = some (.inl (.object "ContractDesk$Rule", 8, .inr (.inr fr))) ∧ xb_get A sr = some (.inl (.int, 3, .inl fun j => Int32.ofInt (fs j))) ∧ (rs.length ≤ 8 ∧ ns.length ≤ 3) ∧ (∀ j : Nat, j < ns.length → fs j = ns.getD j 0) ∧ (∀ (j : Nat) (r : List Int × List (Int × Int × List Int) × Int), rs[j]? = some r → ∃ ru, fr j = some ru ∧ yru A P ru r.1 r.2.1 r.2.2) ∧ (∀ t, ex = some t → ∃ a, ev = .ref a ∧ yt A P 6 a 0 t ∧ xwf 6 t) ∧ (ex = none → ev = .null) ∧ (64 ≤ x ∧ 64 ≤ rr ∧ 64 ≤ sr ∧ ¬ x = rr ∧ ¬ x = sr ∧ ¬ rr = sr) ∧ (st = 0 ∨ st = 1) ∧ ∀ c ∈ ns, 0 ≤ c ∧ c ≤ 5
/-- the rule selected for a place, of the first i -/
def xBS (ps : List (List Int)) (l : List Int) : Nat → Int → Prop
  | 0, b => b = -1
  | i + 1, b => ∃ b0 : Int, xBS ps l i b0 ∧ (((xft (ps.getD i []) l ∧ (b0 = -1 ∨ xork (ps.getD i []) (ps.getD b0.toNat []))) ∧ b = (i : Int)) ∨ (¬ (xft (ps.getD i []) l ∧ (b0 = -1 ∨ xork (ps.getD i []) (ps.getD b0.toNat []))) ∧ b = b0))
theorem xBS_uni (ps : List (List Int)) (l : List Int) : ∀ (i : Nat) (b b' : Int), xBS ps l i b → xBS ps l i b' → b = b' := by
  intro i
  induction i with
  | zero => intro b b' h h'; rw [h, h']
  | succ i ih =>
    rintro b b' ⟨b0, h1, h2⟩ ⟨b1, h3, h4⟩
    obtain rfl := ih b0 b1 h1 h3
    rcases h2 with ⟨h2, e2⟩ | ⟨h2, e2⟩ <;> rcases h4 with ⟨h4, e4⟩ | ⟨h4, e4⟩
    · rw [e2, e4]
    · exact absurd h2 h4
    · exact absurd h4 h2
    · rw [e2, e4]
theorem xBS_rng (ps : List (List Int)) (l : List Int) : ∀ (i : Nat) (b : Int), xBS ps l i b → b = -1 ∨ (0 ≤ b ∧ b < i) := by
  intro i
  induction i with
  | zero => intro b h; exact Or.inl h
  | succ i ih =>
    rintro b ⟨b0, h1, h2⟩
    have := ih b0 h1
    omega
section IN
variable {w : Value} {d : Nat} {A : xb_H} {x rr sr pb rp rn : Nat} {P : Nat → Prop} {st : Int} {rs : List (List Int × List (Int × Int × List Int) × Int)} {ns : List Int} {ex : Option (xv 6)} {l : List Int} {Q : xb_R → xb_H → Prop}
theorem mi_84l (hi : yin A P x rr sr st rs ns ex) (hp : ypa A pb rp rn l) : ∀ (k i : Nat) (best : Int), i + k = rs.length → xBS (rs.map fun r => r.1) l i best → (∀ b : Int, xBS (rs.map fun r => r.1) l rs.length b → Q (.inl (some (.int (Int32.ofInt b)))) A) → xr_ok (xt_G w) (d + 1 + 1 + 1) 84 4 [(3, .int (Int32.ofInt (i : Int))), (2, .int (Int32.ofInt best)), (0, .ref x), (1, .ref pb)] [] A Q := by
  intro k
  induction k using Nat.strongRecOn with
  | _ k ih =>
    intro i best hk hB hQ
    obtain ⟨fr, fs, ev, hx, hrr, hsr, hl, hns, hrs, hex, hex0, hz, hst, hnr⟩ := id hi
    have hbr := xBS_rng _ _ _ _ hB
    refine xr_steps (pc' := 6) (L' := [(3, .int (Int32.ofInt (i : Int))), (2, .int (Int32.ofInt best)), (0, .ref x), (1, .ref pb)]) (st' := [.ref x, .int (Int32.ofInt (i : Int))]) 2 rfl ?_
    refine xr_getf (v := .int (Int32.ofInt (rs.length : Int))) rfl hx rfl ?_
    refine xr_icmp_ge rfl (by omega) (by omega) (fun z31 => ?_) (fun z31 => ?_)
    · refine xr_steps (pc' := 57) (L' := [(3, .int (Int32.ofInt (i : Int))), (2, .int (Int32.ofInt best)), (0, .ref x), (1, .ref pb)]) (st' := [.int (Int32.ofInt best)]) 1 rfl ?_
      obtain rfl : i = rs.length := by omega
      exact xr_retI2 rfl rfl (hQ _ hB)
    · obtain ⟨ar, ea⟩ : ∃ r, rs[i]? = some r := ⟨_, List.getElem?_eq_getElem (by omega)⟩
      obtain ⟨au, fa, ya⟩ := hrs i ar ea
      have pa : (rs.map fun r => r.1).getD i [] = ar.1 := by rw [List.getD_eq_getElem?_getD, List.getElem?_map, ea]; rfl
      obtain ⟨a1, a2, a3, a4, a5, a6, a7, a8, ca, -⟩ := id ya
      refine xr_steps (pc' := 13) (L' := [(3, .int (Int32.ofInt (i : Int))), (2, .int (Int32.ofInt best)), (0, .ref x), (1, .ref pb)]) (st' := [.ref x]) 1 rfl ?_
      refine xr_getf (v := .ref rr) rfl hx rfl ?_
      refine xr_steps (pc' := 17) (L' := [(3, .int (Int32.ofInt (i : Int))), (2, .int (Int32.ofInt best)), (0, .ref x), (1, .ref pb)]) (st' := [.int (Int32.ofInt (i : Int)), .ref rr]) 1 rfl ?_
      refine xr_aaload rfl hrr (by omega) (by omega) (by omega) (congrArg xb_ref fa) ?_
      refine xr_steps (pc' := 19) (L' := [(3, .int (Int32.ofInt (i : Int))), (2, .int (Int32.ofInt best)), (0, .ref x), (1, .ref pb)]) (st' := [.ref pb, .ref au]) 1 rfl ?_
      refine xr_call (q := (.invokevirtual 39, 3, 85, 2)) (av := [.ref au, .ref pb]) (rest := []) rfl rfl (by decide) rfl (xr_rcv rfl ca) (Nat.le_of_ble_eq_true rfl) (mr_85 ya hp) ?_
      rintro _ _ ⟨bb, ⟨rfl, eA⟩, hb32⟩
      rw [eA]
      clear eA
      rw [← pa] at hb32
      rcases hb32 with ⟨rfl, y32⟩ | ⟨rfl, y32⟩
      · refine xr_if_eq rfl (by omega) (fun z33 => ?_) (fun z33 => ?_)
        · exfalso; omega
        · refine xr_steps (pc' := 27) (L' := [(3, .int (Int32.ofInt (i : Int))), (2, .int (Int32.ofInt best)), (0, .ref x), (1, .ref pb)]) (st' := [.int (Int32.ofInt (-1)), .int (Int32.ofInt best)]) 2 rfl ?_
          refine xr_icmp_eq rfl (by omega) (by omega) (fun z34 => ?_) (fun z34 => ?_)
          · refine xr_steps (pc' := 50) (L' := [(2, .int (Int32.ofInt (i : Int))), (3, .int (Int32.ofInt (i : Int))), (0, .ref x), (1, .ref pb)]) (st' := []) 2 rfl ?_
            refine xr_iinc (L' := [(3, .int (Int32.ofInt ((i : Int) + 1))), (2, .int (Int32.ofInt (i : Int))), (0, .ref x), (1, .ref pb)]) rfl rfl rfl ?_
            refine xr_steps (pc' := 4) (L' := [(3, .int (Int32.ofInt ((i : Int) + 1))), (2, .int (Int32.ofInt (i : Int))), (0, .ref x), (1, .ref pb)]) (st' := []) 1 rfl ?_
            refine xr_loc (L := [(3, .int (Int32.ofInt ((i : Int) + 1))), (2, .int (Int32.ofInt (i : Int))), (0, .ref x), (1, .ref pb)]) (show [3, 2, 0, 1].Nodup by decide) ⟨rfl, rfl, rfl, rfl, trivial⟩ ?_
            rw [show (i : Int) + 1 = ((i + 1 : Nat) : Int) by omega]
            exact ih (k - 1) (by omega) (i + 1) _ (by omega) ⟨best, hB, Or.inl ⟨⟨y32, Or.inl (by omega)⟩, rfl⟩⟩ hQ
          · obtain ⟨zr, ez⟩ : ∃ r, rs[best.toNat]? = some r := ⟨_, List.getElem?_eq_getElem (by omega)⟩
            obtain ⟨zu, fz, yz⟩ := hrs best.toNat zr ez
            have pz : (rs.map fun r => r.1).getD best.toNat [] = zr.1 := by rw [List.getD_eq_getElem?_getD, List.getElem?_map, ez]; rfl
            obtain ⟨z1, z2, z3, z4, z5, z6, z7, z8, cz, -⟩ := id yz
            refine xr_steps (pc' := 31) (L' := [(3, .int (Int32.ofInt (i : Int))), (2, .int (Int32.ofInt best)), (0, .ref x), (1, .ref pb)]) (st' := [.ref x]) 1 rfl ?_
            refine xr_getf (v := .ref rr) rfl hx rfl ?_
            refine xr_steps (pc' := 35) (L' := [(3, .int (Int32.ofInt (i : Int))), (2, .int (Int32.ofInt best)), (0, .ref x), (1, .ref pb)]) (st' := [.int (Int32.ofInt (i : Int)), .ref rr]) 1 rfl ?_
            refine xr_aaload rfl hrr (by omega) (by omega) (by omega) (congrArg xb_ref fa) ?_
            refine xr_steps (pc' := 37) (L' := [(3, .int (Int32.ofInt (i : Int))), (2, .int (Int32.ofInt best)), (0, .ref x), (1, .ref pb)]) (st' := [.ref x, .ref au]) 1 rfl ?_
            refine xr_getf (v := .ref rr) rfl hx rfl ?_
            refine xr_steps (pc' := 41) (L' := [(3, .int (Int32.ofInt (i : Int))), (2, .int (Int32.ofInt best)), (0, .ref x), (1, .ref pb)]) (st' := [.int (Int32.ofInt best), .ref rr, .ref au]) 1 rfl ?_
            refine xr_aaload rfl hrr (by omega) (by omega) (by omega) (congrArg xb_ref fz) ?_
            refine xr_call (q := (.invokevirtual 43, 3, 88, 2)) (av := [.ref au, .ref zu]) (rest := []) rfl rfl (by decide) rfl (xr_rcv rfl ca) (Nat.le_of_ble_eq_true rfl) (mr_88 ya yz) ?_
            rintro _ _ ⟨bb, ⟨rfl, eA⟩, hb35⟩
            rw [eA]
            clear eA
            rw [← pa, ← pz] at hb35
            rcases hb35 with ⟨rfl, y35⟩ | ⟨rfl, y35⟩
            · refine xr_if_eq rfl (by omega) (fun z36 => ?_) (fun z36 => ?_)
              · exfalso; omega
              · refine xr_steps (pc' := 50) (L' := [(2, .int (Int32.ofInt (i : Int))), (3, .int (Int32.ofInt (i : Int))), (0, .ref x), (1, .ref pb)]) (st' := []) 2 rfl ?_
                refine xr_iinc (L' := [(3, .int (Int32.ofInt ((i : Int) + 1))), (2, .int (Int32.ofInt (i : Int))), (0, .ref x), (1, .ref pb)]) rfl rfl rfl ?_
                refine xr_steps (pc' := 4) (L' := [(3, .int (Int32.ofInt ((i : Int) + 1))), (2, .int (Int32.ofInt (i : Int))), (0, .ref x), (1, .ref pb)]) (st' := []) 1 rfl ?_
                refine xr_loc (L := [(3, .int (Int32.ofInt ((i : Int) + 1))), (2, .int (Int32.ofInt (i : Int))), (0, .ref x), (1, .ref pb)]) (show [3, 2, 0, 1].Nodup by decide) ⟨rfl, rfl, rfl, rfl, trivial⟩ ?_
                rw [show (i : Int) + 1 = ((i + 1 : Nat) : Int) by omega]
                exact ih (k - 1) (by omega) (i + 1) _ (by omega) ⟨best, hB, Or.inl ⟨⟨y32, Or.inr y35⟩, rfl⟩⟩ hQ
            · refine xr_if_eq rfl (by omega) (fun z37 => ?_) (fun z37 => ?_)
              · refine xr_iinc (L' := [(3, .int (Int32.ofInt ((i : Int) + 1))), (2, .int (Int32.ofInt best)), (0, .ref x), (1, .ref pb)]) rfl rfl rfl ?_
                refine xr_steps (pc' := 4) (L' := [(3, .int (Int32.ofInt ((i : Int) + 1))), (2, .int (Int32.ofInt best)), (0, .ref x), (1, .ref pb)]) (st' := []) 1 rfl ?_
                refine xr_loc (L := [(3, .int (Int32.ofInt ((i : Int) + 1))), (2, .int (Int32.ofInt best)), (0, .ref x), (1, .ref pb)]) (show [3, 2, 0, 1].Nodup by decide) ⟨rfl, rfl, rfl, rfl, trivial⟩ ?_
                rw [show (i : Int) + 1 = ((i + 1 : Nat) : Int) by omega]
                exact ih (k - 1) (by omega) (i + 1) _ (by omega) ⟨best, hB, Or.inr ⟨fun h => h.2.elim (fun h => absurd h (by omega)) y35, rfl⟩⟩ hQ
              · exfalso; omega
      · refine xr_if_eq rfl (by omega) (fun z38 => ?_) (fun z38 => ?_)
        · refine xr_iinc (L' := [(3, .int (Int32.ofInt ((i : Int) + 1))), (2, .int (Int32.ofInt best)), (0, .ref x), (1, .ref pb)]) rfl rfl rfl ?_
          refine xr_steps (pc' := 4) (L' := [(3, .int (Int32.ofInt ((i : Int) + 1))), (2, .int (Int32.ofInt best)), (0, .ref x), (1, .ref pb)]) (st' := []) 1 rfl ?_
          refine xr_loc (L := [(3, .int (Int32.ofInt ((i : Int) + 1))), (2, .int (Int32.ofInt best)), (0, .ref x), (1, .ref pb)]) (show [3, 2, 0, 1].Nodup by decide) ⟨rfl, rfl, rfl, rfl, trivial⟩ ?_
          rw [show (i : Int) + 1 = ((i + 1 : Nat) : Int) by omega]
          exact ih (k - 1) (by omega) (i + 1) _ (by omega) ⟨best, hB, Or.inr ⟨fun h => y32 h.1, rfl⟩⟩ hQ
        · exfalso; omega
theorem mi_84 (hi : yin A P x rr sr st rs ns ex) (hp : ypa A pb rp rn l) : xr_ok (xt_G w) (d + 1 + 1 + 1) 84 0 [(0, .ref x), (1, .ref pb)] [] A (fun o A' => ∃ v0, o = .inl v0 ∧ ∃ b : Int, (v0 = some (.int (Int32.ofInt b)) ∧ A' = A) ∧ xBS (rs.map fun r => r.1) l rs.length b) := by
  refine xr_steps (pc' := 4) (L' := [(3, .int (Int32.ofInt 0)), (2, .int (Int32.ofInt (-1))), (0, .ref x), (1, .ref pb)]) (st' := []) 4 rfl ?_
  exact mi_84l hi hp rs.length 0 (-1) (by omega) rfl (fun b hb => ⟨_, rfl, b, ⟨rfl, rfl⟩, hb⟩)
theorem mi_176 {k : Int} (hi : yin A P x rr sr st rs ns ex) (hk : -1 ≤ k ∧ k < rs.length) : xr_ok (xt_G w) d 176 0 [(0, .ref x), (1, .int (Int32.ofInt k))] [] A (fun o A' => ∃ v0, o = .inl v0 ∧ ((∃ (ru : Nat) (r : List Int × List (Int × Int × List Int) × Int), 0 ≤ k ∧ rs[k.toNat]? = some r ∧ yru A P ru r.1 r.2.1 r.2.2 ∧ v0 = some (.ref ru) ∧ A' = A) ∨ (k = -1 ∧ v0 = some .null ∧ A' = A))) := by
  obtain ⟨fr, fs, ev, hx, hrr, hsr, hl, hns, hrs, hex, hex0, hz, hst, hnr⟩ := id hi
  refine xr_steps (pc' := 1) (L' := [(0, .ref x), (1, .int (Int32.ofInt k))]) (st' := [.int (Int32.ofInt k)]) 1 rfl ?_
  refine xr_if_lt rfl (by omega) (fun z1 => ?_) (fun z1 => ?_)
  · refine xr_steps (pc' := 22) (L' := [(0, .ref x), (1, .int (Int32.ofInt k))]) (st' := [.null]) 1 rfl ?_
    exact xr_retNull rfl rfl ⟨_, rfl, Or.inr ⟨by omega, rfl, rfl⟩⟩
  · refine xr_steps (pc' := 6) (L' := [(0, .ref x), (1, .int (Int32.ofInt k))]) (st' := [.ref x, .int (Int32.ofInt k)]) 2 rfl ?_
    refine xr_getf (v := .int (Int32.ofInt (rs.length : Int))) rfl hx rfl ?_
    refine xr_icmp_ge rfl (by omega) (by omega) (fun z2 => ?_) (fun z2 => ?_)
    · refine xr_steps (pc' := 22) (L' := [(0, .ref x), (1, .int (Int32.ofInt k))]) (st' := [.null]) 1 rfl ?_
      exact xr_retNull rfl rfl ⟨_, rfl, Or.inr ⟨by omega, rfl, rfl⟩⟩
    · obtain ⟨ar, ea⟩ : ∃ r, rs[k.toNat]? = some r := ⟨_, List.getElem?_eq_getElem (by omega)⟩
      obtain ⟨au, fa, ya⟩ := hrs k.toNat ar ea
      have pa : (rs.map fun r => r.1).getD k.toNat [] = ar.1 := by rw [List.getD_eq_getElem?_getD, List.getElem?_map, ea]; rfl
      obtain ⟨a1, a2, a3, a4, a5, a6, a7, a8, ca, -⟩ := id ya
      refine xr_steps (pc' := 13) (L' := [(0, .ref x), (1, .int (Int32.ofInt k))]) (st' := [.ref x]) 1 rfl ?_
      refine xr_getf (v := .ref rr) rfl hx rfl ?_
      refine xr_steps (pc' := 17) (L' := [(0, .ref x), (1, .int (Int32.ofInt k))]) (st' := [.int (Int32.ofInt k), .ref rr]) 1 rfl ?_
      refine xr_aaload rfl hrr (by omega) (by omega) (by omega) (congrArg xb_ref fa) ?_
      refine xr_steps (pc' := 22) (L' := [(0, .ref x), (1, .int (Int32.ofInt k))]) (st' := [.ref au]) 1 rfl ?_
      exact xr_retR rfl rfl ⟨_, rfl, Or.inl ⟨au, ar, by omega, ea, ya, rfl, rfl⟩⟩
end IN
/-! More of interactions -/
theorem yin_keep {A A' : xb_H} {P : Nat → Prop} {x rr sr : Nat} {st : Int} {rs : List (List Int × List (Int × Int × List Int) × Int)} {ns : List Int} {ex : Option (xv 6)} (h : yin A P x rr sr st rs ns ex) (hk : ∀ y o, P y → xb_get A y = some o → xb_get A' y = some o) (h2 : ∀ y o, y = x ∨ y = rr ∨ y = sr → xb_get A y = some o → xb_get A' y = some o) : yin A' P x rr sr st rs ns ex := by
  obtain ⟨fr, fs, ev, hx, hrr, hsr, hl, hns, hrs, hex, hex0, hz⟩ := h
  refine ⟨fr, fs, ev, h2 _ _ (Or.inl rfl) hx, h2 _ _ (Or.inr (Or.inl rfl)) hrr, h2 _ _ (Or.inr (Or.inr rfl)) hsr, hl, hns, fun j r hr => ?_, fun t ht => ?_, hex0, hz⟩
  · obtain ⟨ru, e1, e2⟩ := hrs j r hr
    exact ⟨ru, e1, yru_keep e2 hk⟩
  · obtain ⟨a, e1, e2, e3⟩ := hex t ht
    exact ⟨a, e1, yt_keep 6 P hk a 0 t e2, e3⟩
theorem yin_fr {A A' : xb_H} {P : Nat → Prop} {x rr sr : Nat} {st : Int} {rs : List (List Int × List (Int × Int × List Int) × Int)} {ns : List Int} {ex : Option (xv 6)} {M : List Nat} {p q : Nat} (h : yin A P x rr sr st rs ns ex) (hf : yfr A A' M p q) (hM : ∀ y ∈ M, ¬ P y ∧ ¬ y = x ∧ ¬ y = rr ∧ ¬ y = sr) : yin A' P x rr sr st rs ns ex := by
  refine yin_keep h (fun y o hy hg => yfr_get hf hg (fun hm => (hM y hm).1 hy)) (fun y o hy hg => yfr_get hf hg (fun hm => ?_))
  have := hM y hm
  omega
theorem yru_mono {A : xb_H} {P P' : Nat → Prop} {ru : Nat} {ps : List Int} {ms : List (Int × Int × List Int)} {sp : Int} (h : yru A P ru ps ms sp) (hk : ∀ x, P x → P' x) : yru A P' ru ps ms sp := by
  obtain ⟨pa, ro, la, ed, cap, one, lo, as, e1, e2, e3, e4, e5, ⟨e6, e7, e8, e9, e10⟩, e11⟩ := h
  exact ⟨pa, ro, la, ed, cap, one, lo, as, e1, e2, e3, e4, fun i x m h1 h2 => ymt_mono (e5 i x m h1 h2) hk, ⟨hk _ e6, hk _ e7, hk _ e8, hk _ e9, hk _ e10⟩, e11⟩
section IM
variable {w : Value} {d : Nat} {A : xb_H} {x rr sr : Nat} {P : Nat → Prop} {st : Int} {rs : List (List Int × List (Int × Int × List Int) × Int)} {ns : List Int} {ex : Option (xv 6)} {Q : xb_R → xb_H → Prop}
theorem mi_166  (hi : yin A P x rr sr st rs ns ex)  : xr_ok (xt_G w) d 166 0 [(0, .ref x)] [] A (fun o A' => ∃ v0, o = .inl v0 ∧ v0 = some (.int (Int32.ofInt (ns.length : Int))) ∧ A' = A) := by
  obtain ⟨fr, fs, ev, hx, hrr, hsr, hl, hns, hrs, hex, hex0, hz, hst, hnr⟩ := id hi
  refine xr_steps (pc' := 1) (L' := [(0, .ref x)]) (st' := [.ref x]) 1 rfl ?_
  refine xr_getf (v := .int (Int32.ofInt (ns.length : Int))) rfl hx rfl ?_
  exact xr_retI2 rfl rfl ⟨_, rfl, rfl, rfl⟩
theorem mi_201  (hi : yin A P x rr sr st rs ns ex)  : xr_ok (xt_G w) d 201 0 [(0, .ref x)] [] A (fun o A' => ∃ v0, o = .inl v0 ∧ v0 = some (.int (Int32.ofInt st)) ∧ A' = A) := by
  obtain ⟨fr, fs, ev, hx, hrr, hsr, hl, hns, hrs, hex, hex0, hz, hst, hnr⟩ := id hi
  refine xr_steps (pc' := 1) (L' := [(0, .ref x)]) (st' := [.ref x]) 1 rfl ?_
  refine xr_getf (v := .int (Int32.ofInt st)) rfl hx rfl ?_
  exact xr_retZ rfl rfl (by omega) ⟨_, rfl, rfl, rfl⟩
theorem mi_167 {i : Nat} (hi : yin A P x rr sr st rs ns ex) (hlt : i < ns.length) : xr_ok (xt_G w) d 167 0 [(0, .ref x), (1, .int (Int32.ofInt (i : Int)))] [] A (fun o A' => ∃ v0, o = .inl v0 ∧ v0 = some (.int (Int32.ofInt (ns.getD i 0))) ∧ A' = A) := by
  obtain ⟨fr, fs, ev, hx, hrr, hsr, hl, hns, hrs, hex, hex0, hz, hst, hnr⟩ := id hi
  refine xr_steps (pc' := 1) (L' := [(0, .ref x), (1, .int (Int32.ofInt (i : Int)))]) (st' := [.int (Int32.ofInt (i : Int))]) 1 rfl ?_
  refine xr_if_lt rfl (by omega) (fun z31 => ?_) (fun z31 => ?_)
  · exfalso; omega
  · refine xr_steps (pc' := 6) (L' := [(0, .ref x), (1, .int (Int32.ofInt (i : Int)))]) (st' := [.ref x, .int (Int32.ofInt (i : Int))]) 2 rfl ?_
    refine xr_getf (v := .int (Int32.ofInt (ns.length : Int))) rfl hx rfl ?_
    refine xr_icmp_ge rfl (by omega) (by omega) (fun z32 => ?_) (fun z32 => ?_)
    · exfalso; omega
    · refine xr_steps (pc' := 13) (L' := [(0, .ref x), (1, .int (Int32.ofInt (i : Int)))]) (st' := [.ref x]) 1 rfl ?_
      refine xr_getf (v := .ref sr) rfl hx rfl ?_
      refine xr_steps (pc' := 17) (L' := [(0, .ref x), (1, .int (Int32.ofInt (i : Int)))]) (st' := [.int (Int32.ofInt (i : Int)), .ref sr]) 1 rfl ?_
      refine xr_iaload rfl hsr (by omega) (by omega) (by omega) ?_
      rw [show (i : Int).toNat = i by omega]
      refine xr_steps (pc' := 22) (L' := [(0, .ref x), (1, .int (Int32.ofInt (i : Int)))]) (st' := [.int (Int32.ofInt (fs i))]) 1 rfl ?_
      rw [hns i hlt]
      exact xr_retI2 rfl rfl ⟨_, rfl, rfl, rfl⟩
theorem mi_164 (hi : yin A P x rr sr st rs ns ex) {t : xv 6} (ht : ex = some t) : xr_ok (xt_G w) d 164 0 [(0, .ref x)] [] A (fun o A' => ∃ v0, o = .inl v0 ∧ ∃ a, (v0 = some (.ref a) ∧ A' = A) ∧ yt A P 6 a 0 t ∧ xwf 6 t) := by
  obtain ⟨fr, fs, ev, hx, hrr, hsr, hl, hns, hrs, hex, hex0, hz, hst, hnr⟩ := id hi
  obtain ⟨a, rfl, e2⟩ := hex t ht
  refine xr_steps (pc' := 1) (L' := [(0, .ref x)]) (st' := [.ref x]) 1 rfl ?_
  refine xr_getf (v := .ref a) rfl hx rfl ?_
  exact xr_retR rfl rfl ⟨_, rfl, a, ⟨rfl, rfl⟩, e2⟩
theorem mi_164n (hi : yin A P x rr sr st rs ns ex) (ht : ex = none) : xr_ok (xt_G w) d 164 0 [(0, .ref x)] [] A (fun o A' => ∃ v0, o = .inl v0 ∧ v0 = some .null ∧ A' = A) := by
  obtain ⟨fr, fs, ev, hx, hrr, hsr, hl, hns, hrs, hex, hex0, hz, hst, hnr⟩ := id hi
  obtain rfl := hex0 ht
  refine xr_steps (pc' := 1) (L' := [(0, .ref x)]) (st' := [.ref x]) 1 rfl ?_
  refine xr_getf (v := .null) rfl hx rfl ?_
  exact xr_retNull rfl rfl ⟨_, rfl, rfl, rfl⟩
theorem mi_42l {c : Int} (hi : yin A P x rr sr st rs ns ex) (hc : 0 ≤ c ∧ c ≤ 5) : ∀ (k i : Nat), i + k = ns.length → (∀ b : Int, ((b = 1 ∧ ∃ j : Nat, i ≤ j ∧ j < ns.length ∧ ns.getD j 0 = c) ∨ (b = 0 ∧ ¬ ∃ j : Nat, i ≤ j ∧ j < ns.length ∧ ns.getD j 0 = c)) → Q (.inl (some (.int (Int32.ofInt b)))) A) → xr_ok (xt_G w) d 42 2 [(2, .int (Int32.ofInt (i : Int))), (0, .ref x), (1, .int (Int32.ofInt c))] [] A Q := by
  intro k
  induction k using Nat.strongRecOn with
  | _ k ih =>
    intro i hk hQ
    obtain ⟨fr, fs, ev, hx, hrr, hsr, hl, hns, hrs, hex, hex0, hz, hst, hnr⟩ := id hi
    refine xr_steps (pc' := 4) (L' := [(2, .int (Int32.ofInt (i : Int))), (0, .ref x), (1, .int (Int32.ofInt c))]) (st' := [.ref x, .int (Int32.ofInt (i : Int))]) 2 rfl ?_
    refine xr_getf (v := .int (Int32.ofInt (ns.length : Int))) rfl hx rfl ?_
    refine xr_icmp_ge rfl (by omega) (by omega) (fun z31 => ?_) (fun z31 => ?_)
    · refine xr_steps (pc' := 29) (L' := [(2, .int (Int32.ofInt (i : Int))), (0, .ref x), (1, .int (Int32.ofInt c))]) (st' := [.int (Int32.ofInt 0)]) 1 rfl ?_
      exact xr_retZ rfl rfl (by omega) (hQ _ (Or.inr ⟨rfl, fun ⟨j, e1, e2, e3⟩ => by omega⟩))
    · have hnc : 0 ≤ fs i ∧ fs i ≤ 5 := by rw [hns i (by omega), List.getD_eq_getElem?_getD, List.getElem?_eq_getElem (show i < ns.length by omega)]; exact hnr _ (List.getElem_mem _)
      refine xr_steps (pc' := 11) (L' := [(2, .int (Int32.ofInt (i : Int))), (0, .ref x), (1, .int (Int32.ofInt c))]) (st' := [.ref x]) 1 rfl ?_
      refine xr_getf (v := .ref sr) rfl hx rfl ?_
      refine xr_steps (pc' := 15) (L' := [(2, .int (Int32.ofInt (i : Int))), (0, .ref x), (1, .int (Int32.ofInt c))]) (st' := [.int (Int32.ofInt (i : Int)), .ref sr]) 1 rfl ?_
      refine xr_iaload rfl hsr (by omega) (by omega) (by omega) ?_
      rw [show (i : Int).toNat = i by omega]
      refine xr_steps (pc' := 17) (L' := [(2, .int (Int32.ofInt (i : Int))), (0, .ref x), (1, .int (Int32.ofInt c))]) (st' := [.int (Int32.ofInt c), .int (Int32.ofInt (fs i))]) 1 rfl ?_
      refine xr_icmp_ne rfl (by omega) (by omega) (fun z32 => ?_) (fun z32 => ?_)
      · refine xr_iinc (L' := [(2, .int (Int32.ofInt ((i : Int) + 1))), (0, .ref x), (1, .int (Int32.ofInt c))]) rfl rfl rfl ?_
        refine xr_steps (pc' := 2) (L' := [(2, .int (Int32.ofInt ((i : Int) + 1))), (0, .ref x), (1, .int (Int32.ofInt c))]) (st' := []) 1 rfl ?_
        refine xr_loc (L := [(2, .int (Int32.ofInt ((i : Int) + 1))), (0, .ref x), (1, .int (Int32.ofInt c))]) (show [2, 0, 1].Nodup by decide) ⟨rfl, rfl, rfl, trivial⟩ ?_
        rw [show (i : Int) + 1 = ((i + 1 : Nat) : Int) by omega]
        refine ih (k - 1) (by omega) (i + 1) (by omega) (fun b hb => hQ b ?_)
        rcases hb with ⟨e1, j, e2, e3, e4⟩ | ⟨e1, e2⟩
        · exact Or.inl ⟨e1, j, by omega, e3, e4⟩
        · refine Or.inr ⟨e1, ?_⟩
          rintro ⟨j, e3, e4, e5⟩
          by_cases ej : j = i
          · rw [ej, ← hns i (by omega)] at e5
            exact z32 e5
          · exact e2 ⟨j, by omega, e4, e5⟩
      · refine xr_steps (pc' := 21) (L' := [(2, .int (Int32.ofInt (i : Int))), (0, .ref x), (1, .int (Int32.ofInt c))]) (st' := [.int (Int32.ofInt 1)]) 1 rfl ?_
        exact xr_retZ rfl rfl (by omega) (hQ _ (Or.inl ⟨rfl, i, Nat.le_refl _, by omega, by rw [← hns i (by omega)]; exact z32⟩))
theorem mi_42 {c : Int} (hi : yin A P x rr sr st rs ns ex) (hc : 0 ≤ c ∧ c ≤ 5) : xr_ok (xt_G w) d 42 0 [(0, .ref x), (1, .int (Int32.ofInt c))] [] A (fun o A' => ∃ v0, o = .inl v0 ∧ ∃ b : Int, (v0 = some (.int (Int32.ofInt b)) ∧ A' = A) ∧ ((b = 1 ∧ c ∈ ns) ∨ (b = 0 ∧ ¬ c ∈ ns))) := by
  refine xr_steps (pc' := 2) (L' := [(2, .int (Int32.ofInt 0)), (0, .ref x), (1, .int (Int32.ofInt c))]) (st' := []) 2 rfl ?_
  refine mi_42l hi hc ns.length 0 (by omega) (fun b hb => ⟨_, rfl, b, ⟨rfl, rfl⟩, ?_⟩)
  have hE : (∃ j : Nat, 0 ≤ j ∧ j < ns.length ∧ ns.getD j 0 = c) ↔ c ∈ ns := by
    rw [List.mem_iff_getElem?]
    constructor
    · rintro ⟨j, -, e1, e2⟩
      refine ⟨j, ?_⟩
      rw [List.getD_eq_getElem?_getD, List.getElem?_eq_getElem e1] at e2
      rw [List.getElem?_eq_getElem e1]
      exact congrArg some e2
    · rintro ⟨j, e1⟩
      have e2 := (List.getElem?_eq_some_iff.mp e1).1
      exact ⟨j, Nat.zero_le _, e2, by rw [List.getD_eq_getElem?_getD, e1]; rfl⟩
  rw [hE] at hb
  exact hb
theorem mi_41 {c : Int} (hi : yin A P x rr sr st rs ns ex) (hc : 0 ≤ c ∧ c ≤ 5) (hP : ¬ P x ∧ ¬ P sr) : xr_ok (xt_G w) (d + 1) 41 0 [(0, .ref x), (1, .int (Int32.ofInt c))] [] A (fun o A' => ∃ v0, o = .inl v0 ∧ ∃ b : Int, v0 = some (.int (Int32.ofInt b)) ∧ ((b = 1 ∧ (ns.length < 3 ∧ ¬ c ∈ ns) ∧ yin A' P x rr sr st rs (ns ++ [c]) ex ∧ yfr A A' [x, sr] 0 0 ∧ A'.1 = A.1) ∨ (b = 0 ∧ ¬ (ns.length < 3 ∧ ¬ c ∈ ns) ∧ A' = A))) := by
  obtain ⟨fr, fs, ev, hx, hrr, hsr, hl, hns, hrs, hex, hex0, hz, hst, hnr⟩ := id hi
  have hPn : ∀ y, P y → ¬ y ∈ [x, sr] := by
    intro y hy hm
    simp only [List.mem_cons, List.not_mem_nil, or_false] at hm
    rcases hm with rfl | rfl
    · exact hP.1 hy
    · exact hP.2 hy
  have f31 := yfr_refl A [x, sr] 0 0
  refine xr_steps (pc' := 1) (L' := [(0, .ref x), (1, .int (Int32.ofInt c))]) (st' := [.ref x]) 1 rfl ?_
  refine xr_getf (v := .int (Int32.ofInt (ns.length : Int))) rfl hx rfl ?_
  refine xr_steps (pc' := 5) (L' := [(0, .ref x), (1, .int (Int32.ofInt c))]) (st' := [.int (Int32.ofInt 3), .int (Int32.ofInt (ns.length : Int))]) 1 rfl ?_
  refine xr_icmp_ge rfl (by omega) (by omega) (fun z32 => ?_) (fun z32 => ?_)
  · refine xr_steps (pc' := 17) (L' := [(0, .ref x), (1, .int (Int32.ofInt c))]) (st' := [.int (Int32.ofInt 0)]) 1 rfl ?_
    exact xr_retZ rfl rfl (by omega) ⟨_, rfl, 0, rfl, Or.inr ⟨rfl, fun h => absurd h.1 (by omega), rfl⟩⟩
  · refine xr_steps (pc' := 10) (L' := [(0, .ref x), (1, .int (Int32.ofInt c))]) (st' := [.int (Int32.ofInt c), .ref x]) 2 rfl ?_
    refine xr_call (q := (.invokevirtual 50, 3, 42, 2)) (av := [.ref x, .int (Int32.ofInt c)]) (rest := []) rfl rfl (by decide) rfl (xr_rcv rfl hx) (Nat.le_of_ble_eq_true rfl) (mi_42 hi hc) ?_
    rintro _ _ ⟨bb, ⟨rfl, eA⟩, hb33⟩
    rw [eA]
    clear eA
    rcases hb33 with ⟨rfl, y33⟩ | ⟨rfl, y33⟩
    · refine xr_if_eq rfl (by omega) (fun z34 => ?_) (fun z34 => ?_)
      · exfalso; omega
      · refine xr_steps (pc' := 17) (L' := [(0, .ref x), (1, .int (Int32.ofInt c))]) (st' := [.int (Int32.ofInt 0)]) 1 rfl ?_
        exact xr_retZ rfl rfl (by omega) ⟨_, rfl, 0, rfl, Or.inr ⟨rfl, fun h => h.2 y33, rfl⟩⟩
    · refine xr_if_eq rfl (by omega) (fun z35 => ?_) (fun z35 => ?_)
      · refine xr_steps (pc' := 19) (L' := [(0, .ref x), (1, .int (Int32.ofInt c))]) (st' := [.ref x]) 1 rfl ?_
        refine xr_getf (v := .ref sr) rfl hx rfl ?_
        refine xr_steps (pc' := 23) (L' := [(0, .ref x), (1, .int (Int32.ofInt c))]) (st' := [.ref x, .ref sr]) 1 rfl ?_
        refine xr_getf (v := .int (Int32.ofInt (ns.length : Int))) rfl hx rfl ?_
        refine xr_steps (pc' := 27) (L' := [(0, .ref x), (1, .int (Int32.ofInt c))]) (st' := [.int (Int32.ofInt c), .int (Int32.ofInt (ns.length : Int)), .ref sr]) 1 rfl ?_
        obtain ⟨A36, eA36⟩ : ∃ A0, xb_set A sr (.inl (.int, 3, .inl fun j => Int32.ofInt ((va_up fs (ns.length : Int).toNat c) j))) = A0 := ⟨_, rfl⟩
        refine xr_iastoreN rfl hsr (show 64 ≤ sr by omega) (by omega) (by omega) (by omega) (xr_heap eA36 ?_)
        have g37 := xr_mv eA36 (xb_get_set_ne hsr hx (by omega))
        have g38 := xr_mv eA36 (xb_get_set_same hsr)
        have g39 := xr_mv eA36 (xb_get_set_ne hsr hrr (by omega))
        have nA36 : A36.1 = A.1 := by rw [← eA36]; rfl
        have f40 := yfr_mv eA36 (yfr_step_set f31 hsr (Or.inl (by simp)))
        refine xr_steps (pc' := 30) (L' := [(0, .ref x), (1, .int (Int32.ofInt c))]) (st' := [.ref x, .ref x]) 2 rfl ?_
        refine xr_getf (v := .int (Int32.ofInt (ns.length : Int))) rfl g37 rfl ?_
        refine xr_steps (pc' := 34) (L' := [(0, .ref x), (1, .int (Int32.ofInt c))]) (st' := [.int (Int32.ofInt 1), .int (Int32.ofInt (ns.length : Int)), .ref x]) 1 rfl ?_
        refine xr_iadd rfl ?_
        obtain ⟨A41, eA41⟩ : ∃ A0, xb_set A36 x (.inr (3, [.int (Int32.ofInt st), .ref rr, .int (Int32.ofInt (rs.length : Int)), .ref sr, .int (Int32.ofInt ((ns.length : Int) + 1)), ev])) = A0 := ⟨_, rfl⟩
        refine xr_putf (t := .int) rfl g37 (show 64 ≤ x by omega) (Nat.le_of_ble_eq_true rfl) rfl (xr_fitI _) (xr_heap eA41 ?_)
        have g42 := xr_mv eA41 (xb_get_set_same g37)
        have g43 := xr_mv eA41 (xb_get_set_ne g37 g38 (by omega))
        have g44 := xr_mv eA41 (xb_get_set_ne g37 g39 (by omega))
        have nA41 : A41.1 = A36.1 := by rw [← eA41]; rfl
        have f45 := yfr_mv eA41 (yfr_step_set f40 g37 (Or.inl (by simp)))
        refine xr_steps (pc' := 39) (L' := [(0, .ref x), (1, .int (Int32.ofInt c))]) (st' := [.int (Int32.ofInt 1)]) 1 rfl ?_
        refine xr_retZ rfl rfl (by omega) ⟨_, rfl, 1, rfl, Or.inl ⟨rfl, ⟨by omega, y33⟩, ⟨fr, va_up fs ns.length c, ev, ?_, g44, g43, ⟨hl.1, by rw [List.length_append, List.length_singleton]; omega⟩, fun j hj => ?_, fun j r hr => ?_, fun t ht => ?_, hex0, hz, hst, fun e he => ?_⟩, f45, by omega⟩⟩
        · have h := g42
          rw [show (ns.length : Int) + 1 = ((ns ++ [c]).length : Int) by rw [List.length_append, List.length_singleton]; omega] at h
          exact h
        · rw [xl_snoc ns c j hj]
          unfold va_up
          by_cases e : j = ns.length
          · rw [if_pos e, if_pos e]
          · rw [if_neg e, if_neg e]
            rw [List.length_append, List.length_singleton] at hj
            exact hns j (by omega)
        · obtain ⟨ru, e1, e2⟩ := hrs j r hr
          exact ⟨ru, e1, yru_keep e2 (fun y o hy hg => yfr_get f45 hg (hPn y hy))⟩
        · obtain ⟨a, e1, e2, e3⟩ := hex t ht
          exact ⟨a, e1, yt_keep 6 P (fun y o hy hg => yfr_get f45 hg (hPn y hy)) a 0 t e2, e3⟩
        · rcases List.mem_append.mp he with he | he
          · exact hnr e he
          · rw [List.mem_singleton] at he
            omega
      · exfalso; omega
theorem mi_144n {a : Nat} {t : xv 6} (hi : yin A P x rr sr st rs ns ex) (hn : ex = none) (hP : ¬ P x) (ha : yt A P 6 a 0 t) (hwf : xwf 6 t) : xr_ok (xt_G w) d 144 0 [(0, .ref x), (1, .ref a)] [] A (fun o A' => ∃ v0, o = .inl v0 ∧ v0 = some (.int (Int32.ofInt 1)) ∧ yin A' P x rr sr st rs ns (some t) ∧ yfr A A' [x] 0 0 ∧ A'.1 = A.1) := by
  obtain ⟨fr, fs, ev, hx, hrr, hsr, hl, hns, hrs, hex, hex0, hz, hst, hnr⟩ := id hi
  obtain rfl := hex0 hn
  have f31 := yfr_refl A [x] 0 0
  refine xr_steps (pc' := 1) (L' := [(0, .ref x), (1, .ref a)]) (st' := [.ref x]) 1 rfl ?_
  refine xr_getf (v := .null) rfl hx rfl ?_
  refine xr_steps (pc' := 9) (L' := [(0, .ref x), (1, .ref a)]) (st' := [.ref a, .ref x]) 3 rfl ?_
  obtain ⟨A32, eA32⟩ : ∃ A0, xb_set A x (.inr (3, [.int (Int32.ofInt st), .ref rr, .int (Int32.ofInt (rs.length : Int)), .ref sr, .int (Int32.ofInt (ns.length : Int)), .ref a])) = A0 := ⟨_, rfl⟩
  refine xr_putf (t := .object "ContractDesk$Value") rfl hx (show 64 ≤ x by omega) (Nat.le_of_ble_eq_true rfl) rfl (xr_fitR _ rfl) (xr_heap eA32 ?_)
  have g33 := xr_mv eA32 (xb_get_set_same hx)
  have g34 := xr_mv eA32 (xb_get_set_ne hx hsr (by omega))
  have g35 := xr_mv eA32 (xb_get_set_ne hx hrr (by omega))
  have nA32 : A32.1 = A.1 := by rw [← eA32]; rfl
  have f36 := yfr_mv eA32 (yfr_step_set f31 hx (Or.inl (by simp)))
  refine xr_steps (pc' := 13) (L' := [(0, .ref x), (1, .ref a)]) (st' := [.int (Int32.ofInt 1)]) 1 rfl ?_
  refine xr_retZ rfl rfl (by omega) ⟨_, rfl, rfl, ⟨fr, fs, .ref a, g33, g35, g34, hl, hns, fun j r hr => ?_, fun t' ht => ?_, fun h => (by cases h), hz, hst, hnr⟩, f36, by omega⟩
  · obtain ⟨ru, e1, e2⟩ := hrs j r hr
    exact ⟨ru, e1, yru_keep e2 (fun y o hy hg => yfr_get f36 hg (by rw [List.mem_singleton]; rintro rfl; exact hP hy))⟩
  · cases ht
    exact ⟨a, rfl, yt_keep 6 P (fun y o hy hg => yfr_get f36 hg (by rw [List.mem_singleton]; rintro rfl; exact hP hy)) a 0 t ha, hwf⟩
theorem mi_144 {a : Nat} {t u : xv 6} {P' : Nat → Prop} (hi : yin A P x rr sr st rs ns ex) (hk : yk2 A) (hn : ex = some u) (ha : yt A P' 6 a 0 t) (hwf : xwf 6 t) : xr_ok (xt_G w) (d + 6 + 1 + 1 + 1 + 1 + 1) 144 0 [(0, .ref x), (1, .ref a)] [] A (fun o A' => ∃ v0, o = .inl v0 ∧ ∃ bb : Int, (v0 = some (.int (Int32.ofInt bb)) ∧ A' = A) ∧ ((bb = 1 ∧ xeq 6 u t) ∨ (bb = 0 ∧ ¬ xeq 6 u t))) := by
  obtain ⟨fr, fs, ev, hx, hrr, hsr, hl, hns, hrs, hex, hex0, hz, hst, hnr⟩ := id hi
  obtain ⟨b, rfl, hb, hwb⟩ := hex u hn
  refine xr_steps (pc' := 1) (L' := [(0, .ref x), (1, .ref a)]) (st' := [.ref x]) 1 rfl ?_
  refine xr_getf (v := .ref b) rfl hx rfl ?_
  refine xr_steps (pc' := 15) (L' := [(0, .ref x), (1, .ref a)]) (st' := [.ref x]) 2 rfl ?_
  refine xr_getf (v := .ref b) rfl hx rfl ?_
  refine xr_steps (pc' := 20) (L' := [(0, .ref x), (1, .ref a)]) (st' := [.int (Int32.ofInt 0), .ref a, .ref b]) 2 rfl ?_
  have h145 := mv_145 (w := w) hk 6 d 0 (by omega) hb ha hwb hwf
  refine xr_call (q := (.invokestatic 29, 3, 145, 3)) (av := [.ref b, .ref a, .int (Int32.ofInt 0)]) (rest := []) rfl rfl (by decide) rfl rfl (Nat.le_of_ble_eq_true rfl) h145 ?_
  rintro _ _ ⟨bb, ⟨rfl, eA⟩, hbb⟩
  rw [eA]
  clear eA
  have hb01 : bb = 0 ∨ bb = 1 := by omega
  exact xr_retZ rfl rfl (by omega) ⟨_, rfl, bb, ⟨rfl, rfl⟩, hbb⟩
theorem mi_162 {ru : Nat} {ps : List Int} {ms : List (Int × Int × List Int)} {sp : Int} (hi : yin A P x rr sr st rs ns ex) (hr0 : yru A P ru ps ms sp) (hP : ¬ P x ∧ ¬ P rr) : xr_ok (xt_G w) d 162 0 [(0, .ref x), (1, .ref ru)] [] A (fun o A' => ∃ v0, o = .inl v0 ∧ ((rs.length < 8 ∧ v0 = some (.int (Int32.ofInt (rs.length : Int))) ∧ yin A' P x rr sr st (rs ++ [(ps, ms, sp)]) ns ex ∧ yfr A A' [x, rr] 0 0 ∧ A'.1 = A.1) ∨ (¬ rs.length < 8 ∧ v0 = some (.int (Int32.ofInt (-1))) ∧ A' = A))) := by
  obtain ⟨fr, fs, ev, hx, hrr, hsr, hl, hns, hrs, hex, hex0, hz, hst, hnr⟩ := id hi
  obtain ⟨pa, ro, la, ed, cap, one, lo, as, cr, -, -, -, -, hPr, -⟩ := id hr0
  have hPn : ∀ y, P y → ¬ y ∈ [x, rr] := by
    intro y hy hm
    simp only [List.mem_cons, List.not_mem_nil, or_false] at hm
    rcases hm with rfl | rfl
    · exact hP.1 hy
    · exact hP.2 hy
  have hrx : ¬ ru = x ∧ ¬ ru = rr := ⟨fun e => hP.1 (e ▸ hPr.1), fun e => hP.2 (e ▸ hPr.1)⟩
  have f31 := yfr_refl A [x, rr] 0 0
  refine xr_steps (pc' := 1) (L' := [(0, .ref x), (1, .ref ru)]) (st' := [.ref x]) 1 rfl ?_
  refine xr_getf (v := .int (Int32.ofInt (rs.length : Int))) rfl hx rfl ?_
  refine xr_steps (pc' := 6) (L' := [(0, .ref x), (1, .ref ru)]) (st' := [.int (Int32.ofInt 8), .int (Int32.ofInt (rs.length : Int))]) 1 rfl ?_
  refine xr_icmp_lt rfl (by omega) (by omega) (fun z32 => ?_) (fun z32 => ?_)
  · refine xr_steps (pc' := 12) (L' := [(0, .ref x), (1, .ref ru)]) (st' := [.ref x]) 1 rfl ?_
    refine xr_getf (v := .ref rr) rfl hx rfl ?_
    refine xr_steps (pc' := 16) (L' := [(0, .ref x), (1, .ref ru)]) (st' := [.ref x, .ref rr]) 1 rfl ?_
    refine xr_getf (v := .int (Int32.ofInt (rs.length : Int))) rfl hx rfl ?_
    refine xr_steps (pc' := 20) (L' := [(0, .ref x), (1, .ref ru)]) (st' := [.ref ru, .int (Int32.ofInt (rs.length : Int)), .ref rr]) 1 rfl ?_
    obtain ⟨A33, eA33⟩ : ∃ A0, xb_set A rr (.inl ((.object "ContractDesk$Rule"), 8, .inr (.inr (va_up fr (rs.length : Int).toNat (some ru))))) = A0 := ⟨_, rfl⟩
    refine xr_aastore rfl hrr cr rfl (show 64 ≤ rr by omega) (by omega) (by omega) (by omega) (xr_heap eA33 ?_)
    have g34 := xr_mv eA33 (xb_get_set_ne hrr hx (by omega))
    have g35 := xr_mv eA33 (xb_get_set_ne hrr hsr (by omega))
    have g36 := xr_mv eA33 (xb_get_set_same hrr)
    have g37 := xr_mv eA33 (xb_get_set_ne hrr cr (by omega))
    have nA33 : A33.1 = A.1 := by rw [← eA33]; rfl
    have f38 := yfr_mv eA33 (yfr_step_set f31 hrr (Or.inl (by simp)))
    refine xr_steps (pc' := 23) (L' := [(0, .ref x), (1, .ref ru)]) (st' := [.ref x, .ref x]) 2 rfl ?_
    refine xr_getf (v := .int (Int32.ofInt (rs.length : Int))) rfl g34 rfl ?_
    refine xr_steps (pc' := 28) (L' := [(0, .ref x), (1, .ref ru)]) (st' := [.int (Int32.ofInt 1), .int (Int32.ofInt (rs.length : Int)), .ref x, .int (Int32.ofInt (rs.length : Int))]) 2 rfl ?_
    refine xr_iadd rfl ?_
    obtain ⟨A39, eA39⟩ : ∃ A0, xb_set A33 x (.inr (3, [.int (Int32.ofInt st), .ref rr, .int (Int32.ofInt ((rs.length : Int) + 1)), .ref sr, .int (Int32.ofInt (ns.length : Int)), ev])) = A0 := ⟨_, rfl⟩
    refine xr_putf (t := .int) rfl g34 (show 64 ≤ x by omega) (Nat.le_of_ble_eq_true rfl) rfl (xr_fitI _) (xr_heap eA39 ?_)
    have g40 := xr_mv eA39 (xb_get_set_same g34)
    have g41 := xr_mv eA39 (xb_get_set_ne g34 g35 (by omega))
    have g42 := xr_mv eA39 (xb_get_set_ne g34 g36 (by omega))
    have g43 := xr_mv eA39 (xb_get_set_ne g34 g37 (by omega))
    have nA39 : A39.1 = A33.1 := by rw [← eA39]; rfl
    have f44 := yfr_mv eA39 (yfr_step_set f38 g34 (Or.inl (by simp)))
    refine xr_retI2 rfl rfl ⟨_, rfl, Or.inl ⟨by omega, rfl, ⟨va_up fr rs.length (some ru), fs, ev, ?_, g42, g41, ⟨by rw [List.length_append, List.length_singleton]; omega, hl.2⟩, hns, fun j r hr => ?_, fun t ht => ?_, hex0, hz, hst, hnr⟩, f44, by omega⟩⟩
    · have h := g40
      rw [show (rs.length : Int) + 1 = ((rs ++ [(ps, ms, sp)]).length : Int) by rw [List.length_append, List.length_singleton]; omega] at h
      exact h
    · by_cases e : j = rs.length
      · rw [e, List.getElem?_append_right (Nat.le_refl _), Nat.sub_self] at hr
        cases hr
        exact ⟨ru, by unfold va_up; rw [if_pos e], yru_keep hr0 (fun y o hy hg => yfr_get f44 hg (hPn y hy))⟩
      · have hj : j < rs.length := by
          have := (List.getElem?_eq_some_iff.mp hr).1
          rw [List.length_append, List.length_singleton] at this
          omega
        rw [List.getElem?_append_left hj] at hr
        obtain ⟨rv, e1, e2⟩ := hrs j r hr
        exact ⟨rv, by unfold va_up; rw [if_neg e]; exact e1, yru_keep e2 (fun y o hy hg => yfr_get f44 hg (hPn y hy))⟩
    · obtain ⟨a, e1, e2, e3⟩ := hex t ht
      exact ⟨a, e1, yt_keep 6 P (fun y o hy hg => yfr_get f44 hg (hPn y hy)) a 0 t e2, e3⟩
  · refine xr_steps (pc' := 10) (L' := [(0, .ref x), (1, .ref ru)]) (st' := [.int (Int32.ofInt (-1))]) 1 rfl ?_
    exact xr_retI2 rfl rfl ⟨_, rfl, Or.inr ⟨by omega, rfl, rfl⟩⟩
end IM
