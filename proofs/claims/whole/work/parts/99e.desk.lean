/-! The desk in the heap -/
/-- an interaction: strict or not, rules, states, body -/
def xI : Type := Int × List (List Int × List (Int × Int × List Int) × Int) × List Int × Option (xv 6)
/-- a text as it is read -/
def xe (T : List Int) : Nat → Int := ye T.length (fun j => T.getD j 0)
/-- cells that stay as they are: R says what a cell is for, 0 is nothing special -/
def yPz (B : Nat) (R : Nat → Nat) (y : Nat) : Prop := y < 64 ∨ (194 ≤ y ∧ y < B ∧ R y = 0)
def yIN (A : xb_H) (R : Nat → Nat) (xa : Nat × Nat × Nat) (i : Nat) (I : xI) : Prop := yin A (yPz A.1 R) xa.1 xa.2.1 xa.2.2 I.1 I.2.1 I.2.2.1 I.2.2.2 ∧ (194 ≤ xa.1 ∧ 194 ≤ xa.2.1 ∧ 194 ≤ xa.2.2) ∧ R xa.1 = 40 + 3 * i ∧ R xa.2.1 = 41 + 3 * i ∧ R xa.2.2 = 42 + 3 * i
/-- the desk: T the text, ins the interactions, hd the handlers, ev the events, ms the mismatches found last -/
def yDK (A : xb_H) (R : Nat → Nat) (v nv : Nat) (vv : Nat → Nat) (xa : Nat → Nat × Nat × Nat) (ir : Value) (l : List Int) (T : List Int) (ins : List xI) (hd : Nat → Int) (ev : List Int) (ms : List (Int × List Int)) : Prop :=
  (194 ≤ A.1 ∧ (∀ y, A.1 ≤ y → R y = 0) ∧ yk1 A) ∧ xb_get A 64 = some (yd (ins.length : Int)) ∧ (ybl A 65 v nv T ∧ (v = 66 ∨ 194 ≤ v) ∧ R v = 1 ∧ T.length ≤ 100 ∧ ∀ c ∈ T, 32 ≤ c ∧ c ≤ 126) ∧ ((∃ ia : Nat → Option Nat, xb_get A 67 = some (.inl (.object "ContractDesk$Interaction", 4, .inr (.inr ia))) ∧ ∀ i : Nat, i < ins.length → ia i = some (xa i).1) ∧ ins.length ≤ 4) ∧ (∀ (i : Nat) (I : xI), ins[i]? = some I → yIN A R (xa i) i I) ∧ yse A hd ev ∧ ycs A 194 (fun _ => False) vv ir ms l ∧ (∀ k : Nat, k < 30 → R (vv k) = 2 + k)
/-- the script and the reference stay; what is taken -/
def yKE (A A' : xb_H) (p q : Nat) : Prop := (A.1 ≤ A'.1 ∧ A'.1 ≤ A.1 + p) ∧ (A.2.1 ≤ A'.2.1 ∧ A'.2.1 ≤ A.2.1 + q) ∧ ∀ y o, y < 64 ∨ (165 ≤ y ∧ y < 194) → xb_get A y = some o → xb_get A' y = some o
theorem yKE_fr {A A' : xb_H} {M : List Nat} {p q : Nat} (h : yfr A A' M p q) (hM : ∀ y ∈ M, (64 ≤ y ∧ y < 165) ∨ 194 ≤ y) : yKE A A' p q := by
  refine ⟨h.1, h.2.1, fun y o hy hg => yfr_get h hg (fun hm => ?_)⟩
  have := hM y hm
  omega
theorem yKE_trans {A B C : xb_H} {p q p' q' : Nat} (h1 : yKE A B p q) (h2 : yKE B C p' q') : yKE A C (p + p') (q + q') := by
  obtain ⟨a1, a2, a3⟩ := h1
  obtain ⟨b1, b2, b3⟩ := h2
  exact ⟨by omega, by omega, fun y o hy hg => b3 y o hy (a3 y o hy hg)⟩
theorem yKE_mono {A B : xb_H} {p q p' q' : Nat} (h : yKE A B p q) (hp : p ≤ p') (hq : q ≤ q') : yKE A B p' q' := by
  obtain ⟨a1, a2, a3⟩ := h
  exact ⟨by omega, by omega, a3⟩
theorem yfr_thr (A : xb_H) : yfr A (xb_thr A) [] 1 6 := by
  refine ⟨⟨Nat.le_succ _, Nat.le_refl _⟩, ⟨Nat.le_add_right _ _, Nat.le_refl _⟩, fun x hx _ => ?_⟩
  unfold xb_get xb_thr
  rw [if_pos (show x < A.1 + 1 by omega), if_pos hx]
  show (if x = A.1 then none else A.2.2 x) = A.2.2 x
  rw [if_neg (by omega)]
theorem yin_mono {A : xb_H} {P P' : Nat → Prop} {x rr sr : Nat} {st : Int} {rs : List (List Int × List (Int × Int × List Int) × Int)} {ns : List Int} {ex : Option (xv 6)} (h : yin A P x rr sr st rs ns ex) (hk : ∀ y, P y → P' y) : yin A P' x rr sr st rs ns ex := by
  obtain ⟨fr, fs, ev, hx, hrr, hsr, hl, hns, hrs, hex, hex0, hz⟩ := h
  refine ⟨fr, fs, ev, hx, hrr, hsr, hl, hns, fun j r hr => ?_, fun t ht => ?_, hex0, hz⟩
  · obtain ⟨ru, e1, e2⟩ := hrs j r hr
    exact ⟨ru, e1, yru_mono e2 hk⟩
  · obtain ⟨a, e1, e2, e3⟩ := hex t ht
    exact ⟨a, e1, yt_mono 6 P P' hk a 0 t e2, e3⟩
theorem yPz_mono {B B' : Nat} {R : Nat → Nat} (h : B ≤ B') : ∀ y, yPz B R y → yPz B' R y := by
  intro y hy
  unfold yPz at *
  omega
theorem yse_fr {A A' : xb_H} {hd : Nat → Int} {ev : List Int} {M : List Nat} {p q : Nat} (h : yse A hd ev) (hf : yfr A A' M p q) (hM : ∀ y ∈ M, ¬ (68 ≤ y ∧ y ≤ 70)) : yse A' hd ev := by
  obtain ⟨h1, h2, ⟨e, h3, h4⟩, h5⟩ := h
  exact ⟨yfr_get hf h1 (fun hm => hM _ hm (by omega)), yfr_get hf h2 (fun hm => hM _ hm (by omega)), ⟨e, yfr_get hf h3 (fun hm => hM _ hm (by omega)), h4⟩, h5⟩
theorem ycs_fr {A A' : xb_H} {B : Nat} {P : Nat → Prop} {vv : Nat → Nat} {ir : Value} {ms : List (Int × List Int)} {l : List Int} {M : List Nat} {p q : Nat} (h : ycs A B P vv ir ms l) (hf : yfr A A' M p q) (hM : ∀ y ∈ M, 64 ≤ y ∧ ¬ (71 ≤ y ∧ y < 165) ∧ ∀ k : Nat, k < 30 → ¬ y = vv k) : ycs A' B P vv ir ms l := by
  obtain ⟨h1, h2, h3, h4, h5, h6⟩ := h
  have n1 := hf.1
  have hM2 : ∀ y, 71 ≤ y ∧ y < 165 → ¬ y ∈ M := fun y hy hm => (hM y hm).2.1 hy
  exact ⟨by omega, yfr_get hf h2 (hM2 71 (by omega)), ypa_fr h3 hf (hM2 72 (by omega)) (hM2 73 (by omega)), yml_fr h4 hf (fun y hy => ⟨fun e => (hM y hy).2.1 (by omega), (hM y hy).2.2⟩), yk2_fr h5 hf (fun y hy => (hM y hy).1), yk3_fr h6 hf (fun y hy => (hM y hy).1)⟩
section DK
variable {A A' : xb_H} {R : Nat → Nat} {v nv : Nat} {vv : Nat → Nat} {xa : Nat → Nat × Nat × Nat} {ir : Value} {l T : List Int} {ins : List xI} {hd : Nat → Int} {ev : List Int} {ms : List (Int × List Int)} {M : List Nat} {p q : Nat}
/-- an interaction stays where none of its cells is touched -/
theorem yIN_fr {x3 : Nat × Nat × Nat} {i : Nat} {I : xI} (h : yIN A R x3 i I) (hf : yfr A A' M p q) (hM : ∀ y ∈ M, 64 ≤ y ∧ ¬ (194 ≤ y ∧ y < A.1 ∧ R y = 0) ∧ (y < 194 ∨ ¬ (R y = 40 + 3 * i ∨ R y = 41 + 3 * i ∨ R y = 42 + 3 * i))) : yIN A' R x3 i I := by
  obtain ⟨h1, h2, h3, h4, h5⟩ := h
  refine ⟨yin_mono (yin_fr h1 hf (fun y hy => ?_)) (yPz_mono hf.1.1), h2, h3, h4, h5⟩
  obtain ⟨a1, a2, a3⟩ := hM y hy
  refine ⟨fun hp => ?_, fun e => ?_, fun e => ?_, fun e => ?_⟩
  · rcases hp with hp | hp
    · omega
    · exact a2 hp
  · rw [e] at a3; omega
  · rw [e] at a3; omega
  · rw [e] at a3; omega
/-- the text is taken -/
theorem yDK_take (h : yDK A R v nv vv xa ir l T ins hd ev ms) (hf : yfr A A' [65] p q) (hb : ybl A' 65 v nv []) : yDK A' R v nv vv xa ir l [] ins hd ev ms := by
  obtain ⟨⟨a1, a2, a3⟩, h64, ⟨b1, b2, b3, b4, b5⟩, ⟨⟨ia, c1, c2⟩, c3⟩, hin, hse, hcs, hvv⟩ := h
  have n1 := hf.1
  refine ⟨⟨by omega, fun y hy => a2 y (by omega), yk1_fr a3 hf (fun y hy => by rw [List.mem_singleton] at hy; omega)⟩, yfr_get hf h64 (by decide), ⟨hb, b2, b3, Nat.zero_le _, fun c hc => absurd hc List.not_mem_nil⟩, ⟨⟨ia, yfr_get hf c1 (by decide), c2⟩, c3⟩, fun i I hI => yIN_fr (hin i I hI) hf (fun y hy => ?_), yse_fr hse hf (fun y hy => by rw [List.mem_singleton] at hy; omega), ycs_fr hcs hf (fun y hy => ?_), hvv⟩
  · rw [List.mem_singleton] at hy
    omega
  · rw [List.mem_singleton] at hy
    refine ⟨by omega, by omega, fun k hk e => ?_⟩
    have := (hcs.2.2.2.1.2.2.1 k hk).2
    omega
/-- new cells alone -/
theorem yDK_new (h : yDK A R v nv vv xa ir l T ins hd ev ms) (hf : yfr A A' [] p q) : yDK A' R v nv vv xa ir l T ins hd ev ms := by
  obtain ⟨⟨a1, a2, a3⟩, h64, ⟨b1, b2, b3, b4, b5⟩, ⟨⟨ia, c1, c2⟩, c3⟩, hin, hse, hcs, hvv⟩ := h
  have n1 := hf.1
  exact ⟨⟨by omega, fun y hy => a2 y (by omega), yk1_fr a3 hf (fun y hy => absurd hy List.not_mem_nil)⟩, yfr_get hf h64 List.not_mem_nil, ⟨ybl_fr b1 hf List.not_mem_nil List.not_mem_nil, b2, b3, b4, b5⟩, ⟨⟨ia, yfr_get hf c1 List.not_mem_nil, c2⟩, c3⟩, fun i I hI => yIN_fr (hin i I hI) hf (fun y hy => absurd hy List.not_mem_nil), yse_fr hse hf (fun y hy => absurd hy List.not_mem_nil), ycs_fr hcs hf (fun y hy => absurd hy List.not_mem_nil), hvv⟩
/-- the interaction i is changed to I', its cells are M -/
theorem yDK_set {i : Nat} {I I' : xI} (h : yDK A R v nv vv xa ir l T ins hd ev ms) (hi : ins[i]? = some I) (hf : yfr A A' M p q) (hM : ∀ y ∈ M, y = (xa i).1 ∨ y = (xa i).2.1 ∨ y = (xa i).2.2) (hI : yin A' (yPz A'.1 R) (xa i).1 (xa i).2.1 (xa i).2.2 I'.1 I'.2.1 I'.2.2.1 I'.2.2.2) : yDK A' R v nv vv xa ir l T (ins.set i I') hd ev ms := by
  obtain ⟨⟨a1, a2, a3⟩, h64, ⟨b1, b2, b3, b4, b5⟩, ⟨⟨ia, c1, c2⟩, c3⟩, hin, hse, hcs, hvv⟩ := h
  have n1 := hf.1
  have hIi := hin i I hi
  obtain ⟨-, d2, d3, d4, d5⟩ := id hIi
  have hil := (List.getElem?_eq_some_iff.mp hi).1
  have hMr : ∀ y ∈ M, 194 ≤ y ∧ (R y = 40 + 3 * i ∨ R y = 41 + 3 * i ∨ R y = 42 + 3 * i) := by
    intro y hy
    rcases hM y hy with rfl | rfl | rfl
    · omega
    · omega
    · omega
  refine ⟨⟨by omega, fun y hy => a2 y (by omega), yk1_fr a3 hf (fun y hy => by have := hMr y hy; omega)⟩, ?_, ⟨ybl_fr b1 hf (fun hm => by have := hMr _ hm; omega) (fun hm => by have := hMr _ hm; omega), b2, b3, b4, b5⟩, ⟨⟨ia, yfr_get hf c1 (fun hm => by have := hMr _ hm; omega), ?_⟩, ?_⟩, fun j J hJ => ?_, yse_fr hse hf (fun y hy => by have := hMr _ hy; omega), ycs_fr hcs hf (fun y hy => ?_), hvv⟩
  · rw [List.length_set]; exact yfr_get hf h64 (fun hm => by have := hMr _ hm; omega)
  · rw [List.length_set]; exact c2
  · rw [List.length_set]; exact c3
  · by_cases e : j = i
    · rw [e] at hJ ⊢
      rw [List.getElem?_set_self hil] at hJ
      cases hJ
      exact ⟨hI, d2, d3, d4, d5⟩
    · rw [List.getElem?_set_ne (fun h => e h.symm)] at hJ
      refine yIN_fr (hin j J hJ) hf (fun y hy => ?_)
      have := hMr y hy
      omega
  · have := hMr y hy
    refine ⟨by omega, by omega, fun k hk e => ?_⟩
    have := hvv k hk
    rw [← e] at this
    omega
end DK
/-! The desk's methods: find, body, rule, select -/
section DM
variable {w : Value} {d : Nat} {A A1 A2 : xb_H} {R : Nat → Nat} {v nv : Nat} {vv : Nat → Nat} {xa : Nat → Nat × Nat × Nat} {ir : Value} {l T : List Int} {ins : List xI} {hd : Nat → Int} {ev : List Int} {ms : List (Int × List Int)} {k : Int}
theorem md_39 (h : yDK A R v nv vv xa ir l T ins hd ev ms) {i : Nat} (hi : i < ins.length) : xr_ok (xt_G w) d 39 0 [(0, .ref 64), (1, .int (Int32.ofInt (i : Int)))] [] A (fun o A' => ∃ v0, o = .inl v0 ∧ v0 = some (.ref (xa i).1) ∧ A' = A) := by
  obtain ⟨-, h64, -, ⟨⟨ia, c1, c2⟩, c3⟩, -⟩ := h
  refine xr_steps (pc' := 1) (L' := [(0, .ref 64), (1, .int (Int32.ofInt (i : Int)))]) (st' := [.int (Int32.ofInt (i : Int))]) 1 rfl ?_
  refine xr_if_lt rfl (by omega) (fun h => absurd h (by omega)) (fun _ => ?_)
  refine xr_steps (pc' := 6) (L' := [(0, .ref 64), (1, .int (Int32.ofInt (i : Int)))]) (st' := [.ref 64, .int (Int32.ofInt (i : Int))]) 2 rfl ?_
  refine xr_getf (v := .int (Int32.ofInt (ins.length : Int))) rfl h64 rfl ?_
  refine xr_icmp_ge rfl (by omega) (by omega) (fun h => absurd h (by omega)) (fun _ => ?_)
  refine xr_steps (pc' := 13) (L' := [(0, .ref 64), (1, .int (Int32.ofInt (i : Int)))]) (st' := [.ref 64]) 1 rfl ?_
  refine xr_getf (v := .ref 67) rfl h64 rfl ?_
  refine xr_steps (pc' := 17) (L' := [(0, .ref 64), (1, .int (Int32.ofInt (i : Int)))]) (st' := [.int (Int32.ofInt (i : Int)), .ref 67]) 1 rfl ?_
  refine xr_aaload (v := .ref (xa i).1) rfl c1 (by omega) (by omega) (by omega) (by rw [Int.toNat_natCast, c2 i hi]; rfl) ?_
  refine xr_steps (pc' := 22) (L' := [(0, .ref 64), (1, .int (Int32.ofInt (i : Int)))]) (st' := [.ref (xa i).1]) 1 rfl ?_
  exact xr_retR rfl rfl ⟨_, rfl, rfl, rfl⟩
/-- find, either way -/
theorem md_find (h : yDK A R v nv vv xa ir l T ins hd ev ms) (hk : -2147483648 ≤ k ∧ k ≤ 2147483647) : xr_ok (xt_G w) d 39 0 [(0, .ref 64), (1, .int (Int32.ofInt k))] [] A (fun o A' => ∃ v0, o = .inl v0 ∧ ((∃ (i : Nat) (I : xI), k = (i : Int) ∧ ins[i]? = some I ∧ v0 = some (.ref (xa i).1) ∧ A' = A) ∨ (¬ (0 ≤ k ∧ k < (ins.length : Int)) ∧ v0 = some .null ∧ A' = A))) := by
  by_cases hr : 0 ≤ k ∧ k < (ins.length : Int)
  · obtain ⟨i, rfl⟩ : ∃ i : Nat, k = (i : Int) := ⟨k.toNat, by omega⟩
    refine xr_conseq (md_39 h (show i < ins.length by omega)) ?_
    rintro o A' ⟨v0, e1, e2, e3⟩
    exact ⟨v0, e1, Or.inl ⟨i, _, rfl, List.getElem?_eq_getElem (by omega), e2, e3⟩⟩
  · have := h.2.2.2.1.2
    refine xr_conseq (mc_39a h.2.1 hk (by omega) hr) ?_
    rintro o A' ⟨v0, e1, e2, e3⟩
    exact ⟨v0, e1, Or.inr ⟨hr, e2, e3⟩⟩
theorem md_46 (h : yDK A R v nv vv xa ir l T ins hd ev ms) : xr_ok (xt_G w) (d + 1 + 1 + 1 + 1 + 1 + 1) 46 0 [(0, .ref 64)] [] A (fun o A' => ∃ v0, o = .inl v0 ∧ ∃ g : Nat → Int, v0 = some (.ref A.1) ∧ ycu A' A.1 (A.1 + 1) (A.1 + 1 + 1) T.length g 0 ∧ ye T.length g = xe T ∧ ybl A' 65 v nv [] ∧ yfr A A' [65] 3 (6 + T.length) ∧ A'.1 = A.1 + 3) := by
  obtain ⟨-, h64, ⟨⟨m, f, b1, b2⟩, b3, b4, b5, b6⟩, -⟩ := h
  refine xr_conseq (mk_46 h64 b1 b5 (by omega)) ?_
  rintro o A' ⟨v0, e1, g, m', e2, e3, e4, e5, e6, e7⟩
  refine ⟨v0, e1, g, e2, e3, ?_, ⟨m', f, e5, fun j hj => absurd hj (Nat.not_lt_zero _)⟩, e6, e7⟩
  funext j
  unfold xe ye
  by_cases hj : j < T.length
  · rw [if_pos hj, if_pos hj, e4 j hj, b2 j hj]
  · rw [if_neg hj, if_neg hj]
theorem yDK_rd {p q p' : Nat} {g : Nat → Int} (h : yDK A R v nv vv xa ir l T ins hd ev ms) (hb : ybl A1 65 v nv []) (hf : yfr A A1 [65] 3 (6 + T.length)) (hn : A1.1 = A.1 + 3) (hm : yfr A1 A2 [A.1] p q) : yDK A2 R v nv vv xa ir l [] ins hd ev ms ∧ yfr A A2 [65] (p + 3) (q + 106) ∧ ybl A2 65 v nv [] := by
  have hA := h.1.1
  have hT := h.2.2.1.2.2.2.1
  have hv := h.2.2.1.1
  have hl := ybl_lt hv
  have f2 : yfr A A2 [65] (p + 3) (q + 106) := yfr_mono (yfr_trans hf hm (fun z hz => Or.inr (by rw [List.mem_singleton] at hz; omega))) (fun z hz => Or.inl hz) (by omega) (by omega)
  have b2 := ybl_fr hb hm (by rw [List.mem_singleton]; omega) (by rw [List.mem_singleton]; omega)
  exact ⟨yDK_take h f2 b2, f2, b2⟩
theorem yP_z (h : yDK A R v nv vv xa ir l T ins hd ev ms) (hn : A1.1 = A.1 + 3) (hm : A1.1 ≤ A2.1) : ∀ y, yP A1.1 A2.1 (A.1 + 1) (A.1 + 1 + 1) y → yPz A2.1 R y := by
  intro y hy
  have hA := h.1.1
  have hR := h.1.2.1 y
  unfold yP at hy
  unfold yPz
  by_cases h64 : y < 64
  · exact Or.inl h64
  · exact Or.inr ⟨by omega, by omega, hR (by omega)⟩
/-- a value is read -/
theorem yDK_val {g : Nat → Int} {v0 : Option Value} (h : yDK A R v nv vv xa ir l T ins hd ev ms) (he : ye T.length g = xe T) (hb : ybl A1 65 v nv []) (hf : yfr A A1 [65] 3 (6 + T.length)) (hn : A1.1 = A.1 + 3) (hr : yrd A1 A2 A.1 (A.1 + 1) (A.1 + 1 + 1) T.length g 0 v0) : yDK A2 R v nv vv xa ir l [] ins hd ev ms ∧ yfr A A2 [65] 912 11216 ∧ ((∃ (a : Nat) (t : xv 6), v0 = some (.ref a) ∧ xpv (xe T) 6 0 = some (t, T.length) ∧ yt A2 (yPz A2.1 R) 6 a 0 t ∧ xwf 6 t) ∨ (v0 = some .null ∧ ¬ ∃ t : xv 6, xpv (xe T) 6 0 = some (t, T.length))) := by
  obtain ⟨⟨p', m⟩, hc⟩ := hr
  have hp' := m.1.2.2
  have hT := h.2.2.1.2.2.2.1
  have f2 : yfr A1 A2 [A.1] 909 11110 := yfr_mono m.2 (fun z hz => Or.inl hz) (by omega) (by omega)
  obtain ⟨d1, d2, -⟩ := yDK_rd (p' := 0) (g := g) h hb hf hn f2
  refine ⟨d1, yfr_mono d2 (fun z hz => Or.inl hz) (by omega) (by omega), ?_⟩
  rw [he] at hc
  rcases hc with ⟨a, t, e1, e2, e3, e4⟩ | ⟨e1, e2⟩
  · exact Or.inl ⟨a, t, e1, e2, yt_mono 6 _ _ (yP_z h hn f2.1.1) a 0 t e3, xpv_wf hT e2⟩
  · exact Or.inr ⟨e1, e2⟩
/-- what body answers -/
def xBD (T : List Int) (ins : List xI) (k : Int) (o : xb_R) (ins' : List xI) : Prop := (¬ (0 ≤ k ∧ k < (ins.length : Int) ∧ ∃ t : xv 6, xpv (xe T) 6 0 = some (t, T.length)) ∧ o = .inr 1 ∧ ins' = ins) ∨ ∃ (i : Nat) (I : xI) (t : xv 6), k = (i : Int) ∧ ins[i]? = some I ∧ xpv (xe T) 6 0 = some (t, T.length) ∧ ((I.2.2.2 = none ∧ o = .inl (some (.int (Int32.ofInt (xsz 6 t : Nat)))) ∧ ins' = ins.set i (I.1, I.2.1, I.2.2.1, some t)) ∨ ∃ u : xv 6, I.2.2.2 = some u ∧ ((xeq 6 u t ∧ o = .inl (some (.int (Int32.ofInt (xsz 6 t : Nat)))) ∧ ins' = ins) ∨ (¬ xeq 6 u t ∧ o = .inr 0 ∧ ins' = ins)))
theorem md_109t (hw : w = .null ∨ w = .ref 19) {i a : Nat} {I : xI} {t : xv 6} (h : yDK A R v nv vv xa ir l T ins hd ev ms) (hI : ins[i]? = some I) (ht : xpv (xe T) 6 0 = some (t, T.length)) (hD : yDK A2 R v nv vv xa ir l [] ins hd ev ms) (hF : yfr A A2 [65] 912 11216) (hyt : yt A2 (yPz A2.1 R) 6 a 0 t) (hwt : xwf 6 t) : xr_ok (xt_G w) (d + 30) 109 30 [(3, .ref a), (2, .ref (xa i).1), (0, .ref 64), (1, .int (Int32.ofInt (i : Int)))] [] A2 (fun o A' => ∃ ins', xBD T ins (i : Int) o ins' ∧ yDK A' R v nv vv xa ir l [] ins' hd ev ms ∧ yKE A A' 930 11300) := by
  have hE : yKE A A2 912 11216 := yKE_fr hF (fun y hy => by rw [List.mem_singleton] at hy; omega)
  obtain ⟨hin, hz, hR1, hR2, hR3⟩ := hD.2.2.2.2.1 i I hI
  have hxc := hin.choose_spec.choose_spec.choose_spec.1
  obtain ⟨sa, va, la, ed, cap, f, as, q1, q2, q3, q4, q5, q6⟩ := yt_part hyt
  refine xr_steps (pc' := 32) (L' := [(3, .ref a), (2, .ref (xa i).1), (0, .ref 64), (1, .int (Int32.ofInt (i : Int)))]) (st' := [.ref a, .ref (xa i).1]) 2 rfl ?_
  cases hex : I.2.2.2 with
  | none =>
    have hPx : ¬ yPz A2.1 R (xa i).1 := by
      intro hp
      unfold yPz at hp
      omega
    refine xr_call (q := (.invokevirtual 75, 3, 144, 2)) (av := [.ref (xa i).1, .ref a]) (rest := []) rfl rfl (by decide) rfl (xr_rcv rfl hxc) (Nat.le_of_ble_eq_true rfl) (mi_144n hin hex hPx hyt hwt) ?_
    rintro _ A3 ⟨rfl, hin3, fr3, n3⟩
    refine xr_if_ne rfl (by omega) (fun _ => ?_) (fun h => absurd h (by omega))
    have hax : ¬ a = (xa i).1 := fun e => by rw [e, hxc] at q1; cases q1
    refine xr_steps (pc' := 47) (L' := [(3, .ref a), (2, .ref (xa i).1), (0, .ref 64), (1, .int (Int32.ofInt (i : Int)))]) (st' := [.ref a]) 1 rfl ?_
    refine xr_call (q := (.invokevirtual 79, 3, 151, 1)) (av := [.ref a]) (rest := []) rfl rfl (by decide) rfl (xr_rcv rfl (yfr_get fr3 q1 (by rw [List.mem_singleton]; exact hax))) (Nat.le_of_ble_eq_true rfl) (mv_151 (yfr_get fr3 q1 (by rw [List.mem_singleton]; exact hax))) ?_
    rintro _ _ ⟨rfl, eA⟩
    rw [eA]
    clear eA
    have hset := yDK_set (I' := (I.1, I.2.1, I.2.2.1, some t)) hD hI fr3 (fun y hy => by rw [List.mem_singleton] at hy; exact Or.inl hy) (yin_mono hin3 (yPz_mono (by omega)))
    exact xr_retI2 rfl rfl ⟨_, Or.inr ⟨i, I, t, rfl, hI, ht, Or.inl ⟨hex, rfl, rfl⟩⟩, hset, yKE_mono (yKE_trans hE (yKE_fr fr3 (fun y hy => by rw [List.mem_singleton] at hy; omega))) (by omega) (by omega)⟩
  | some u =>
    refine xr_call (q := (.invokevirtual 75, 3, 144, 2)) (av := [.ref (xa i).1, .ref a]) (rest := []) rfl rfl (by decide) rfl (xr_rcv rfl hxc) (Nat.le_of_ble_eq_true rfl) (mi_144 hin hD.2.2.2.2.2.2.1.2.2.2.2.1 hex hyt hwt) ?_
    rintro _ _ ⟨bb, ⟨rfl, eA⟩, hb⟩
    rw [eA]
    clear eA
    refine xr_if_ne rfl (by omega) (fun hbn => ?_) (fun hbn => ?_)
    · refine xr_steps (pc' := 47) (L' := [(3, .ref a), (2, .ref (xa i).1), (0, .ref 64), (1, .int (Int32.ofInt (i : Int)))]) (st' := [.ref a]) 1 rfl ?_
      refine xr_call (q := (.invokevirtual 79, 3, 151, 1)) (av := [.ref a]) (rest := []) rfl rfl (by decide) rfl (xr_rcv rfl q1) (Nat.le_of_ble_eq_true rfl) (mv_151 q1) ?_
      rintro _ _ ⟨rfl, eA⟩
      rw [eA]
      clear eA
      have hq : xeq 6 u t := by
        rcases hb with hb | hb
        · exact hb.2
        · omega
      exact xr_retI2 rfl rfl ⟨_, Or.inr ⟨i, I, t, rfl, hI, ht, Or.inr ⟨u, hex, Or.inl ⟨hq, rfl, rfl⟩⟩⟩, hD, yKE_mono hE (by omega) (by omega)⟩
    · have hq : ¬ xeq 6 u t := by
        rcases hb with hb | hb
        · omega
        · exact hb.2
      exact xr_throw rfl (by omega) ⟨_, Or.inr ⟨i, I, t, rfl, hI, ht, Or.inr ⟨u, hex, Or.inr ⟨hq, rfl, rfl⟩⟩⟩, yDK_new hD (yfr_thr A2), yKE_mono (yKE_trans hE (yKE_fr (yfr_thr A2) (fun y hy => absurd hy List.not_mem_nil))) (by omega) (by omega)⟩
theorem md_109 (hw : w = .null ∨ w = .ref 19) (h : yDK A R v nv vv xa ir l T ins hd ev ms) (hk : -2147483648 ≤ k ∧ k ≤ 2147483647) : xr_ok (xt_G w) (d + 30) 109 0 [(0, .ref 64), (1, .int (Int32.ofInt k))] [] A (fun o A' => ∃ ins', xBD T ins k o ins' ∧ yDK A' R v nv vv xa ir l [] ins' hd ev ms ∧ yKE A A' 930 11300) := by
  refine xr_steps (pc' := 2) (L' := [(0, .ref 64), (1, .int (Int32.ofInt k))]) (st' := [.int (Int32.ofInt k), .ref 64]) 2 rfl ?_
  refine xr_call (q := (.invokevirtual 58, 3, 39, 2)) (av := [.ref 64, .int (Int32.ofInt k)]) (rest := []) rfl rfl (by decide) rfl (xr_rcv rfl h.2.1) (Nat.le_of_ble_eq_true rfl) (md_find h hk) ?_
  rintro _ _ (⟨i, I, rfl, hI, rfl, eA⟩ | ⟨hno, rfl, eA⟩)
  · rw [eA]
    clear eA
    have hIN := (h.2.2.2.2.1 i I hI)
    refine xr_steps (pc' := 7) (L' := [(2, .ref ((xa i).1)), (0, .ref 64), (1, .int (Int32.ofInt (i : Int)))]) (st' := [.ref 64]) 2 rfl ?_
    refine xr_call (q := (.invokevirtual 62, 3, 46, 1)) (av := [.ref 64]) (rest := []) rfl rfl (by decide) rfl (xr_rcv rfl h.2.1) (Nat.le_of_ble_eq_true rfl) (md_46 h) ?_
    rintro _ A1 ⟨g, rfl, hc, he, hb, hf, hn⟩
    have hk1 := yk1_fr h.1.2.2 hf (fun y hy => by rw [List.mem_singleton] at hy; omega)
    refine xr_call (q := (.invokestatic 66, 3, 110, 1)) (av := [.ref A.1]) (rest := []) rfl rfl (by decide) rfl rfl (Nat.le_of_ble_eq_true rfl) (mv_110 hw hc hk1) ?_
    rintro _ A2 hr
    obtain ⟨hD, hF, hV⟩ := yDK_val h he hb hf hn hr
    rcases hV with ⟨a, t, rfl, ht, hyt, hwt⟩ | ⟨rfl, ht⟩
    · have hIN2 := fun i I hI => (hD.2.2.2.2.1 i I hI)
      refine xr_steps (pc' := 30) (L' := [(3, .ref a), (2, .ref ((xa i).1)), (0, .ref 64), (1, .int (Int32.ofInt (i : Int)))]) (st' := []) 5 rfl ?_
      exact md_109t hw h hI ht hD hF hyt hwt
    · refine xr_steps (pc' := 22) (L' := [(3, .null), (2, .ref ((xa i).1)), (0, .ref 64), (1, .int (Int32.ofInt (i : Int)))]) (st' := []) 5 rfl ?_
      exact xr_throw rfl (by omega) ⟨ins, Or.inl ⟨fun e => ht e.2.2, rfl, rfl⟩, yDK_new hD (yfr_thr A2), yKE_mono (yKE_trans (yKE_fr hF (fun y hy => by rw [List.mem_singleton] at hy; omega)) (yKE_fr (yfr_thr A2) (fun y hy => absurd hy List.not_mem_nil))) (by omega) (by omega)⟩
  · rw [eA]
    clear eA
    refine xr_steps (pc' := 7) (L' := [(2, .null), (0, .ref 64), (1, .int (Int32.ofInt k))]) (st' := [.ref 64]) 2 rfl ?_
    refine xr_call (q := (.invokevirtual 62, 3, 46, 1)) (av := [.ref 64]) (rest := []) rfl rfl (by decide) rfl (xr_rcv rfl h.2.1) (Nat.le_of_ble_eq_true rfl) (md_46 h) ?_
    rintro _ A1 ⟨g, rfl, hc, he, hb, hf, hn⟩
    have hk1 := yk1_fr h.1.2.2 hf (fun y hy => by rw [List.mem_singleton] at hy; omega)
    refine xr_call (q := (.invokestatic 66, 3, 110, 1)) (av := [.ref A.1]) (rest := []) rfl rfl (by decide) rfl rfl (Nat.le_of_ble_eq_true rfl) (mv_110 hw hc hk1) ?_
    rintro _ A2 hr
    obtain ⟨hD, hF, hV⟩ := yDK_val h he hb hf hn hr
    rcases hV with ⟨a, t, rfl, ht, hyt, hwt⟩ | ⟨rfl, ht⟩
    · have hIN2 := fun i I hI => (hD.2.2.2.2.1 i I hI)
      refine xr_steps (pc' := 22) (L' := [(3, .ref a), (2, .null), (0, .ref 64), (1, .int (Int32.ofInt k))]) (st' := []) 3 rfl ?_
      exact xr_throw rfl (by omega) ⟨ins, Or.inl ⟨fun e => hno ⟨e.1, e.2.1⟩, rfl, rfl⟩, yDK_new hD (yfr_thr A2), yKE_mono (yKE_trans (yKE_fr hF (fun y hy => by rw [List.mem_singleton] at hy; omega)) (yKE_fr (yfr_thr A2) (fun y hy => absurd hy List.not_mem_nil))) (by omega) (by omega)⟩
    · refine xr_steps (pc' := 22) (L' := [(3, .null), (2, .null), (0, .ref 64), (1, .int (Int32.ofInt k))]) (st' := []) 3 rfl ?_
      exact xr_throw rfl (by omega) ⟨ins, Or.inl ⟨fun e => hno ⟨e.1, e.2.1⟩, rfl, rfl⟩, yDK_new hD (yfr_thr A2), yKE_mono (yKE_trans (yKE_fr hF (fun y hy => by rw [List.mem_singleton] at hy; omega)) (yKE_fr (yfr_thr A2) (fun y hy => absurd hy List.not_mem_nil))) (by omega) (by omega)⟩
end DM
