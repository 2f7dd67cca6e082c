/-! Values as trees, of n levels at most; how they lie in the heap; how they are read from a text -/
def xv : Nat → Type
  | 0 => Unit
  | n + 1 => Nat × List Int × List (Int × xv n)
def xv_k {n : Nat} (t : xv (n + 1)) : Nat := Prod.fst (show Nat × List Int × List (Int × xv n) from t)
def xv_l {n : Nat} (t : xv (n + 1)) : List Int := Prod.fst (Prod.snd (show Nat × List Int × List (Int × xv n) from t))
def xv_p {n : Nat} (t : xv (n + 1)) : List (Int × xv n) := Prod.snd (Prod.snd (show Nat × List Int × List (Int × xv n) from t))
def xv_m {n : Nat} (k : Nat) (l : List Int) (p : List (Int × xv n)) : xv (n + 1) := (show Nat × List Int × List (Int × xv n) from (k, l, p))
/-- how many values -/
def xsz : (n : Nat) → xv n → Nat
  | 0, _ => 0
  | n + 1, t => 1 + ((xv_p t).map fun p => xsz n p.2).sum
/-- a tree in the heap: its object a with a key k, all its cells in P, those of its parts apart from its own -/
def yt0 (A : xb_H) : (n : Nat) → (Nat → Prop) → Nat → Int → xv n → Prop
  | 0, _, _, _, _ => False
  | n + 1, P, a, k, t => ∃ (sa v la ed cap : Nat) (f : Nat → Int) (as : List Nat), xb_get A a = some (.inr (9, [.ref (xv_k t), .ref sa, .ref la, .int (Int32.ofInt k), .int (Int32.ofInt (xsz (n + 1) t : Nat))])) ∧ ys A sa v (xv_l t).length f ∧ (∀ j : Nat, j < (xv_l t).length → f j = (xv_l t).getD j 0) ∧ yal A la ed cap as ∧ as.length = (xv_p t).length ∧ (P a ∧ P sa ∧ P v ∧ P la ∧ P ed) ∧ ∀ (i a' : Nat) (p : Int × xv n), as[i]? = some a' → (xv_p t)[i]? = some p → yt0 A n (fun y => P y ∧ ¬ y = a) a' p.1 p.2
def yt (A : xb_H) (P : Nat → Prop) (n a : Nat) (k : Int) (t : xv n) : Prop := yt0 A n P a k t
/-- as long as its cells stay -/
theorem yt_keep {A A' : xb_H} : ∀ (n : Nat) (P : Nat → Prop) (_ : ∀ x o, P x → xb_get A x = some o → xb_get A' x = some o) (a : Nat) (k : Int) (t : xv n), yt A P n a k t → yt A' P n a k t := by
  intro n
  induction n with
  | zero => intro P h a k t h1; exact h1
  | succ n ih =>
    intro P h a k t h1
    obtain ⟨sa, v, la, ed, cap, f, as, q1, ⟨⟨fs, s1, s2, s3⟩, s4, s5⟩, q3, ⟨mc, g, l1, l2, l3⟩, q5, ⟨p1, p2, p3, p4, p5⟩, q7⟩ := h1
    exact ⟨sa, v, la, ed, cap, f, as, h _ _ p1 q1, ⟨⟨fs, h _ _ p2 s1, s2, s3⟩, h _ _ p3 s4, s5⟩, q3, ⟨mc, g, h _ _ p4 l1, h _ _ p5 l2, l3⟩, q5, ⟨p1, p2, p3, p4, p5⟩, fun i a' p hi hp => ih _ (fun x o hx => h x o hx.1) _ _ _ (q7 i a' p hi hp)⟩
theorem yt_mono {A : xb_H} : ∀ (n : Nat) (P P' : Nat → Prop) (_ : ∀ x, P x → P' x) (a : Nat) (k : Int) (t : xv n), yt A P n a k t → yt A P' n a k t := by
  intro n
  induction n with
  | zero => intro P P' h a k t h1; exact h1
  | succ n ih =>
    intro P P' h a k t h1
    obtain ⟨sa, v, la, ed, cap, f, as, q1, q2, q3, q4, q5, ⟨p1, p2, p3, p4, p5⟩, q7⟩ := h1
    exact ⟨sa, v, la, ed, cap, f, as, q1, q2, q3, q4, q5, ⟨h _ p1, h _ p2, h _ p3, h _ p4, h _ p5⟩, fun i a' p hi hp => ih _ _ (fun x hx => ⟨h x hx.1, hx.2⟩) _ _ _ (q7 i a' p hi hp)⟩
/-- its key may be set -/
theorem yt_key {A : xb_H} {n a : Nat} {P : Nat → Prop} {k k' : Int} {t : xv (n + 1)} (h : yt A P (n + 1) a k t) : ∃ (sa la : Nat), xb_get A a = some (.inr (9, [.ref (xv_k t), .ref sa, .ref la, .int (Int32.ofInt k), .int (Int32.ofInt (xsz (n + 1) t : Nat))])) ∧ yt (xb_set A a (.inr (9, [.ref (xv_k t), .ref sa, .ref la, .int (Int32.ofInt k'), .int (Int32.ofInt (xsz (n + 1) t : Nat))]))) P (n + 1) a k' t := by
  obtain ⟨sa, v, la, ed, cap, f, as, q1, ⟨⟨fs, s1, s2, s3⟩, s4, s5⟩, q3, ⟨mc, g, l1, l2, l3⟩, q5, q6, q7⟩ := h
  refine ⟨sa, la, q1, sa, v, la, ed, cap, f, as, xb_get_set_same q1, ⟨⟨fs, xb_get_set_ne q1 s1 ?_, s2, s3⟩, xb_get_set_ne q1 s4 ?_, s5⟩, q3, ⟨mc, g, xb_get_set_ne q1 l1 ?_, xb_get_set_ne q1 l2 ?_, l3⟩, q5, q6, fun i a' p hi hp => yt_keep n _ (fun x o hx hg => xb_get_set_ne q1 hg hx.2) _ _ _ (q7 i a' p hi hp)⟩
  · intro e; rw [e, q1] at s1; cases s1
  · intro e; rw [e, q1] at s4; cases s4
  · intro e; rw [e, q1] at l1; cases l1
  · intro e; rw [e, q1] at l2; cases l2
/-- the empty row and the string constants -/
def yk1 (A : xb_H) : Prop := yk0 A ∧ xb_get A 6 = some (.inl (.object "java/lang/Object", 0, .inr (.inr fun _ => none)))
theorem yk1_fr {A A' : xb_H} {M : List Nat} {p q : Nat} (h : yk1 A) (hf : yfr A A' M p q) (hM : ∀ x ∈ M, 64 ≤ x) : yk1 A' :=
  ⟨yk0_fr h.1 hf hM, yfr_get hf h.2 (fun hm => by have := hM _ hm; omega)⟩
/-- a value without parts -/
theorem yt_leaf {A : xb_H} {P : Nat → Prop} {a kd sa v la : Nat} {f : Nat → Int} {ls : List Int} (h1 : xb_get A a = some (.inr (9, [.ref kd, .ref sa, .ref la, .int (Int32.ofInt 0), .int (Int32.ofInt 1)]))) (h2 : ys A sa v ls.length f) (h3 : ∀ j : Nat, j < ls.length → f j = ls.getD j 0) (h4 : xb_get A la = some (.inr (13, [.ref 6, .int (Int32.ofInt 0), .int (Int32.ofInt 0)]))) (h6 : yk1 A) (hz : 64 ≤ la) (hP : P a ∧ P sa ∧ P v ∧ P la ∧ P 6) (n : Nat) : yt A P (n + 1) a 0 (xv_m kd ls []) :=
  ⟨sa, v, la, 6, 0, f, [], h1, h2, h3, ⟨_, _, h4, h6.2, hz, Nat.le_refl _, by omega, Or.inl ⟨rfl, rfl⟩, fun j hj => absurd hj (Nat.not_lt_zero _)⟩, rfl, hP, fun i a' p hi => by cases i <;> cases hi⟩
/-- the cells between lo and hi, the text's own, the constants -/
def yP (lo hi sa v : Nat) (x : Nat) : Prop := (lo ≤ x ∧ x < hi) ∨ x = sa ∨ x = v ∨ x < 64
/-- the characters of a text from p on, k of them -/
def xch (e : Nat → Int) : Nat → Nat → List Int
  | _, 0 => []
  | p, k + 1 => e p :: xch e (p + 1) k
theorem xch_len (e : Nat → Int) : ∀ (k p : Nat), (xch e p k).length = k := by
  intro k
  induction k with
  | zero => intro p; rfl
  | succ k ih => intro p; show (xch e (p + 1) k).length + 1 = k + 1; rw [ih]
theorem xch_get (e : Nat → Int) : ∀ (k p j : Nat), j < k → (xch e p k).getD j 0 = e (p + j) := by
  intro k
  induction k with
  | zero => intro p j hj; omega
  | succ k ih =>
    intro p j hj
    cases j with
    | zero => rfl
    | succ j =>
      show (xch e (p + 1) k).getD j 0 = _
      rw [ih (p + 1) j (by omega)]
      congr 1
      omega
/-- a word stands at p: k letters of g from j on -/
def xwd (e g : Nat → Int) : Nat → Nat → Nat → Prop
  | 0, _, _ => True
  | k + 1, j, p => e p = g j ∧ xwd e g k (j + 1) (p + 1)
theorem mk_wloop {w : Value} {d : Nat} {cu sa v n sw vw lw : Nat} {f g : Nat → Int} {Q : xb_R → xb_H → Prop} (hw : w = .null ∨ w = .ref 19) (hnw : ¬ sw = cu ∧ ¬ vw = cu) (hg : ∀ j : Nat, j < lw → 1 ≤ g j ∧ g j ≤ 127) (hlw : lw ≤ 5) : ∀ (k p j : Nat) (A : xb_H) (_ : ycu A cu sa v n f p) (_ : ys A sw vw lw g), j + k = lw → (∀ (A' : xb_H) (b : Int) (p' : Nat), p ≤ p' → ymv A A' cu sa v n f p' 0 0 → ((b = 1 ∧ xwd (ye n f) g k j p ∧ p' = p + k) ∨ (b = 0 ∧ ¬ xwd (ye n f) g k j p)) → Q (.inl (some (.int (Int32.ofInt b)))) A') → xr_ok (xt_G w) (d + 1 + 1 + 1 + 1 + 1 + 1) 141 2 [(2, .int (Int32.ofInt (j : Int))), (0, .ref cu), (1, .ref sw)] [] A Q := by
  intro k
  induction k with
  | zero =>
    intro p j A hc hs he hQ
    obtain ⟨⟨fs, hs1, -⟩, -⟩ := id hs
    refine xr_steps (pc' := 4) (L' := [(2, .int (Int32.ofInt (j : Int))), (0, .ref cu), (1, .ref sw)]) (st' := [.ref sw, .int (Int32.ofInt (j : Int))]) 2 rfl ?_
    refine xr_call (q := (.invokevirtual 17, 3, 69, 1)) (av := [.ref sw]) (rest := [.int (Int32.ofInt (j : Int))]) rfl rfl (by decide) rfl (xr_rcv rfl hs1) (Nat.le_of_ble_eq_true rfl) (ms_69 hs) ?_
    rintro _ _ ⟨rfl, eA⟩
    rw [eA]
    clear eA
    refine xr_icmp_ge rfl (by omega) (by omega) (fun _ => ?_) (fun h => absurd (show (lw : Int) ≤ (j : Int) by omega) h)
    refine xr_steps (pc' := 31) (L' := [(2, .int (Int32.ofInt (j : Int))), (0, .ref cu), (1, .ref sw)]) (st' := [.int (Int32.ofInt 1)]) 1 rfl ?_
    exact xr_retZ rfl rfl (by omega) (hQ A 1 p (Nat.le_refl _) (ymv_refl hc 0 0) (Or.inl ⟨rfl, trivial, rfl⟩))
  | succ k ih =>
    intro p j A hc hs he hQ
    obtain ⟨⟨fs, hs1, -⟩, -⟩ := id hs
    have h1 := hc.1
    have hgj := hg j (by omega)
    refine xr_steps (pc' := 4) (L' := [(2, .int (Int32.ofInt (j : Int))), (0, .ref cu), (1, .ref sw)]) (st' := [.ref sw, .int (Int32.ofInt (j : Int))]) 2 rfl ?_
    refine xr_call (q := (.invokevirtual 17, 3, 69, 1)) (av := [.ref sw]) (rest := [.int (Int32.ofInt (j : Int))]) rfl rfl (by decide) rfl (xr_rcv rfl hs1) (Nat.le_of_ble_eq_true rfl) (ms_69 hs) ?_
    rintro _ _ ⟨rfl, eA⟩
    rw [eA]
    clear eA
    refine xr_icmp_ge rfl (by omega) (by omega) (fun h => absurd h (by omega)) (fun _ => ?_)
    refine xr_steps (pc' := 13) (L' := [(2, .int (Int32.ofInt (j : Int))), (0, .ref cu), (1, .ref sw)]) (st' := [.int (Int32.ofInt (j : Int)), .ref sw, .ref cu]) 3 rfl ?_
    refine xr_call (q := (.invokevirtual 23, 3, 71, 2)) (av := [.ref sw, .int (Int32.ofInt (j : Int))]) (rest := [.ref cu]) rfl rfl (by decide) rfl (xr_rcv rfl hs1) (Nat.le_of_ble_eq_true rfl) (ms_71 hw hs (by omega)) ?_
    rintro _ _ ⟨rfl, eA⟩
    rw [eA, Int.toNat_natCast]
    clear eA
    obtain ⟨b, hb⟩ := mo_bool (ye n f p = g j)
    refine xr_call (q := (.invokevirtual 31, 3, 67, 2)) (av := [.ref cu, .int (Int32.ofInt (g j))]) (rest := []) rfl rfl (by decide) rfl (xr_rcv rfl h1) (Nat.le_of_ble_eq_true rfl) (mk_acc hw hc hgj hb) ?_
    rintro _ A1 ⟨rfl, hcase⟩
    rcases hcase with ⟨rfl, e1, m1⟩ | ⟨rfl, e1, rfl⟩
    · refine xr_if_ne rfl (by omega) (fun _ => ?_) (fun h => absurd h (by omega))
      refine xr_iinc (L' := [(2, .int (Int32.ofInt ((j : Int) + 1))), (0, .ref cu), (1, .ref sw)]) rfl rfl rfl ?_
      refine xr_steps (pc' := 2) (L' := [(2, .int (Int32.ofInt ((j : Int) + 1))), (0, .ref cu), (1, .ref sw)]) (st' := []) 1 rfl ?_
      have ej : (j : Int) + 1 = ((j + 1 : Nat) : Int) := by omega
      rw [ej]
      refine ih (p + 1) (j + 1) A1 m1.1 (ys_fr hs m1.2 (by rw [List.mem_singleton]; exact hnw.1) (by rw [List.mem_singleton]; exact hnw.2)) (by omega) (fun A' b p' hp' hm hbb => ?_)
      refine hQ A' b p' (by omega) (ymv_trans m1 hm) ?_
      rcases hbb with ⟨rfl, h2, h3⟩ | ⟨rfl, h2⟩
      · exact Or.inl ⟨rfl, ⟨e1, h2⟩, by omega⟩
      · exact Or.inr ⟨rfl, fun h => h2 h.2⟩
    · refine xr_if_ne rfl (by omega) (fun h => absurd rfl h) (fun _ => ?_)
      refine xr_steps (pc' := 23) (L' := [(2, .int (Int32.ofInt (j : Int))), (0, .ref cu), (1, .ref sw)]) (st' := [.int (Int32.ofInt 0)]) 1 rfl ?_
      exact xr_retZ rfl rfl (by omega) (hQ A1 0 p (Nat.le_refl _) (ymv_refl hc 0 0) (Or.inr ⟨rfl, fun h => e1 h.1⟩))
theorem mk_141 {w : Value} {d : Nat} {A : xb_H} {cu sa v n p sw vw lw : Nat} {f g : Nat → Int} (hw : w = .null ∨ w = .ref 19) (hc : ycu A cu sa v n f p) (hs : ys A sw vw lw g) (hnw : ¬ sw = cu ∧ ¬ vw = cu) (hg : ∀ j : Nat, j < lw → 1 ≤ g j ∧ g j ≤ 127) (hlw : lw ≤ 5) : xr_ok (xt_G w) (d + 1 + 1 + 1 + 1 + 1 + 1) 141 0 [(0, .ref cu), (1, .ref sw)] [] A (fun o A' => ∃ v0, o = .inl v0 ∧ ∃ (b : Int) (p' : Nat), v0 = some (.int (Int32.ofInt b)) ∧ p ≤ p' ∧ ymv A A' cu sa v n f p' 0 0 ∧ ((b = 1 ∧ xwd (ye n f) g lw 0 p ∧ p' = p + lw) ∨ (b = 0 ∧ ¬ xwd (ye n f) g lw 0 p))) := by
  refine xr_steps (pc' := 2) (L' := [(2, .int (Int32.ofInt ((0 : Nat) : Int))), (0, .ref cu), (1, .ref sw)]) (st' := []) 2 rfl ?_
  exact mk_wloop hw hnw hg hlw lw p 0 A hc hs (by omega) (fun A' b p' h1 h2 h3 => ⟨_, rfl, b, p', rfl, h1, h2, h3⟩)
