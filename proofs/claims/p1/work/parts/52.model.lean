/-! More rows: small ops on numbers -/
theorem xr_u32 {v : Int} (h : 0 ≤ v ∧ v ≤ 2147483647) : (Int32.ofInt v).toUInt32.toNat = v.toNat := by
  obtain ⟨n, rfl⟩ : ∃ n : Nat, v = n := ⟨v.toNat, by omega⟩
  rw [Int32.ofInt_eq_ofNat]
  show (BitVec.ofNat 32 n).toNat = _
  rw [BitVec.toNat_ofNat]
  have : ((n : Int)).toNat = n := Int.toNat_natCast n
  omega
theorem xr_modC {v : Int} (h : 0 ≤ v ∧ v ≤ 65535) : ((Int32.ofInt v).toUInt32 % 65536).toInt32 = Int32.ofInt v := by
  have h1 : (Int32.ofInt v).toUInt32 % 65536 = (Int32.ofInt v).toUInt32 := by
    apply UInt32.toNat_inj.mp
    rw [UInt32.toNat_mod, xr_u32 (by omega)]
    show v.toNat % 65536 = v.toNat
    omega
  rw [h1]
  rfl
theorem xr_narC {v : Int} (h : 0 ≤ v ∧ v ≤ 65535) : vp_nar .char (Int32.ofInt v) = Int32.ofInt v := by
  show (Int32.ofInt v).toUInt32.toUInt16.toUInt32.toInt32 = _
  have h1 : (Int32.ofInt v).toUInt32.toUInt16.toUInt32 = (Int32.ofInt v).toUInt32 := by
    apply UInt32.toNat_inj.mp
    rw [UInt16.toNat_toUInt32, UInt32.toNat_toUInt16, xr_u32 (by omega)]
    omega
  rw [h1]
  rfl
theorem xr_retC {v : Int} (h : 0 ≤ v ∧ v ≤ 65535) : narrow .char (.int (Int32.ofInt v)) = .int (Int32.ofInt v) := by
  have e := xr_narC h
  show Value.int ((Int32.ofInt v).toUInt32.toUInt16.toUInt32.toInt32) = _
  exact congrArg Value.int e
section XRY
variable {G : xb_G} {d y pc : Nat} {L : xb_L} {st : List Value} {A : xb_H} {Q : xb_R → xb_H → Prop}
theorem xr_iinc {i : Nat} {n x : Int} {L' : xb_L} (hq : xb_gP G y pc = some (.iinc i n, 3, 0, 0)) (hl : xb_ld L i = some (.int (Int32.ofInt x))) (hs : xb_st L i (.int (Int32.ofInt (x + n))) = L') (kk : xr_ok G d y (pc + 3) L' st A Q) : xr_ok G d y pc L st A Q := by
  refine xr_pure (pc' := pc + 3) (L' := L') (st' := st) (A' := A) hq rfl ?_ kk
  show xb_iincx pc i n L A st = _
  unfold xb_iincx
  rw [hl]
  dsimp only
  rw [← Int32.ofInt_add, hs]
theorem xr_iincn {i : Nat} {n x : Int} {L' : xb_L} (hq : xb_gP G y pc = some (.iinc i (-n), 3, 0, 0)) (hl : xb_ld L i = some (.int (Int32.ofInt x))) (hs : xb_st L i (.int (Int32.ofInt (x - n))) = L') (kk : xr_ok G d y (pc + 3) L' st A Q) : xr_ok G d y pc L st A Q :=
  xr_iinc (n := -n) hq hl (by rw [← hs, Int.sub_eq_add_neg]) kk
theorem xr_i2c {v : Int} (hq : xb_gP G y pc = some (.i2c, 1, 0, 0)) (hv : 0 ≤ v ∧ v ≤ 65535) (kk : xr_ok G d y (pc + 1) L (.int (Int32.ofInt v) :: st) A Q) : xr_ok G d y pc L (.int (Int32.ofInt v) :: st) A Q := by
  refine xr_pure hq rfl ?_ kk
  show some (pc + 1, L, .int (((Int32.ofInt v).toUInt32 % 65536).toInt32) :: st, A) = _
  rw [xr_modC hv]
/-- a boolean is returned -/
theorem xr_retZ {v : Int} (hq : xb_gP G y pc = some (.ireturn, 1, 0, 0)) (ht : xb_gR G y = some .boolean) (hv : 0 ≤ v ∧ v ≤ 1) (hQ : Q (.inl (some (.int (Int32.ofInt v)))) A) : xr_ok G d y pc L [.int (Int32.ofInt v)] A Q := by
  refine xr_retB hq ht rfl ?_ hQ
  have e : v = 0 ∨ v = 1 := by omega
  rcases e with rfl | rfl <;> rfl
theorem xr_retI2 {x : Int32} (hq : xb_gP G y pc = some (.ireturn, 1, 0, 0)) (ht : xb_gR G y = some .int) (hQ : Q (.inl (some (.int x))) A) : xr_ok G d y pc L [.int x] A Q := xr_retB hq ht rfl rfl hQ
theorem xr_retCh {v : Int} (hq : xb_gP G y pc = some (.ireturn, 1, 0, 0)) (ht : xb_gR G y = some .char) (hv : 0 ≤ v ∧ v ≤ 65535) (hQ : Q (.inl (some (.int (Int32.ofInt v)))) A) : xr_ok G d y pc L [.int (Int32.ofInt v)] A Q := xr_retB hq ht rfl (xr_retC hv) hQ
/-- nothing is returned -/
theorem xr_retN (hq : xb_gP G y pc = some (.return_, 1, 0, 0)) (ht : xb_gR G y = none) (hQ : Q (.inl none) A) : xr_ok G d y pc L [] A Q := by
  refine xr_retV hq rfl ?_ hQ
  unfold xb_retV
  rw [if_pos ht]
end XRY
/-! The reference as numbers: its int fields s (by their number), its rows t (by their address); its heap is the rest A with its cells laid over it -/
def ym_F (s : Nat → Int) : List Value := [.int (Int32.ofInt (s 0)), .ref 166, .int (Int32.ofInt (s 2)), .int (Int32.ofInt (s 3)), .ref 167, .ref 168, .ref 169, .ref 170, .ref 171, .ref 172, .ref 173, .int (Int32.ofInt (s 11)), .ref 174, .int (Int32.ofInt (s 13)), .ref 175, .ref 176, .ref 177, .ref 178, .ref 179, .int (Int32.ofInt (s 19)), .ref 180, .ref 181, .int (Int32.ofInt (s 22)), .ref 182, .ref 183, .ref 184, .ref 185, .int (Int32.ofInt (s 27)), .ref 186, .ref 187, .ref 188, .ref 189, .ref 190, .ref 191, .ref 192]
/-- type and length of its rows -/
def ym_ty (x : Nat) : FieldType × Nat := match x with
  | 166 => (.char, 3712)
  | 167 => (.boolean, 4)
  | 168 => (.int, 4)
  | 169 => (.int, 4)
  | 170 => (.int, 32)
  | 171 => (.int, 4)
  | 172 => (.int, 12)
  | 173 => (.int, 6)
  | 174 => (.int, 3100)
  | 175 => (.int, 30)
  | 176 => (.int, 30)
  | 177 => (.char, 720)
  | 178 => (.char, 6)
  | 179 => (.int, 6)
  | 180 => (.int, 768)
  | 181 => (.int, 768)
  | 182 => (.int, 256)
  | 183 => (.int, 256)
  | 184 => (.int, 256)
  | 185 => (.int, 256)
  | 186 => (.int, 64)
  | 187 => (.boolean, 9)
  | 188 => (.boolean, 9)
  | 189 => (.char, 8)
  | 190 => (.char, 8)
  | 191 => (.int, 128)
  | 192 => (.int, 128)
  | _ => (.int, 0)
def ym_c (t : Nat → Nat → Int) (x : Nat) : xb_O := .inl ((ym_ty x).1, (ym_ty x).2, .inl fun j => Int32.ofInt (t x j))
def ym (A : xb_H) (s : Nat → Int) (t : Nat → Nat → Int) : xb_H := (A.1, A.2.1, fun x => if x = 165 then some (.inr (10, ym_F s)) else if 166 ≤ x ∧ x < 193 then some (ym_c t x) else A.2.2 x)
section YM
variable {A : xb_H} {s : Nat → Int} {t : Nat → Nat → Int}
theorem ym_165 (hA : 194 ≤ A.1) : xb_get (ym A s t) 165 = some (.inr (10, ym_F s)) := by
  unfold xb_get ym
  rw [if_pos (by show 165 < A.1; omega)]
  rfl
theorem ym_get (hA : 194 ≤ A.1) {x : Nat} (h1 : 166 ≤ x) (h2 : x < 193) : xb_get (ym A s t) x = some (ym_c t x) := by
  unfold xb_get ym
  rw [if_pos (by show x < A.1; omega)]
  show (if x = 165 then _ else _) = _
  rw [if_neg (by omega), if_pos ⟨h1, h2⟩]
theorem ym_get_else {x : Nat} (h : x < 165 ∨ 193 ≤ x) : xb_get (ym A s t) x = xb_get A x := by
  unfold xb_get ym
  have h1 : ¬ x = 165 := by omega
  have h2 : ¬ (166 ≤ x ∧ x < 193) := by omega
  simp only [if_neg h1, if_neg h2]
theorem ym_rcv {w : Value} {y : Nat} {rest : List Value} (hA : 194 ≤ A.1) (hy : xb_gV (xt_G w) y = some 10) : xb_rcv (xt_G w) y (.ref 165 :: rest) (ym A s t) = true := xr_rcv hy (ym_165 hA)
/-- cells laid over by cells -/
theorem ym_ym {s' : Nat → Int} {t' : Nat → Nat → Int} : ym (ym A s t) s' t' = ym A s' t' := by
  unfold ym
  simp only [Prod.mk.injEq, true_and]
  funext x
  by_cases h1 : x = 165
  · simp only [if_pos h1]
  · by_cases h2 : 166 ≤ x ∧ x < 193
    · simp only [if_neg h1, if_pos h2]
    · simp only [if_neg h1, if_neg h2]
theorem ym_set_else {x : Nat} {o : xb_O} (h : x < 165 ∨ 193 ≤ x) : xb_set (ym A s t) x o = ym (xb_set A x o) s t := by
  unfold ym xb_set
  simp only [Prod.mk.injEq, true_and]
  funext z
  by_cases h1 : z = x
  · subst h1
    rw [if_pos rfl, if_neg (by omega), if_neg (by omega), if_pos rfl]
  · rw [if_neg h1]
    by_cases h2 : z = 165
    · rw [if_pos h2, if_pos h2]
    · rw [if_neg h2, if_neg h2]
      by_cases h3 : 166 ≤ z ∧ z < 193
      · rw [if_pos h3, if_pos h3]
      · rw [if_neg h3, if_neg h3, if_neg h1]
theorem ym_set165 {f : Nat} {v : Int} (hf : (ym_F s).set f (.int (Int32.ofInt v)) = ym_F (va_up s f v)) : xb_set (ym A s t) 165 (.inr (10, (ym_F s).set f (.int (Int32.ofInt v)))) = ym A (va_up s f v) t := by
  rw [hf]
  unfold xb_set ym
  simp only [Prod.mk.injEq, true_and]
  funext x
  by_cases h1 : x = 165
  · rw [if_pos h1, if_pos h1]
  · rw [if_neg h1, if_neg h1, if_neg h1]
theorem ym_setA {x k : Nat} {v : Int} (h1 : 166 ≤ x) (h2 : x < 193) (hn : vp_nar (ym_ty x).1 (Int32.ofInt v) = Int32.ofInt v) : xb_set (ym A s t) x (.inl ((ym_ty x).1, (ym_ty x).2, .inl (upd (fun j => Int32.ofInt (t x j)) k (vp_nar (ym_ty x).1 (Int32.ofInt v))))) = ym A s (va_up t x (va_up (t x) k v)) := by
  rw [hn]
  unfold xb_set ym
  simp only [Prod.mk.injEq, true_and]
  funext z
  by_cases e : z = x
  · subst e
    rw [if_pos rfl, if_neg (by omega), if_pos ⟨h1, h2⟩]
    unfold ym_c
    have hu : upd (fun j => Int32.ofInt (t z j)) k (Int32.ofInt v) = fun j => Int32.ofInt (va_up t z (va_up (t z) k v) z j) := by
      funext j
      unfold upd va_up
      rw [if_pos rfl]
      by_cases hj : j = k
      · rw [if_pos hj, if_pos hj]
      · rw [if_neg hj, if_neg hj]
    rw [hu]
  · rw [if_neg e]
    by_cases h3 : z = 165
    · rw [if_pos h3, if_pos h3]
    · rw [if_neg h3, if_neg h3]
      by_cases h4 : 166 ≤ z ∧ z < 193
      · rw [if_pos h4, if_pos h4]
        unfold ym_c
        have hu : (fun j => Int32.ofInt (t z j)) = fun j => Int32.ofInt (va_up t x (va_up (t x) k v) z j) := by
          funext j
          unfold va_up
          rw [if_neg e]
        rw [hu]
      · rw [if_neg h4, if_neg h4]
variable {w : Value} {d y pc : Nat} {L : xb_L} {st : List Value} {Q : xb_R → xb_H → Prop}
theorem ym_putI {idx f : Nat} {v : Int} (hA : 194 ≤ A.1) (hq : xb_gP (xt_G w) y pc = some (.putfield idx, 3, 10, f)) (ht : (xb_gT (xt_G w) 10)[f]? = some .int) (hf : (ym_F s).set f (.int (Int32.ofInt v)) = ym_F (va_up s f v)) (kk : xr_ok (xt_G w) d y (pc + 3) L st (ym A (va_up s f v) t) Q) : xr_ok (xt_G w) d y pc L (.int (Int32.ofInt v) :: .ref 165 :: st) (ym A s t) Q := by
  have hl : f < (ym_F s).length := by
    have h1 : (xb_gT (xt_G w) 10).length = (ym_F s).length := rfl
    rw [← h1]
    exact (List.getElem?_eq_some_iff.mp ht).1
  refine xr_putf hq (ym_165 hA) (by show 64 ≤ 165; omega) hl ht (xr_fitI _) ?_
  rw [ym_set165 hf]
  exact kk
theorem ym_iaload {x n : Nat} {i : Int} (hA : 194 ≤ A.1) (hq : xb_gP (xt_G w) y pc = some (.iaload, 1, 0, 0)) (hx : ym_ty x = (.int, n)) (hr : 166 ≤ x ∧ x < 193 ∧ n ≤ 4000) (h0 : 0 ≤ i) (h1 : i < n) {e : Int} (he : t x i.toNat = e) (kk : xr_ok (xt_G w) d y (pc + 1) L (.int (Int32.ofInt e) :: st) (ym A s t) Q) : xr_ok (xt_G w) d y pc L (.int (Int32.ofInt i) :: .ref x :: st) (ym A s t) Q := by
  subst he
  obtain ⟨e1, e2⟩ := xr_in h0 h1 (by omega)
  have hg := ym_get (A := A) (s := s) (t := t) hA hr.1 hr.2.1
  unfold ym_c at hg
  rw [hx] at hg
  refine xr_pure hq rfl ?_ kk
  show xb_ial xb_isI pc L (ym A s t) (.int (Int32.ofInt i) :: .ref x :: st) = _
  unfold xb_ial
  simp only [hg]
  rw [if_pos ⟨rfl, e1⟩, e2]
theorem ym_caload {x n : Nat} {i : Int} (hA : 194 ≤ A.1) (hq : xb_gP (xt_G w) y pc = some (.caload, 1, 0, 0)) (hx : ym_ty x = (.char, n)) (hr : 166 ≤ x ∧ x < 193 ∧ n ≤ 4000) (h0 : 0 ≤ i) (h1 : i < n) {e : Int} (he : t x i.toNat = e) (kk : xr_ok (xt_G w) d y (pc + 1) L (.int (Int32.ofInt e) :: st) (ym A s t) Q) : xr_ok (xt_G w) d y pc L (.int (Int32.ofInt i) :: .ref x :: st) (ym A s t) Q := by
  subst he
  obtain ⟨e1, e2⟩ := xr_in h0 h1 (by omega)
  have hg := ym_get (A := A) (s := s) (t := t) hA hr.1 hr.2.1
  unfold ym_c at hg
  rw [hx] at hg
  refine xr_pure hq rfl ?_ kk
  show xb_ial xb_isC pc L (ym A s t) (.int (Int32.ofInt i) :: .ref x :: st) = _
  unfold xb_ial
  simp only [hg]
  rw [if_pos ⟨rfl, e1⟩, e2]
theorem ym_baload {x n : Nat} {i : Int} (hA : 194 ≤ A.1) (hq : xb_gP (xt_G w) y pc = some (.baload, 1, 0, 0)) (hx : ym_ty x = (.boolean, n)) (hr : 166 ≤ x ∧ x < 193 ∧ n ≤ 4000) (h0 : 0 ≤ i) (h1 : i < n) {e : Int} (he : t x i.toNat = e) (kk : xr_ok (xt_G w) d y (pc + 1) L (.int (Int32.ofInt e) :: st) (ym A s t) Q) : xr_ok (xt_G w) d y pc L (.int (Int32.ofInt i) :: .ref x :: st) (ym A s t) Q := by
  subst he
  obtain ⟨e1, e2⟩ := xr_in h0 h1 (by omega)
  have hg := ym_get (A := A) (s := s) (t := t) hA hr.1 hr.2.1
  unfold ym_c at hg
  rw [hx] at hg
  refine xr_pure hq rfl ?_ kk
  show xb_ial xb_isB pc L (ym A s t) (.int (Int32.ofInt i) :: .ref x :: st) = _
  unfold xb_ial
  simp only [hg]
  rw [if_pos ⟨rfl, e1⟩, e2]
theorem ym_narI (v : Int) : vp_nar .int (Int32.ofInt v) = Int32.ofInt v := rfl
theorem ym_narC {v : Int} (h : 0 ≤ v ∧ v ≤ 65535) : vp_nar .char (Int32.ofInt v) = Int32.ofInt v := xr_narC h
theorem ym_narB {v : Int} (h : 0 ≤ v ∧ v ≤ 1) : vp_nar .boolean (Int32.ofInt v) = Int32.ofInt v := by
  have e : v = 0 ∨ v = 1 := by omega
  rcases e with rfl | rfl <;> rfl
theorem ym_iastore {x n : Nat} {i v : Int} (hA : 194 ≤ A.1) (hq : xb_gP (xt_G w) y pc = some (.iastore, 1, 0, 0)) (hx : ym_ty x = (.int, n)) (hr : 166 ≤ x ∧ x < 193 ∧ n ≤ 4000) (h0 : 0 ≤ i) (h1 : i < n) (kk : xr_ok (xt_G w) d y (pc + 1) L st (ym A s (va_up t x (va_up (t x) i.toNat v))) Q) : xr_ok (xt_G w) d y pc L (.int (Int32.ofInt v) :: .int (Int32.ofInt i) :: .ref x :: st) (ym A s t) Q := by
  obtain ⟨e1, e2⟩ := xr_in h0 h1 (by omega)
  have hg := ym_get (A := A) (s := s) (t := t) hA hr.1 hr.2.1
  have hs := ym_setA (A := A) (s := s) (t := t) (x := x) (k := i.toNat) (v := v) hr.1 hr.2.1 (by rw [hx]; exact ym_narI v)
  unfold ym_c at hg
  rw [hx] at hg hs
  refine xr_pure hq rfl ?_ kk
  show xb_ias xb_isI pc L (ym A s t) (.int (Int32.ofInt v) :: .int (Int32.ofInt i) :: .ref x :: st) = _
  unfold xb_ias
  simp only [hg]
  rw [if_pos ⟨rfl, by show 64 ≤ x; omega, e1⟩, e2, hs]
theorem ym_castore {x n : Nat} {i v : Int} (hA : 194 ≤ A.1) (hq : xb_gP (xt_G w) y pc = some (.castore, 1, 0, 0)) (hx : ym_ty x = (.char, n)) (hr : 166 ≤ x ∧ x < 193 ∧ n ≤ 4000) (h0 : 0 ≤ i) (h1 : i < n) (hv : 0 ≤ v ∧ v ≤ 65535) (kk : xr_ok (xt_G w) d y (pc + 1) L st (ym A s (va_up t x (va_up (t x) i.toNat v))) Q) : xr_ok (xt_G w) d y pc L (.int (Int32.ofInt v) :: .int (Int32.ofInt i) :: .ref x :: st) (ym A s t) Q := by
  obtain ⟨e1, e2⟩ := xr_in h0 h1 (by omega)
  have hg := ym_get (A := A) (s := s) (t := t) hA hr.1 hr.2.1
  have hs := ym_setA (A := A) (s := s) (t := t) (x := x) (k := i.toNat) (v := v) hr.1 hr.2.1 (by rw [hx]; exact ym_narC hv)
  unfold ym_c at hg
  rw [hx] at hg hs
  refine xr_pure hq rfl ?_ kk
  show xb_ias xb_isC pc L (ym A s t) (.int (Int32.ofInt v) :: .int (Int32.ofInt i) :: .ref x :: st) = _
  unfold xb_ias
  simp only [hg]
  rw [if_pos ⟨rfl, by show 64 ≤ x; omega, e1⟩, e2, hs]
theorem ym_bastore {x n : Nat} {i v : Int} (hA : 194 ≤ A.1) (hq : xb_gP (xt_G w) y pc = some (.bastore, 1, 0, 0)) (hx : ym_ty x = (.boolean, n)) (hr : 166 ≤ x ∧ x < 193 ∧ n ≤ 4000) (h0 : 0 ≤ i) (h1 : i < n) (hv : 0 ≤ v ∧ v ≤ 1) (kk : xr_ok (xt_G w) d y (pc + 1) L st (ym A s (va_up t x (va_up (t x) i.toNat v))) Q) : xr_ok (xt_G w) d y pc L (.int (Int32.ofInt v) :: .int (Int32.ofInt i) :: .ref x :: st) (ym A s t) Q := by
  obtain ⟨e1, e2⟩ := xr_in h0 h1 (by omega)
  have hg := ym_get (A := A) (s := s) (t := t) hA hr.1 hr.2.1
  have hs := ym_setA (A := A) (s := s) (t := t) (x := x) (k := i.toNat) (v := v) hr.1 hr.2.1 (by rw [hx]; exact ym_narB hv)
  unfold ym_c at hg
  rw [hx] at hg hs
  refine xr_pure hq rfl ?_ kk
  show xb_ias xb_isB pc L (ym A s t) (.int (Int32.ofInt v) :: .int (Int32.ofInt i) :: .ref x :: st) = _
  unfold xb_ias
  simp only [hg]
  rw [if_pos ⟨rfl, by show 64 ≤ x; omega, e1⟩, e2, hs]
end YM
