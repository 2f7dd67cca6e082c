/-! The reference: members -/
theorem xV_pos {E : Nat → Int} {m p q : Nat} {u : xv m} (h : xV E m p u q) : 0 < m := by
  cases m with
  | zero => exact absurd h id
  | succ m => omega
theorem xVK_4 {E : Nat → Int} {k : Int} {p : Nat} (h : xVK E 4 k p) : (97 ≤ k ∧ k ≤ 122) ∧ E (p + 1) = k := by
  rcases h with ⟨h, -⟩ | ⟨-, h1, -, h2, -⟩
  · omega
  · exact ⟨h1, h2⟩
theorem xJV_ls {E : Nat → Int} {sl : List Int → Bool} {H : (n : Nat) → xv (n + 1) → xv (n + 1) → List Int → Nat} {st : Int} {K : Nat} {pth : Nat → List Int} {l : List Int} {c kd e a : Int} (hkd : kd = 3 ∨ kd = 4) (hl : l.length + 1 ≤ 5 ∧ xpl0 l) (hc : (0 ≤ c ∧ c ≤ 99) ∨ (1001 ≤ c ∧ c ≤ 1127)) : xJV E sl H st (K + 1) (va_up pth K (l ++ [c])) (xmk kd e a K [(kd, l ++ [c])] 1 0) := by
  have hlen : (l ++ [c]).length = l.length + 1 := by rw [List.length_append, List.length_singleton]
  refine ⟨Nat.lt_succ_self K, ?_, Or.inl ⟨hkd, ?_, rfl, rfl⟩⟩
  · show ((va_up pth K (l ++ [c])) K).length ≤ 5 ∧ xpl0 ((va_up pth K (l ++ [c])) K)
    rw [ya_up_same]
    exact ⟨by omega, xpl0_app hl.2 hc⟩
  · show [(kd, l ++ [c])] = [(kd, (va_up pth K (l ++ [c])) K)]
    rw [ya_up_same]
section JM
variable {α : Type}
def xuk (ps us : List (Int × α)) : Nat → Nat
  | 0 => 0
  | k + 1 => xuk ps us k + (match us[k]? with
    | none => 0
    | some q => match xmem ps q.1 with
      | none => 1
      | some _ => 0)
def xjm (g : α → α → List Int → Nat) (us : List (Int × α)) (l : List Int) (ps : List (Int × α)) : Nat → Nat
  | 0 => 0
  | k + 1 => xjm g us l ps k + (match ps[k]? with
    | none => 0
    | some p => match xmem us p.1 with
      | none => 1
      | some v => g p.2 v (l ++ [1000 + p.1]))
variable {g : α → α → List Int → Nat} {f : α → α → List Int → List (Int × List Int)} {ps us : List (Int × α)} {l : List Int} {k : Nat} {p q : Int × α} {v : α}
theorem xuk_none (h1 : us[k]? = some q) (h2 : xmem ps q.1 = none) : xuk ps us (k + 1) = xuk ps us k + 1 ∧ xun ps l (us.drop k) = (4, l ++ [1000 + q.1]) :: xun ps l (us.drop (k + 1)) := by
  constructor
  · rw [xuk, h1]
    show _ + (match xmem ps q.1 with
      | none => 1
      | some _ => 0) = _
    rw [h2]
  · obtain ⟨hk, hq⟩ := List.getElem?_eq_some_iff.mp h1
    rw [List.drop_eq_getElem_cons hk, hq, xun, h2]
    rfl
theorem xuk_some (h1 : us[k]? = some q) (h2 : xmem ps q.1 = some v) : xuk ps us (k + 1) = xuk ps us k ∧ xun ps l (us.drop k) = xun ps l (us.drop (k + 1)) := by
  constructor
  · rw [xuk, h1]
    show _ + (match xmem ps q.1 with
      | none => 1
      | some _ => 0) = _
    rw [h2]
    rfl
  · obtain ⟨hk, hq⟩ := List.getElem?_eq_some_iff.mp h1
    rw [List.drop_eq_getElem_cons hk, hq, xun, h2]
    rfl
theorem xuk_sum : ∀ k : Nat, k ≤ us.length → xuk ps us k + (xun ps l (us.drop k)).length = (xun ps l us).length := by
  intro k
  induction k with
  | zero => intro _; rw [List.drop_zero, xuk, Nat.zero_add]
  | succ k ih =>
    intro hk
    rw [← ih (by omega)]
    have h1 : us[k]? = some us[k] := List.getElem?_eq_getElem (show k < us.length by omega)
    cases h2 : xmem ps us[k].1 with
    | none =>
      obtain ⟨e1, e2⟩ := xuk_none (l := l) h1 h2
      rw [e1, e2, List.length_cons]
      omega
    | some v =>
      obtain ⟨e1, e2⟩ := xuk_some (l := l) h1 h2
      rw [e1, e2]
theorem xjm_none (h1 : ps[k]? = some p) (h2 : xmem us p.1 = none) : xjm g us l ps (k + 1) = xjm g us l ps k + 1 ∧ xme f us l (ps.drop k) = (3, l ++ [1000 + p.1]) :: xme f us l (ps.drop (k + 1)) := by
  constructor
  · rw [xjm, h1]
    show _ + (match xmem us p.1 with
      | none => 1
      | some v => g p.2 v (l ++ [1000 + p.1])) = _
    rw [h2]
  · obtain ⟨hk, hq⟩ := List.getElem?_eq_some_iff.mp h1
    rw [List.drop_eq_getElem_cons hk, hq, xme, h2]
    rfl
theorem xjm_some (h1 : ps[k]? = some p) (h2 : xmem us p.1 = some v) : xjm g us l ps (k + 1) = xjm g us l ps k + g p.2 v (l ++ [1000 + p.1]) ∧ xme f us l (ps.drop k) = f p.2 v (l ++ [1000 + p.1]) ++ xme f us l (ps.drop (k + 1)) := by
  constructor
  · rw [xjm, h1]
    show _ + (match xmem us p.1 with
      | none => 1
      | some v => g p.2 v (l ++ [1000 + p.1])) = _
    rw [h2]
  · obtain ⟨hk, hq⟩ := List.getElem?_eq_some_iff.mp h1
    rw [List.drop_eq_getElem_cons hk, hq, xme, h2]
theorem xjm_sum : ∀ k : Nat, k ≤ ps.length → xjm g us l ps k + xjM g us l (ps.drop k) = xjM g us l ps := by
  intro k
  induction k with
  | zero => intro _; rw [List.drop_zero, xjm, Nat.zero_add]
  | succ k ih =>
    intro hk
    rw [← ih (by omega), List.drop_eq_getElem_cons (show k < ps.length by omega), xjM, xjm, List.getElem?_eq_getElem (show k < ps.length by omega)]
    show _ + (match xmem us ps[k].1 with
      | none => 1
      | some v => g ps[k].2 v (l ++ [1000 + ps[k].1])) + _ = _ + ((match xmem us ps[k].1 with
      | none => 1
      | some v => g ps[k].2 v (l ++ [1000 + ps[k].1])) + _)
    omega
end JM
section ME
variable {w : Value} {d : Nat} {A : xb_H} {t0 : Nat → Nat → Int} {s0 : Nat → Int} {sl : List Int → Bool} {H : (n : Nat) → xv (n + 1) → xv (n + 1) → List Int → Nat} {st : Int} {ms : List (Int × List Int)} {i m pe pa ze za po : Nat} {tt uu : xv (m + 1)} {l : List Int} {X : List (Int × List Int)} {hb C0 B0 : Nat} {Q : xb_R → xb_H → Prop}
theorem mo_254a (hA : 194 ≤ A.1) (hE : ∀ j : Nat, 0 ≤ t0 166 j ∧ t0 166 j ≤ 127) (hm : m ≤ 5) (he : xV (t0 166) (m + 1) pe tt ze) (hu : xV (t0 166) (m + 1) pa uu za) (hze : ze ≤ pe + 100 ∧ ze < 3711) (hza : za ≤ pa + 100 ∧ za < 3711) (hdk : xdk (m + 1) tt) (hl : l.length + m = 5 ∧ xpl0 l) (h5 : xv_k tt = 5 ∧ xv_k uu = 5) (hi : i < 4) (hst1 : ∀ t : Nat → Nat → Int, t 167 = t0 167 → t 167 i = 1) (hh : hb + 1 + 50 * m ≤ 256) : ∀ (k : Nat) (s : Nat → Int) (t : Nat → Nat → Int) (K : Nat) (pth : Nat → List Int) (js : List xJ), k ≤ (xv_p uu).length → xCMS t0 s0 sl H st s t K pth js ms (xuk (xv_p tt) (xv_p uu) k + B0) → (po < K ∧ pth po = l) → js.length + k ≤ hb + (xv_p uu).length → xcost js + xuk (xv_p tt) (xv_p uu) k = C0 → xout js = xun (xv_p tt) l ((xv_p uu).drop k) ++ X → (∀ (s : Nat → Int) (t : Nat → Nat → Int) (K : Nat) (pth : Nat → List Int) (js : List xJ), xCMS t0 s0 sl H st s t K pth js ms B0 → (po < K ∧ pth po = l) → js.length ≤ hb + (xv_p uu).length → xcost js = C0 → xout js = xun (xv_p tt) l (xv_p uu) ++ X → xr_ok (xt_G w) (d + 1 + 1 + 1 + 1 + 1) 254 92 [(0, .ref 165), (1, .int (Int32.ofInt (i : Int))), (2, .int (Int32.ofInt (pe : Int))), (3, .int (Int32.ofInt (pa : Int))), (4, .int (Int32.ofInt (po : Int))), (5, .int (Int32.ofInt ((xv_p tt).length : Int))), (6, .int (Int32.ofInt ((xv_p uu).length : Int)))] [] (ym A s t) Q) → xr_ok (xt_G w) (d + 1 + 1 + 1 + 1 + 1) 254 20 [(7, .int (Int32.ofInt ((k : Int) - 1))), (0, .ref 165), (1, .int (Int32.ofInt (i : Int))), (2, .int (Int32.ofInt (pe : Int))), (3, .int (Int32.ofInt (pa : Int))), (4, .int (Int32.ofInt (po : Int))), (5, .int (Int32.ofInt ((xv_p tt).length : Int))), (6, .int (Int32.ofInt ((xv_p uu).length : Int)))] [] (ym A s t) Q := by
  intro k
  induction k using Nat.strongRecOn with
  | _ k ih =>
    intro s t K pth js hk hC hpo hhb hC0 hX hQ
    have hl16 := (xV_16 _ _ _ _ hu hza.1).1.1 h5.2
    refine xr_steps (pc' := 22) (L' := [(7, .int (Int32.ofInt ((k : Int) - 1))), (0, .ref 165), (1, .int (Int32.ofInt (i : Int))), (2, .int (Int32.ofInt (pe : Int))), (3, .int (Int32.ofInt (pa : Int))), (4, .int (Int32.ofInt (po : Int))), (5, .int (Int32.ofInt ((xv_p tt).length : Int))), (6, .int (Int32.ofInt ((xv_p uu).length : Int)))]) (st' := [.int (Int32.ofInt ((k : Int) - 1))]) 1 rfl ?_
    refine xr_if_lt rfl (by omega) (fun z31 => ?_) (fun z31 => ?_)
    · refine xr_loc (L := [(0, .ref 165), (1, .int (Int32.ofInt (i : Int))), (2, .int (Int32.ofInt (pe : Int))), (3, .int (Int32.ofInt (pa : Int))), (4, .int (Int32.ofInt (po : Int))), (5, .int (Int32.ofInt ((xv_p tt).length : Int))), (6, .int (Int32.ofInt ((xv_p uu).length : Int)))]) (show [0, 1, 2, 3, 4, 5, 6].Nodup by decide) ⟨rfl, rfl, rfl, rfl, rfl, rfl, rfl, trivial⟩ ?_
      obtain rfl : k = 0 := by omega
      rw [List.drop_zero] at hX
      rw [xuk, Nat.zero_add] at hC
      rw [xuk, Nat.add_zero] at hC0
      exact hQ s t K pth js hC hpo (by omega) hC0 hX
    · refine xr_steps (pc' := 26) (L' := [(7, .int (Int32.ofInt ((k : Int) - 1))), (0, .ref 165), (1, .int (Int32.ofInt (i : Int))), (2, .int (Int32.ofInt (pe : Int))), (3, .int (Int32.ofInt (pa : Int))), (4, .int (Int32.ofInt (po : Int))), (5, .int (Int32.ofInt ((xv_p tt).length : Int))), (6, .int (Int32.ofInt ((xv_p uu).length : Int)))]) (st' := [.ref 165]) 1 rfl ?_
      refine xr_getf (v := .ref 167) rfl (ym_165 hA) rfl ?_
      refine xr_steps (pc' := 30) (L' := [(7, .int (Int32.ofInt ((k : Int) - 1))), (0, .ref 165), (1, .int (Int32.ofInt (i : Int))), (2, .int (Int32.ofInt (pe : Int))), (3, .int (Int32.ofInt (pa : Int))), (4, .int (Int32.ofInt (po : Int))), (5, .int (Int32.ofInt ((xv_p tt).length : Int))), (6, .int (Int32.ofInt ((xv_p uu).length : Int)))]) (st' := [.int (Int32.ofInt (i : Int)), .ref 167]) 1 rfl ?_
      refine ym_baload (e := t 167 (i : Int).toNat) hA rfl rfl (by decide) (by omega) (by omega) rfl ?_
      rw [show (i : Int).toNat = i by omega]
      rw [hst1 t (xCMS_166 hC (x := 167) (by omega))]
      refine xr_if_eq rfl (by omega) (fun z32 => ?_) (fun z32 => ?_)
      · exfalso; omega
      · obtain ⟨j, rfl⟩ : ∃ j, k = j + 1 := ⟨k - 1, by omega⟩
        rw [show ((j + 1 : Nat) : Int) - 1 = (j : Int) by omega]
        obtain ⟨p2, hp2⟩ : ∃ p, (xv_p uu)[j]? = some p := ⟨_, List.getElem?_eq_getElem (show j < (xv_p uu).length by omega)⟩
        have hKb := xCMS_K hC
        have e0 := xCMS_166 hC (x := 166) (by omega)
        have hE1 : ∀ j : Nat, 0 ≤ t 166 j ∧ t 166 j ≤ 127 := by rw [e0]; exact hE
        have he1 : xV (t 166) (m + 1) pe tt ze := by rw [e0]; exact he
        have hu1 : xV (t 166) (m + 1) pa uu za := by rw [e0]; exact hu
        refine xr_steps (pc' := 38) (L' := [(7, .int (Int32.ofInt (j : Int))), (0, .ref 165), (1, .int (Int32.ofInt (i : Int))), (2, .int (Int32.ofInt (pe : Int))), (3, .int (Int32.ofInt (pa : Int))), (4, .int (Int32.ofInt (po : Int))), (5, .int (Int32.ofInt ((xv_p tt).length : Int))), (6, .int (Int32.ofInt ((xv_p uu).length : Int)))]) (st' := [.int (Int32.ofInt (j : Int)), .int (Int32.ofInt (pa : Int)), .ref 165]) 3 rfl ?_
        refine xr_call (q := (.invokevirtual 131, 3, 222, 3)) (av := [.ref 165, .int (Int32.ofInt (pa : Int)), .int (Int32.ofInt (j : Int))]) (rest := []) rfl rfl (by decide) rfl (ym_rcv hA rfl) (Nat.le_of_ble_eq_true rfl) (mo_222 (u := uu) hA hE1 hm (show j ≤ 1000 by omega) hu1 (by omega) hza.2) ?_
        rintro _ _ ⟨r2, ⟨rfl, eA⟩, hr2⟩
        rw [eA]
        clear eA
        obtain ⟨x2, rfl, p2b, z2, u1, u22, u23, u24, u25⟩ : ∃ x : Nat, r2 = x ∧ xAt (t 166) (xV (t 166) m) (if xv_k uu = 5 then 4 else 0) (xv_p uu) j _ _ x := hr2.resolve_right (fun h => by omega)
        obtain rfl : p2 = p2b := by rw [hp2] at u1; exact Option.some.inj u1
        rw [if_pos (by omega)] at u22 u23
        have kx := xVK_4 u23
        rw [e0] at u22
        have lx := xV_lt u22
        have hm0 := xV_pos u22
        refine xr_steps (pc' := 46) (L' := [(8, .int (Int32.ofInt (x2 : Int))), (7, .int (Int32.ofInt (j : Int))), (0, .ref 165), (1, .int (Int32.ofInt (i : Int))), (2, .int (Int32.ofInt (pe : Int))), (3, .int (Int32.ofInt (pa : Int))), (4, .int (Int32.ofInt (po : Int))), (5, .int (Int32.ofInt ((xv_p tt).length : Int))), (6, .int (Int32.ofInt ((xv_p uu).length : Int)))]) (st' := [.ref 165, .int (Int32.ofInt (pe : Int)), .ref 165]) 4 rfl ?_
        refine xr_getf (v := .ref 166) rfl (ym_165 hA) rfl ?_
        refine xr_steps (pc' := 52) (L' := [(8, .int (Int32.ofInt (x2 : Int))), (7, .int (Int32.ofInt (j : Int))), (0, .ref 165), (1, .int (Int32.ofInt (i : Int))), (2, .int (Int32.ofInt (pe : Int))), (3, .int (Int32.ofInt (pa : Int))), (4, .int (Int32.ofInt (po : Int))), (5, .int (Int32.ofInt ((xv_p tt).length : Int))), (6, .int (Int32.ofInt ((xv_p uu).length : Int)))]) (st' := [.int (Int32.ofInt 1), .int (Int32.ofInt (x2 : Int)), .ref 166, .int (Int32.ofInt (pe : Int)), .ref 165]) 2 rfl ?_
        refine xr_iadd rfl ?_
        refine ym_caload (e := t 166 ((x2 : Int) + 1).toNat) hA rfl rfl (by decide) (by omega) (by omega) rfl ?_
        rw [show ((x2 : Int) + 1).toNat = x2 + 1 by omega]
        rw [kx.2]
        refine xr_call (q := (.invokevirtual 142, 3, 223, 3)) (av := [.ref 165, .int (Int32.ofInt (pe : Int)), .int (Int32.ofInt p2.1)]) (rest := []) rfl rfl (by decide) rfl (ym_rcv hA rfl) (Nat.le_of_ble_eq_true rfl) (mo_223 (u := tt) (c := p2.1) hA hE1 hm he1 (by omega) hze.2 hze.1 (by omega)) ?_
        rintro _ _ ⟨r, ⟨rfl, eA⟩, hr⟩
        rw [eA]
        clear eA
        rcases hr with ⟨xr, yr, vr, rfl, g1, g2, g3, g4⟩ | ⟨rfl, g1⟩
        · rw [e0] at g2
          have lr := xV_lt g2
          obtain ⟨est, els⟩ := xuk_some (l := l) hp2 g1
          refine xr_if_ge rfl (by omega) (fun z33 => ?_) (fun z33 => ?_)
          · refine xr_iincn (L' := [(7, .int (Int32.ofInt ((j : Int) - 1))), (8, .int (Int32.ofInt (x2 : Int))), (0, .ref 165), (1, .int (Int32.ofInt (i : Int))), (2, .int (Int32.ofInt (pe : Int))), (3, .int (Int32.ofInt (pa : Int))), (4, .int (Int32.ofInt (po : Int))), (5, .int (Int32.ofInt ((xv_p tt).length : Int))), (6, .int (Int32.ofInt ((xv_p uu).length : Int)))]) rfl rfl rfl ?_
            refine xr_steps (pc' := 20) (L' := [(7, .int (Int32.ofInt ((j : Int) - 1))), (8, .int (Int32.ofInt (x2 : Int))), (0, .ref 165), (1, .int (Int32.ofInt (i : Int))), (2, .int (Int32.ofInt (pe : Int))), (3, .int (Int32.ofInt (pa : Int))), (4, .int (Int32.ofInt (po : Int))), (5, .int (Int32.ofInt ((xv_p tt).length : Int))), (6, .int (Int32.ofInt ((xv_p uu).length : Int)))]) (st' := []) 1 rfl ?_
            refine xr_loc (L := [(7, .int (Int32.ofInt ((j : Int) - 1))), (0, .ref 165), (1, .int (Int32.ofInt (i : Int))), (2, .int (Int32.ofInt (pe : Int))), (3, .int (Int32.ofInt (pa : Int))), (4, .int (Int32.ofInt (po : Int))), (5, .int (Int32.ofInt ((xv_p tt).length : Int))), (6, .int (Int32.ofInt ((xv_p uu).length : Int)))]) (show [7, 0, 1, 2, 3, 4, 5, 6].Nodup by decide) ⟨rfl, rfl, rfl, rfl, rfl, rfl, rfl, rfl, trivial⟩ ?_
            rw [est] at hC hC0
            exact ih j (by omega) s t K pth js (by omega) hC hpo (by omega) hC0 (by rw [els]; exact hX) hQ
          · exfalso; omega
        · obtain ⟨est, els⟩ := xuk_none (l := l) hp2 g1
          refine xr_if_ge rfl (by omega) (fun z34 => ?_) (fun z34 => ?_)
          · exfalso; omega
          · refine xr_steps (pc' := 64) (L' := [(8, .int (Int32.ofInt (x2 : Int))), (7, .int (Int32.ofInt (j : Int))), (0, .ref 165), (1, .int (Int32.ofInt (i : Int))), (2, .int (Int32.ofInt (pe : Int))), (3, .int (Int32.ofInt (pa : Int))), (4, .int (Int32.ofInt (po : Int))), (5, .int (Int32.ofInt ((xv_p tt).length : Int))), (6, .int (Int32.ofInt ((xv_p uu).length : Int)))]) (st' := [.ref 165, .int (Int32.ofInt (po : Int)), .ref 165]) 3 rfl ?_
            refine xr_getf (v := .ref 166) rfl (ym_165 hA) rfl ?_
            refine xr_steps (pc' := 70) (L' := [(8, .int (Int32.ofInt (x2 : Int))), (7, .int (Int32.ofInt (j : Int))), (0, .ref 165), (1, .int (Int32.ofInt (i : Int))), (2, .int (Int32.ofInt (pe : Int))), (3, .int (Int32.ofInt (pa : Int))), (4, .int (Int32.ofInt (po : Int))), (5, .int (Int32.ofInt ((xv_p tt).length : Int))), (6, .int (Int32.ofInt ((xv_p uu).length : Int)))]) (st' := [.int (Int32.ofInt 1), .int (Int32.ofInt (x2 : Int)), .ref 166, .int (Int32.ofInt (po : Int)), .ref 165]) 2 rfl ?_
            refine xr_iadd rfl ?_
            refine ym_caload (e := t 166 ((x2 : Int) + 1).toNat) hA rfl rfl (by decide) (by omega) (by omega) rfl ?_
            rw [show ((x2 : Int) + 1).toNat = x2 + 1 by omega]
            rw [kx.2]
            refine xr_call (q := (.invokevirtual 237, 3, 253, 3)) (av := [.ref 165, .int (Int32.ofInt (po : Int)), .int (Int32.ofInt p2.1)]) (rest := []) rfl rfl (by decide) rfl (ym_rcv hA rfl) (Nat.le_of_ble_eq_true rfl) (mo_253 (K := K) hA hC.1.1 (by omega)) ?_
            rintro _ _ ⟨rfl, T1, eA, y1, y2, y3⟩
            rw [eA]
            clear eA
            have y3b : T1 181 = va_up (t 181) K (xcv (1000 + p2.1)) := by rw [show xcv (1000 + p2.1) = p2.1 by (unfold xcv; rw [if_pos (by omega)]; omega)]; exact y3
            refine xr_steps (pc' := 83) (L' := [(9, .int (Int32.ofInt (K : Int))), (8, .int (Int32.ofInt (x2 : Int))), (7, .int (Int32.ofInt (j : Int))), (0, .ref 165), (1, .int (Int32.ofInt (i : Int))), (2, .int (Int32.ofInt (pe : Int))), (3, .int (Int32.ofInt (pa : Int))), (4, .int (Int32.ofInt (po : Int))), (5, .int (Int32.ofInt ((xv_p tt).length : Int))), (6, .int (Int32.ofInt ((xv_p uu).length : Int)))]) (st' := [.int (Int32.ofInt (K : Int)), .int (Int32.ofInt 0), .int (Int32.ofInt 0), .int (Int32.ofInt 4), .ref 165]) 6 rfl ?_
            refine xr_call (q := (.invokevirtual 240, 3, 241, 5)) (av := [.ref 165, .int (Int32.ofInt 4), .int (Int32.ofInt 0), .int (Int32.ofInt 0), .int (Int32.ofInt (K : Int))]) (rest := []) rfl rfl (by decide) rfl (ym_rcv hA rfl) (Nat.le_of_ble_eq_true rfl) (mo_241 (P := js.length) hA (by rw [ya_up_ne _ _ (by omega)]; exact hC.2.1) (by omega)) ?_
            rintro _ _ ⟨rfl, T2, eA, y4⟩
            rw [eA]
            clear eA
            refine xr_iincn (L' := [(7, .int (Int32.ofInt ((j : Int) - 1))), (9, .int (Int32.ofInt (K : Int))), (8, .int (Int32.ofInt (x2 : Int))), (0, .ref 165), (1, .int (Int32.ofInt (i : Int))), (2, .int (Int32.ofInt (pe : Int))), (3, .int (Int32.ofInt (pa : Int))), (4, .int (Int32.ofInt (po : Int))), (5, .int (Int32.ofInt ((xv_p tt).length : Int))), (6, .int (Int32.ofInt ((xv_p uu).length : Int)))]) rfl rfl rfl ?_
            refine xr_steps (pc' := 20) (L' := [(7, .int (Int32.ofInt ((j : Int) - 1))), (9, .int (Int32.ofInt (K : Int))), (8, .int (Int32.ofInt (x2 : Int))), (0, .ref 165), (1, .int (Int32.ofInt (i : Int))), (2, .int (Int32.ofInt (pe : Int))), (3, .int (Int32.ofInt (pa : Int))), (4, .int (Int32.ofInt (po : Int))), (5, .int (Int32.ofInt ((xv_p tt).length : Int))), (6, .int (Int32.ofInt ((xv_p uu).length : Int)))]) (st' := []) 1 rfl ?_
            refine xr_loc (L := [(7, .int (Int32.ofInt ((j : Int) - 1))), (0, .ref 165), (1, .int (Int32.ofInt (i : Int))), (2, .int (Int32.ofInt (pe : Int))), (3, .int (Int32.ofInt (pa : Int))), (4, .int (Int32.ofInt (po : Int))), (5, .int (Int32.ofInt ((xv_p tt).length : Int))), (6, .int (Int32.ofInt ((xv_p uu).length : Int)))]) (show [7, 0, 1, 2, 3, 4, 5, 6].Nodup by decide) ⟨rfl, rfl, rfl, rfl, rfl, rfl, rfl, rfl, trivial⟩ ?_
            have hch := xJV_ls (E := t0 166) (sl := sl) (H := H) (st := st) (K := K) (pth := pth) (l := l) (c := 1000 + p2.1) (e := 0) (a := 0) (Or.inr rfl) ⟨by omega, hl.2⟩ (by omega)
            have hadd := xCMS_add (o := po) (c := 1000 + p2.1) (j := (xmk 4 0 0 K [(4, l ++ [1000 + p2.1])] 1 0)) (B' := xuk (xv_p tt) (xv_p uu) j + B0) hC hpo.1 ⟨y1, y2, y3b⟩ y4 (by rw [hpo.2]; exact hch) (by rw [est]; show _ = 1 + _; omega) (by show js.length + 1 + 50 * 0 ≤ 256; omega)
            rw [hpo.2] at hadd
            refine ih j (by omega) _ T2 (K + 1) _ (js ++ [(xmk 4 0 0 K [(4, l ++ [1000 + p2.1])] 1 0)]) (by omega) hadd ⟨by omega, ?_⟩ ?_ ?_ ?_ hQ
            · rw [ya_up_ne _ _ (by omega)]; exact hpo.2
            · rw [List.length_append, List.length_singleton]; omega
            · rw [xcost_app]; show _ + 1 + _ = _; omega
            · rw [xout_app, els, hX]; rfl
theorem mo_254b (hA : 194 ≤ A.1) (hE : ∀ j : Nat, 0 ≤ t0 166 j ∧ t0 166 j ≤ 127) (hm : m ≤ 5) (he : xV (t0 166) (m + 1) pe tt ze) (hu : xV (t0 166) (m + 1) pa uu za) (hze : ze ≤ pe + 100 ∧ ze < 3711) (hza : za ≤ pa + 100 ∧ za < 3711) (hdk : xdk (m + 1) tt) (hl : l.length + m = 5 ∧ xpl0 l) (h5 : xv_k tt = 5 ∧ xv_k uu = 5) (hh : hb + 1 + 50 * m ≤ 256) : ∀ (k : Nat) (s : Nat → Int) (t : Nat → Nat → Int) (K : Nat) (pth : Nat → List Int) (js : List xJ), k ≤ (xv_p tt).length → xCMS t0 s0 sl H st s t K pth js ms (xjm (xjc H st m) (xv_p uu) l (xv_p tt) k + B0) → (po < K ∧ pth po = l) → js.length + k ≤ hb + 16 + (xv_p tt).length → xcost js + xjm (xjc H st m) (xv_p uu) l (xv_p tt) k = C0 → xout js = xme (xcm sl H st m) (xv_p uu) l ((xv_p tt).drop k) ++ X → (∀ (s : Nat → Int) (t : Nat → Nat → Int) (K : Nat) (pth : Nat → List Int) (js : List xJ), xCMS t0 s0 sl H st s t K pth js ms B0 → (po < K ∧ pth po = l) → xcost js = C0 → xout js = xme (xcm sl H st m) (xv_p uu) l (xv_p tt) ++ X → Q (.inl none) (ym A s t)) → xr_ok (xt_G w) (d + 1 + 1 + 1 + 1 + 1) 254 98 [(7, .int (Int32.ofInt ((k : Int) - 1))), (0, .ref 165), (1, .int (Int32.ofInt (i : Int))), (2, .int (Int32.ofInt (pe : Int))), (3, .int (Int32.ofInt (pa : Int))), (4, .int (Int32.ofInt (po : Int))), (5, .int (Int32.ofInt ((xv_p tt).length : Int))), (6, .int (Int32.ofInt ((xv_p uu).length : Int)))] [] (ym A s t) Q := by
  intro k
  induction k using Nat.strongRecOn with
  | _ k ih =>
    intro s t K pth js hk hC hpo hhb hC0 hX hQ
    have hl16 := (xV_16 _ _ _ _ he hze.1).1.1 h5.1
    refine xr_steps (pc' := 100) (L' := [(7, .int (Int32.ofInt ((k : Int) - 1))), (0, .ref 165), (1, .int (Int32.ofInt (i : Int))), (2, .int (Int32.ofInt (pe : Int))), (3, .int (Int32.ofInt (pa : Int))), (4, .int (Int32.ofInt (po : Int))), (5, .int (Int32.ofInt ((xv_p tt).length : Int))), (6, .int (Int32.ofInt ((xv_p uu).length : Int)))]) (st' := [.int (Int32.ofInt ((k : Int) - 1))]) 1 rfl ?_
    refine xr_if_lt rfl (by omega) (fun z31 => ?_) (fun z31 => ?_)
    · obtain rfl : k = 0 := by omega
      rw [List.drop_zero] at hX
      rw [xjm, Nat.zero_add] at hC
      rw [xjm, Nat.add_zero] at hC0
      exact xr_retN rfl rfl (hQ s t K pth js hC hpo hC0 hX)
    · obtain ⟨j, rfl⟩ : ∃ j, k = j + 1 := ⟨k - 1, by omega⟩
      rw [show ((j + 1 : Nat) : Int) - 1 = (j : Int) by omega]
      obtain ⟨p1, hp1⟩ : ∃ p, (xv_p tt)[j]? = some p := ⟨_, List.getElem?_eq_getElem (show j < (xv_p tt).length by omega)⟩
      have hKb := xCMS_K hC
      have e0 := xCMS_166 hC (x := 166) (by omega)
      have hE1 : ∀ j : Nat, 0 ≤ t 166 j ∧ t 166 j ≤ 127 := by rw [e0]; exact hE
      have he1 : xV (t 166) (m + 1) pe tt ze := by rw [e0]; exact he
      have hu1 : xV (t 166) (m + 1) pa uu za := by rw [e0]; exact hu
      refine xr_steps (pc' := 107) (L' := [(7, .int (Int32.ofInt (j : Int))), (0, .ref 165), (1, .int (Int32.ofInt (i : Int))), (2, .int (Int32.ofInt (pe : Int))), (3, .int (Int32.ofInt (pa : Int))), (4, .int (Int32.ofInt (po : Int))), (5, .int (Int32.ofInt ((xv_p tt).length : Int))), (6, .int (Int32.ofInt ((xv_p uu).length : Int)))]) (st' := [.int (Int32.ofInt (j : Int)), .int (Int32.ofInt (pe : Int)), .ref 165]) 3 rfl ?_
      refine xr_call (q := (.invokevirtual 131, 3, 222, 3)) (av := [.ref 165, .int (Int32.ofInt (pe : Int)), .int (Int32.ofInt (j : Int))]) (rest := []) rfl rfl (by decide) rfl (ym_rcv hA rfl) (Nat.le_of_ble_eq_true rfl) (mo_222 (u := tt) hA hE1 hm (show j ≤ 1000 by omega) he1 (by omega) hze.2) ?_
      rintro _ _ ⟨r1, ⟨rfl, eA⟩, hr1⟩
      rw [eA]
      clear eA
      obtain ⟨x1, rfl, p1b, z1, u1, u12, u13, u14, u15⟩ : ∃ x : Nat, r1 = x ∧ xAt (t 166) (xV (t 166) m) (if xv_k tt = 5 then 4 else 0) (xv_p tt) j _ _ x := hr1.resolve_right (fun h => by omega)
      obtain rfl : p1 = p1b := by rw [hp1] at u1; exact Option.some.inj u1
      rw [if_pos (by omega)] at u12 u13
      have kx := xVK_4 u13
      rw [e0] at u12
      have lx := xV_lt u12
      have hm0 := xV_pos u12
      refine xr_steps (pc' := 115) (L' := [(8, .int (Int32.ofInt (x1 : Int))), (7, .int (Int32.ofInt (j : Int))), (0, .ref 165), (1, .int (Int32.ofInt (i : Int))), (2, .int (Int32.ofInt (pe : Int))), (3, .int (Int32.ofInt (pa : Int))), (4, .int (Int32.ofInt (po : Int))), (5, .int (Int32.ofInt ((xv_p tt).length : Int))), (6, .int (Int32.ofInt ((xv_p uu).length : Int)))]) (st' := [.ref 165, .int (Int32.ofInt (pa : Int)), .ref 165]) 4 rfl ?_
      refine xr_getf (v := .ref 166) rfl (ym_165 hA) rfl ?_
      refine xr_steps (pc' := 121) (L' := [(8, .int (Int32.ofInt (x1 : Int))), (7, .int (Int32.ofInt (j : Int))), (0, .ref 165), (1, .int (Int32.ofInt (i : Int))), (2, .int (Int32.ofInt (pe : Int))), (3, .int (Int32.ofInt (pa : Int))), (4, .int (Int32.ofInt (po : Int))), (5, .int (Int32.ofInt ((xv_p tt).length : Int))), (6, .int (Int32.ofInt ((xv_p uu).length : Int)))]) (st' := [.int (Int32.ofInt 1), .int (Int32.ofInt (x1 : Int)), .ref 166, .int (Int32.ofInt (pa : Int)), .ref 165]) 2 rfl ?_
      refine xr_iadd rfl ?_
      refine ym_caload (e := t 166 ((x1 : Int) + 1).toNat) hA rfl rfl (by decide) (by omega) (by omega) rfl ?_
      rw [show ((x1 : Int) + 1).toNat = x1 + 1 by omega]
      rw [kx.2]
      refine xr_call (q := (.invokevirtual 142, 3, 223, 3)) (av := [.ref 165, .int (Int32.ofInt (pa : Int)), .int (Int32.ofInt p1.1)]) (rest := []) rfl rfl (by decide) rfl (ym_rcv hA rfl) (Nat.le_of_ble_eq_true rfl) (mo_223 (u := uu) (c := p1.1) hA hE1 hm hu1 (by omega) hza.2 hza.1 (by omega)) ?_
      rintro _ _ ⟨r, ⟨rfl, eA⟩, hr⟩
      rw [eA]
      clear eA
      rcases hr with ⟨xr, yr, vr, rfl, g1, g2, g3, g4⟩ | ⟨rfl, g1⟩
      · rw [e0] at g2
        have lr := xV_lt g2
        obtain ⟨est, els⟩ := xjm_some (f := xcm sl H st m) (g := xjc H st m) (l := l) hp1 g1
        have hcp := xjc_pos (H := H) (st := st) (p := p1.2) (q := vr) (l := l ++ [1000 + p1.1])
        refine xr_steps (pc' := 132) (L' := [(9, .int (Int32.ofInt (xr : Int))), (8, .int (Int32.ofInt (x1 : Int))), (7, .int (Int32.ofInt (j : Int))), (0, .ref 165), (1, .int (Int32.ofInt (i : Int))), (2, .int (Int32.ofInt (pe : Int))), (3, .int (Int32.ofInt (pa : Int))), (4, .int (Int32.ofInt (po : Int))), (5, .int (Int32.ofInt ((xv_p tt).length : Int))), (6, .int (Int32.ofInt ((xv_p uu).length : Int)))]) (st' := [.ref 165, .int (Int32.ofInt (po : Int)), .ref 165]) 4 rfl ?_
        refine xr_getf (v := .ref 166) rfl (ym_165 hA) rfl ?_
        refine xr_steps (pc' := 138) (L' := [(9, .int (Int32.ofInt (xr : Int))), (8, .int (Int32.ofInt (x1 : Int))), (7, .int (Int32.ofInt (j : Int))), (0, .ref 165), (1, .int (Int32.ofInt (i : Int))), (2, .int (Int32.ofInt (pe : Int))), (3, .int (Int32.ofInt (pa : Int))), (4, .int (Int32.ofInt (po : Int))), (5, .int (Int32.ofInt ((xv_p tt).length : Int))), (6, .int (Int32.ofInt ((xv_p uu).length : Int)))]) (st' := [.int (Int32.ofInt 1), .int (Int32.ofInt (x1 : Int)), .ref 166, .int (Int32.ofInt (po : Int)), .ref 165]) 2 rfl ?_
        refine xr_iadd rfl ?_
        refine ym_caload (e := t 166 ((x1 : Int) + 1).toNat) hA rfl rfl (by decide) (by omega) (by omega) rfl ?_
        rw [show ((x1 : Int) + 1).toNat = x1 + 1 by omega]
        rw [kx.2]
        refine xr_call (q := (.invokevirtual 237, 3, 253, 3)) (av := [.ref 165, .int (Int32.ofInt (po : Int)), .int (Int32.ofInt p1.1)]) (rest := []) rfl rfl (by decide) rfl (ym_rcv hA rfl) (Nat.le_of_ble_eq_true rfl) (mo_253 (K := K) hA hC.1.1 (by omega)) ?_
        rintro _ _ ⟨rfl, T1, eA, y1, y2, y3⟩
        rw [eA]
        clear eA
        have y3b : T1 181 = va_up (t 181) K (xcv (1000 + p1.1)) := by rw [show xcv (1000 + p1.1) = p1.1 by (unfold xcv; rw [if_pos (by omega)]; omega)]; exact y3
        refine xr_steps (pc' := 148) (L' := [(10, .int (Int32.ofInt (K : Int))), (9, .int (Int32.ofInt (xr : Int))), (8, .int (Int32.ofInt (x1 : Int))), (7, .int (Int32.ofInt (j : Int))), (0, .ref 165), (1, .int (Int32.ofInt (i : Int))), (2, .int (Int32.ofInt (pe : Int))), (3, .int (Int32.ofInt (pa : Int))), (4, .int (Int32.ofInt (po : Int))), (5, .int (Int32.ofInt ((xv_p tt).length : Int))), (6, .int (Int32.ofInt ((xv_p uu).length : Int)))]) (st' := [.int (Int32.ofInt (xr : Int)), .ref 165]) 3 rfl ?_
        refine xr_if_ge rfl (by omega) (fun z32 => ?_) (fun z32 => ?_)
        · refine xr_steps (pc' := 159) (L' := [(10, .int (Int32.ofInt (K : Int))), (9, .int (Int32.ofInt (xr : Int))), (8, .int (Int32.ofInt (x1 : Int))), (7, .int (Int32.ofInt (j : Int))), (0, .ref 165), (1, .int (Int32.ofInt (i : Int))), (2, .int (Int32.ofInt (pe : Int))), (3, .int (Int32.ofInt (pa : Int))), (4, .int (Int32.ofInt (po : Int))), (5, .int (Int32.ofInt ((xv_p tt).length : Int))), (6, .int (Int32.ofInt ((xv_p uu).length : Int)))]) (st' := [.int (Int32.ofInt 4), .int (Int32.ofInt (x1 : Int)), .int (Int32.ofInt 0), .ref 165]) 3 rfl ?_
          refine xr_iadd rfl ?_
          rw [show (x1 : Int) + 4 = ((x1 + 4 : Nat) : Int) by omega]
          refine xr_steps (pc' := 164) (L' := [(10, .int (Int32.ofInt (K : Int))), (9, .int (Int32.ofInt (xr : Int))), (8, .int (Int32.ofInt (x1 : Int))), (7, .int (Int32.ofInt (j : Int))), (0, .ref 165), (1, .int (Int32.ofInt (i : Int))), (2, .int (Int32.ofInt (pe : Int))), (3, .int (Int32.ofInt (pa : Int))), (4, .int (Int32.ofInt (po : Int))), (5, .int (Int32.ofInt ((xv_p tt).length : Int))), (6, .int (Int32.ofInt ((xv_p uu).length : Int)))]) (st' := [.int (Int32.ofInt (K : Int)), .int (Int32.ofInt (xr : Int)), .int (Int32.ofInt ((x1 + 4 : Nat) : Int)), .int (Int32.ofInt 0), .ref 165]) 2 rfl ?_
          refine xr_call (q := (.invokevirtual 240, 3, 241, 5)) (av := [.ref 165, .int (Int32.ofInt 0), .int (Int32.ofInt ((x1 + 4 : Nat) : Int)), .int (Int32.ofInt (xr : Int)), .int (Int32.ofInt (K : Int))]) (rest := []) rfl rfl (by decide) rfl (ym_rcv hA rfl) (Nat.le_of_ble_eq_true rfl) (mo_241 (P := js.length) hA (by rw [ya_up_ne _ _ (by omega)]; exact hC.2.1) (by omega)) ?_
          rintro _ _ ⟨rfl, T2, eA, y4⟩
          rw [eA]
          clear eA
          refine xr_iincn (L' := [(7, .int (Int32.ofInt ((j : Int) - 1))), (10, .int (Int32.ofInt (K : Int))), (9, .int (Int32.ofInt (xr : Int))), (8, .int (Int32.ofInt (x1 : Int))), (0, .ref 165), (1, .int (Int32.ofInt (i : Int))), (2, .int (Int32.ofInt (pe : Int))), (3, .int (Int32.ofInt (pa : Int))), (4, .int (Int32.ofInt (po : Int))), (5, .int (Int32.ofInt ((xv_p tt).length : Int))), (6, .int (Int32.ofInt ((xv_p uu).length : Int)))]) rfl rfl rfl ?_
          refine xr_steps (pc' := 98) (L' := [(7, .int (Int32.ofInt ((j : Int) - 1))), (10, .int (Int32.ofInt (K : Int))), (9, .int (Int32.ofInt (xr : Int))), (8, .int (Int32.ofInt (x1 : Int))), (0, .ref 165), (1, .int (Int32.ofInt (i : Int))), (2, .int (Int32.ofInt (pe : Int))), (3, .int (Int32.ofInt (pa : Int))), (4, .int (Int32.ofInt (po : Int))), (5, .int (Int32.ofInt ((xv_p tt).length : Int))), (6, .int (Int32.ofInt ((xv_p uu).length : Int)))]) (st' := []) 1 rfl ?_
          refine xr_loc (L := [(7, .int (Int32.ofInt ((j : Int) - 1))), (0, .ref 165), (1, .int (Int32.ofInt (i : Int))), (2, .int (Int32.ofInt (pe : Int))), (3, .int (Int32.ofInt (pa : Int))), (4, .int (Int32.ofInt (po : Int))), (5, .int (Int32.ofInt ((xv_p tt).length : Int))), (6, .int (Int32.ofInt ((xv_p uu).length : Int)))]) (show [7, 0, 1, 2, 3, 4, 5, 6].Nodup by decide) ⟨rfl, rfl, rfl, rfl, rfl, rfl, rfl, rfl, trivial⟩ ?_
          have hch := (xJV_ch (sl := sl) (H := H) (st := st) (K := K) (pth := pth) (c := 1000 + p1.1) u12 g2 (pe := pe) (ze := ze) (pa := pa) (za := za) (by omega) (by omega) hze hza (hdk.2 p1 (List.mem_of_getElem? hp1)) hl (by omega)).2
          have hadd := xCMS_add (o := po) (c := 1000 + p1.1) (j := (xmk 0 ((x1 + 4 : Nat) : Int) (xr : Int) K (xcm sl H st m p1.2 vr (l ++ [1000 + p1.1])) (xjc H st m p1.2 vr (l ++ [1000 + p1.1])) (m - 1))) (B' := xjm (xjc H st m) (xv_p uu) l (xv_p tt) j + B0) hC hpo.1 ⟨y1, y2, y3b⟩ y4 (by rw [hpo.2]; exact hch) (by rw [est]; show _ = xjc H st m p1.2 vr (l ++ [1000 + p1.1]) + _; omega) (by show js.length + 1 + 50 * (m - 1) ≤ 256; omega)
          rw [hpo.2] at hadd
          refine ih j (by omega) _ T2 (K + 1) _ (js ++ [(xmk 0 ((x1 + 4 : Nat) : Int) (xr : Int) K (xcm sl H st m p1.2 vr (l ++ [1000 + p1.1])) (xjc H st m p1.2 vr (l ++ [1000 + p1.1])) (m - 1))]) (by omega) hadd ⟨by omega, ?_⟩ ?_ ?_ ?_ hQ
          · rw [ya_up_ne _ _ (by omega)]; exact hpo.2
          · rw [List.length_append, List.length_singleton]; omega
          · rw [xcost_app]; show _ + xjc H st m p1.2 vr (l ++ [1000 + p1.1]) + _ = _; omega
          · rw [xout_app, els, hX]; rw [List.append_assoc]; rfl
        · exfalso; omega
      · obtain ⟨est, els⟩ := xjm_none (f := xcm sl H st m) (g := xjc H st m) (l := l) hp1 g1
        refine xr_steps (pc' := 132) (L' := [(9, .int (Int32.ofInt (-1))), (8, .int (Int32.ofInt (x1 : Int))), (7, .int (Int32.ofInt (j : Int))), (0, .ref 165), (1, .int (Int32.ofInt (i : Int))), (2, .int (Int32.ofInt (pe : Int))), (3, .int (Int32.ofInt (pa : Int))), (4, .int (Int32.ofInt (po : Int))), (5, .int (Int32.ofInt ((xv_p tt).length : Int))), (6, .int (Int32.ofInt ((xv_p uu).length : Int)))]) (st' := [.ref 165, .int (Int32.ofInt (po : Int)), .ref 165]) 4 rfl ?_
        refine xr_getf (v := .ref 166) rfl (ym_165 hA) rfl ?_
        refine xr_steps (pc' := 138) (L' := [(9, .int (Int32.ofInt (-1))), (8, .int (Int32.ofInt (x1 : Int))), (7, .int (Int32.ofInt (j : Int))), (0, .ref 165), (1, .int (Int32.ofInt (i : Int))), (2, .int (Int32.ofInt (pe : Int))), (3, .int (Int32.ofInt (pa : Int))), (4, .int (Int32.ofInt (po : Int))), (5, .int (Int32.ofInt ((xv_p tt).length : Int))), (6, .int (Int32.ofInt ((xv_p uu).length : Int)))]) (st' := [.int (Int32.ofInt 1), .int (Int32.ofInt (x1 : Int)), .ref 166, .int (Int32.ofInt (po : Int)), .ref 165]) 2 rfl ?_
        refine xr_iadd rfl ?_
        refine ym_caload (e := t 166 ((x1 : Int) + 1).toNat) hA rfl rfl (by decide) (by omega) (by omega) rfl ?_
        rw [show ((x1 : Int) + 1).toNat = x1 + 1 by omega]
        rw [kx.2]
        refine xr_call (q := (.invokevirtual 237, 3, 253, 3)) (av := [.ref 165, .int (Int32.ofInt (po : Int)), .int (Int32.ofInt p1.1)]) (rest := []) rfl rfl (by decide) rfl (ym_rcv hA rfl) (Nat.le_of_ble_eq_true rfl) (mo_253 (K := K) hA hC.1.1 (by omega)) ?_
        rintro _ _ ⟨rfl, T1, eA, y1, y2, y3⟩
        rw [eA]
        clear eA
        have y3b : T1 181 = va_up (t 181) K (xcv (1000 + p1.1)) := by rw [show xcv (1000 + p1.1) = p1.1 by (unfold xcv; rw [if_pos (by omega)]; omega)]; exact y3
        refine xr_steps (pc' := 148) (L' := [(10, .int (Int32.ofInt (K : Int))), (9, .int (Int32.ofInt (-1))), (8, .int (Int32.ofInt (x1 : Int))), (7, .int (Int32.ofInt (j : Int))), (0, .ref 165), (1, .int (Int32.ofInt (i : Int))), (2, .int (Int32.ofInt (pe : Int))), (3, .int (Int32.ofInt (pa : Int))), (4, .int (Int32.ofInt (po : Int))), (5, .int (Int32.ofInt ((xv_p tt).length : Int))), (6, .int (Int32.ofInt ((xv_p uu).length : Int)))]) (st' := [.int (Int32.ofInt (-1)), .ref 165]) 3 rfl ?_
        refine xr_if_ge rfl (by omega) (fun z33 => ?_) (fun z33 => ?_)
        · exfalso; omega
        · refine xr_steps (pc' := 159) (L' := [(10, .int (Int32.ofInt (K : Int))), (9, .int (Int32.ofInt (-1))), (8, .int (Int32.ofInt (x1 : Int))), (7, .int (Int32.ofInt (j : Int))), (0, .ref 165), (1, .int (Int32.ofInt (i : Int))), (2, .int (Int32.ofInt (pe : Int))), (3, .int (Int32.ofInt (pa : Int))), (4, .int (Int32.ofInt (po : Int))), (5, .int (Int32.ofInt ((xv_p tt).length : Int))), (6, .int (Int32.ofInt ((xv_p uu).length : Int)))]) (st' := [.int (Int32.ofInt 4), .int (Int32.ofInt (x1 : Int)), .int (Int32.ofInt 3), .ref 165]) 4 rfl ?_
          refine xr_iadd rfl ?_
          rw [show (x1 : Int) + 4 = ((x1 + 4 : Nat) : Int) by omega]
          refine xr_steps (pc' := 164) (L' := [(10, .int (Int32.ofInt (K : Int))), (9, .int (Int32.ofInt (-1))), (8, .int (Int32.ofInt (x1 : Int))), (7, .int (Int32.ofInt (j : Int))), (0, .ref 165), (1, .int (Int32.ofInt (i : Int))), (2, .int (Int32.ofInt (pe : Int))), (3, .int (Int32.ofInt (pa : Int))), (4, .int (Int32.ofInt (po : Int))), (5, .int (Int32.ofInt ((xv_p tt).length : Int))), (6, .int (Int32.ofInt ((xv_p uu).length : Int)))]) (st' := [.int (Int32.ofInt (K : Int)), .int (Int32.ofInt (-1)), .int (Int32.ofInt ((x1 + 4 : Nat) : Int)), .int (Int32.ofInt 3), .ref 165]) 2 rfl ?_
          refine xr_call (q := (.invokevirtual 240, 3, 241, 5)) (av := [.ref 165, .int (Int32.ofInt 3), .int (Int32.ofInt ((x1 + 4 : Nat) : Int)), .int (Int32.ofInt (-1)), .int (Int32.ofInt (K : Int))]) (rest := []) rfl rfl (by decide) rfl (ym_rcv hA rfl) (Nat.le_of_ble_eq_true rfl) (mo_241 (P := js.length) hA (by rw [ya_up_ne _ _ (by omega)]; exact hC.2.1) (by omega)) ?_
          rintro _ _ ⟨rfl, T2, eA, y4⟩
          rw [eA]
          clear eA
          refine xr_iincn (L' := [(7, .int (Int32.ofInt ((j : Int) - 1))), (10, .int (Int32.ofInt (K : Int))), (9, .int (Int32.ofInt (-1))), (8, .int (Int32.ofInt (x1 : Int))), (0, .ref 165), (1, .int (Int32.ofInt (i : Int))), (2, .int (Int32.ofInt (pe : Int))), (3, .int (Int32.ofInt (pa : Int))), (4, .int (Int32.ofInt (po : Int))), (5, .int (Int32.ofInt ((xv_p tt).length : Int))), (6, .int (Int32.ofInt ((xv_p uu).length : Int)))]) rfl rfl rfl ?_
          refine xr_steps (pc' := 98) (L' := [(7, .int (Int32.ofInt ((j : Int) - 1))), (10, .int (Int32.ofInt (K : Int))), (9, .int (Int32.ofInt (-1))), (8, .int (Int32.ofInt (x1 : Int))), (0, .ref 165), (1, .int (Int32.ofInt (i : Int))), (2, .int (Int32.ofInt (pe : Int))), (3, .int (Int32.ofInt (pa : Int))), (4, .int (Int32.ofInt (po : Int))), (5, .int (Int32.ofInt ((xv_p tt).length : Int))), (6, .int (Int32.ofInt ((xv_p uu).length : Int)))]) (st' := []) 1 rfl ?_
          refine xr_loc (L := [(7, .int (Int32.ofInt ((j : Int) - 1))), (0, .ref 165), (1, .int (Int32.ofInt (i : Int))), (2, .int (Int32.ofInt (pe : Int))), (3, .int (Int32.ofInt (pa : Int))), (4, .int (Int32.ofInt (po : Int))), (5, .int (Int32.ofInt ((xv_p tt).length : Int))), (6, .int (Int32.ofInt ((xv_p uu).length : Int)))]) (show [7, 0, 1, 2, 3, 4, 5, 6].Nodup by decide) ⟨rfl, rfl, rfl, rfl, rfl, rfl, rfl, rfl, trivial⟩ ?_
          have hch := xJV_ls (E := t0 166) (sl := sl) (H := H) (st := st) (K := K) (pth := pth) (l := l) (c := 1000 + p1.1) (e := ((x1 + 4 : Nat) : Int)) (a := -1) (Or.inl rfl) ⟨by omega, hl.2⟩ (by omega)
          have hadd := xCMS_add (o := po) (c := 1000 + p1.1) (j := (xmk 3 ((x1 + 4 : Nat) : Int) (-1) K [(3, l ++ [1000 + p1.1])] 1 0)) (B' := xjm (xjc H st m) (xv_p uu) l (xv_p tt) j + B0) hC hpo.1 ⟨y1, y2, y3b⟩ y4 (by rw [hpo.2]; exact hch) (by rw [est]; show _ = 1 + _; omega) (by show js.length + 1 + 50 * 0 ≤ 256; omega)
          rw [hpo.2] at hadd
          refine ih j (by omega) _ T2 (K + 1) _ (js ++ [(xmk 3 ((x1 + 4 : Nat) : Int) (-1) K [(3, l ++ [1000 + p1.1])] 1 0)]) (by omega) hadd ⟨by omega, ?_⟩ ?_ ?_ ?_ hQ
          · rw [ya_up_ne _ _ (by omega)]; exact hpo.2
          · rw [List.length_append, List.length_singleton]; omega
          · rw [xcost_app]; show _ + 1 + _ = _; omega
          · rw [xout_app, els, hX]; rfl
end ME
section MF
variable {w : Value} {d : Nat} {A : xb_H} {t0 t : Nat → Nat → Int} {s0 s : Nat → Int} {sl : List Int → Bool} {H : (n : Nat) → xv (n + 1) → xv (n + 1) → List Int → Nat} {st : Int} {ms : List (Int × List Int)} {i m pe pa ze za po K B : Nat} {tt uu : xv (m + 1)} {l : List Int} {pth : Nat → List Int} {js : List xJ} {X : List (Int × List Int)} {hb C0 B0 : Nat} {Q : xb_R → xb_H → Prop}
theorem xjc_arr {n : Nat} {t u : xv (n + 1)} (h : ¬ H n t u l = 0) (h4 : xv_k t = 4 ∧ xv_k u = 4) : xjc H st (n + 1) t u l = 1 + xjE (xjc H st n) (xv_p t) (decide (H n t u l = 3)) l (xv_p u) 0 := by
  rw [xjc, if_neg h, if_pos h4]
theorem xjc_obj {n : Nat} {t u : xv (n + 1)} (h : ¬ H n t u l = 0) (h5 : xv_k t = 5 ∧ xv_k u = 5) : xjc H st (n + 1) t u l = 1 + (xjM (xjc H st n) (xv_p u) l (xv_p t) + (if st = 1 then (xun (xv_p t) l (xv_p u)).length else 0)) := by
  rw [xjc, if_neg h, if_neg (by omega), if_pos h5]
theorem mo_254c (hA : 194 ≤ A.1) (hE : ∀ j : Nat, 0 ≤ t0 166 j ∧ t0 166 j ≤ 127) (hm : m ≤ 5) (he : xV (t0 166) (m + 1) pe tt ze) (hu : xV (t0 166) (m + 1) pa uu za) (hze : ze ≤ pe + 100 ∧ ze < 3711) (hza : za ≤ pa + 100 ∧ za < 3711) (hdk : xdk (m + 1) tt) (hl : l.length + m = 5 ∧ xpl0 l) (h5 : xv_k tt = 5 ∧ xv_k uu = 5) (hh : hb + 1 + 50 * m ≤ 256) (hC : xCMS t0 s0 sl H st s t K pth js ms B) (hB : xjM (xjc H st m) (xv_p uu) l (xv_p tt) ≤ B) (hpo : po < K ∧ pth po = l) (hjs : js.length ≤ hb + 16 ∧ xcost js ≤ C0) (hX : xout js = X) : xr_ok (xt_G w) (d + 1 + 1 + 1 + 1 + 1) 254 92 [(0, .ref 165), (1, .int (Int32.ofInt (i : Int))), (2, .int (Int32.ofInt (pe : Int))), (3, .int (Int32.ofInt (pa : Int))), (4, .int (Int32.ofInt (po : Int))), (5, .int (Int32.ofInt ((xv_p tt).length : Int))), (6, .int (Int32.ofInt ((xv_p uu).length : Int)))] [] (ym A s t) (fun o A' => ∃ v0, o = .inl v0 ∧ v0 = none ∧ ∃ (s' : Nat → Int) (t' : Nat → Nat → Int) (K' : Nat) (pth' : Nat → List Int) (js' : List xJ), A' = ym A s' t' ∧ xCMS t0 s0 sl H st s' t' K' pth' js' ms 0 ∧ xcost js' ≤ C0 + xjM (xjc H st m) (xv_p uu) l (xv_p tt) ∧ xout js' = (xme (xcm sl H st m) (xv_p uu) l (xv_p tt)) ++ X) := by
  have hl16 : (xv_p tt).length ≤ 16 ∧ (xv_p uu).length ≤ 16 := ⟨(xV_16 _ _ _ _ he hze.1).1.1 h5.1, (xV_16 _ _ _ _ hu hza.1).1.1 h5.2⟩
  refine xr_steps (pc' := 95) (L' := [(0, .ref 165), (1, .int (Int32.ofInt (i : Int))), (2, .int (Int32.ofInt (pe : Int))), (3, .int (Int32.ofInt (pa : Int))), (4, .int (Int32.ofInt (po : Int))), (5, .int (Int32.ofInt ((xv_p tt).length : Int))), (6, .int (Int32.ofInt ((xv_p uu).length : Int)))]) (st' := [.int (Int32.ofInt 1), .int (Int32.ofInt ((xv_p tt).length : Int))]) 2 rfl ?_
  refine xr_isub rfl ?_
  refine xr_steps (pc' := 98) (L' := [(7, .int (Int32.ofInt (((xv_p tt).length : Int) - 1))), (0, .ref 165), (1, .int (Int32.ofInt (i : Int))), (2, .int (Int32.ofInt (pe : Int))), (3, .int (Int32.ofInt (pa : Int))), (4, .int (Int32.ofInt (po : Int))), (5, .int (Int32.ofInt ((xv_p tt).length : Int))), (6, .int (Int32.ofInt ((xv_p uu).length : Int)))]) (st' := []) 1 rfl ?_
  refine xr_loc (L := [(7, .int (Int32.ofInt (((xv_p tt).length : Int) - 1))), (0, .ref 165), (1, .int (Int32.ofInt (i : Int))), (2, .int (Int32.ofInt (pe : Int))), (3, .int (Int32.ofInt (pa : Int))), (4, .int (Int32.ofInt (po : Int))), (5, .int (Int32.ofInt ((xv_p tt).length : Int))), (6, .int (Int32.ofInt ((xv_p uu).length : Int)))]) (show [7, 0, 1, 2, 3, 4, 5, 6].Nodup by decide) ⟨rfl, rfl, rfl, rfl, rfl, rfl, rfl, rfl, trivial⟩ ?_
  have hJ := xjm_sum (g := xjc H st m) (us := xv_p uu) (l := l) (ps := xv_p tt) (xv_p tt).length (Nat.le_refl _)
  refine mo_254b (hb := hb) (X := X) (C0 := xcost js + xjm (xjc H st m) (xv_p uu) l (xv_p tt) (xv_p tt).length) (B0 := 0) hA hE hm he hu hze hza hdk hl h5 hh (xv_p tt).length s t K pth js (Nat.le_refl _) (xCMS_le hC (by omega)) hpo (by omega) rfl (by rw [List.drop_length]; exact hX) (fun s' t' K' pth' js' g1 g2 g3 g4 => ?_)
  exact ⟨_, rfl, rfl, s', t', K', pth', js', rfl, g1, by rw [g3]; omega, g4⟩
theorem mo_254 (hA : 194 ≤ A.1) (hE : ∀ j : Nat, 0 ≤ t0 166 j ∧ t0 166 j ≤ 127) (hm : m ≤ 5) (he : xV (t0 166) (m + 1) pe tt ze) (hu : xV (t0 166) (m + 1) pa uu za) (hze : ze ≤ pe + 100 ∧ ze < 3711) (hza : za ≤ pa + 100 ∧ za < 3711) (hdk : xdk (m + 1) tt) (hl : l.length + m = 5 ∧ xpl0 l) (h5 : xv_k tt = 5 ∧ xv_k uu = 5) (hi : i < 4) (hst : t0 167 i = st ∧ (st = 0 ∨ st = 1)) (hC : xCMS t0 s0 sl H st s t K pth js ms B) (hB : xjM (xjc H st m) (xv_p uu) l (xv_p tt) + (if st = 1 then (xun (xv_p tt) l (xv_p uu)).length else 0) ≤ B) (hpo : po < K ∧ pth po = l) (hh : js.length + 1 + 50 * m ≤ 256) : xr_ok (xt_G w) (d + 1 + 1 + 1 + 1 + 1) 254 0 [(0, .ref 165), (1, .int (Int32.ofInt (i : Int))), (2, .int (Int32.ofInt (pe : Int))), (3, .int (Int32.ofInt (pa : Int))), (4, .int (Int32.ofInt (po : Int)))] [] (ym A s t) (fun o A' => ∃ v0, o = .inl v0 ∧ v0 = none ∧ ∃ (s' : Nat → Int) (t' : Nat → Nat → Int) (K' : Nat) (pth' : Nat → List Int) (js' : List xJ), A' = ym A s' t' ∧ xCMS t0 s0 sl H st s' t' K' pth' js' ms 0 ∧ xcost js' ≤ xcost js + (xjM (xjc H st m) (xv_p uu) l (xv_p tt) + (if st = 1 then (xun (xv_p tt) l (xv_p uu)).length else 0)) ∧ xout js' = (xme (xcm sl H st m) (xv_p uu) l (xv_p tt) ++ (if st = 1 then xun (xv_p tt) l (xv_p uu) else [])) ++ xout js) := by
  have e0 := xCMS_166 hC (x := 166) (by omega)
  have hE1 : ∀ j : Nat, 0 ≤ t 166 j ∧ t 166 j ≤ 127 := by rw [e0]; exact hE
  have he1 : xV (t 166) (m + 1) pe tt ze := by rw [e0]; exact he
  have hu1 : xV (t 166) (m + 1) pa uu za := by rw [e0]; exact hu
  have hl16 : (xv_p tt).length ≤ 16 ∧ (xv_p uu).length ≤ 16 := ⟨(xV_16 _ _ _ _ he hze.1).1.1 h5.1, (xV_16 _ _ _ _ hu hza.1).1.1 h5.2⟩
  refine xr_steps (pc' := 2) (L' := [(0, .ref 165), (1, .int (Int32.ofInt (i : Int))), (2, .int (Int32.ofInt (pe : Int))), (3, .int (Int32.ofInt (pa : Int))), (4, .int (Int32.ofInt (po : Int)))]) (st' := [.int (Int32.ofInt (pe : Int)), .ref 165]) 2 rfl ?_
  refine xr_call (q := (.invokevirtual 135, 3, 221, 2)) (av := [.ref 165, .int (Int32.ofInt (pe : Int))]) (rest := []) rfl rfl (by decide) rfl (ym_rcv hA rfl) (Nat.le_of_ble_eq_true rfl) (mo_221 hA hE1 hm he1 (by omega) (by omega) hze.1) ?_
  rintro _ _ ⟨rfl, eA⟩
  rw [eA]
  clear eA
  refine xr_steps (pc' := 9) (L' := [(5, .int (Int32.ofInt ((xv_p tt).length : Int))), (0, .ref 165), (1, .int (Int32.ofInt (i : Int))), (2, .int (Int32.ofInt (pe : Int))), (3, .int (Int32.ofInt (pa : Int))), (4, .int (Int32.ofInt (po : Int)))]) (st' := [.int (Int32.ofInt (pa : Int)), .ref 165]) 3 rfl ?_
  refine xr_call (q := (.invokevirtual 135, 3, 221, 2)) (av := [.ref 165, .int (Int32.ofInt (pa : Int))]) (rest := []) rfl rfl (by decide) rfl (ym_rcv hA rfl) (Nat.le_of_ble_eq_true rfl) (mo_221 hA hE1 hm hu1 (by omega) (by omega) hza.1) ?_
  rintro _ _ ⟨rfl, eA⟩
  rw [eA]
  clear eA
  refine xr_steps (pc' := 17) (L' := [(6, .int (Int32.ofInt ((xv_p uu).length : Int))), (5, .int (Int32.ofInt ((xv_p tt).length : Int))), (0, .ref 165), (1, .int (Int32.ofInt (i : Int))), (2, .int (Int32.ofInt (pe : Int))), (3, .int (Int32.ofInt (pa : Int))), (4, .int (Int32.ofInt (po : Int)))]) (st' := [.int (Int32.ofInt 1), .int (Int32.ofInt ((xv_p uu).length : Int))]) 3 rfl ?_
  refine xr_isub rfl ?_
  refine xr_steps (pc' := 20) (L' := [(7, .int (Int32.ofInt (((xv_p uu).length : Int) - 1))), (6, .int (Int32.ofInt ((xv_p uu).length : Int))), (5, .int (Int32.ofInt ((xv_p tt).length : Int))), (0, .ref 165), (1, .int (Int32.ofInt (i : Int))), (2, .int (Int32.ofInt (pe : Int))), (3, .int (Int32.ofInt (pa : Int))), (4, .int (Int32.ofInt (po : Int)))]) (st' := []) 1 rfl ?_
  refine xr_loc (L := [(7, .int (Int32.ofInt (((xv_p uu).length : Int) - 1))), (0, .ref 165), (1, .int (Int32.ofInt (i : Int))), (2, .int (Int32.ofInt (pe : Int))), (3, .int (Int32.ofInt (pa : Int))), (4, .int (Int32.ofInt (po : Int))), (5, .int (Int32.ofInt ((xv_p tt).length : Int))), (6, .int (Int32.ofInt ((xv_p uu).length : Int)))]) (show [7, 0, 1, 2, 3, 4, 5, 6].Nodup by decide) ⟨rfl, rfl, rfl, rfl, rfl, rfl, rfl, rfl, trivial⟩ ?_
  by_cases hst2 : st = 1
  · have hU := xuk_sum (ps := xv_p tt) (us := xv_p uu) (l := l) (xv_p uu).length (Nat.le_refl _)
    rw [List.drop_length] at hU
    have hU2 : xuk (xv_p tt) (xv_p uu) (xv_p uu).length = (xun (xv_p tt) l (xv_p uu)).length := hU
    rw [if_pos hst2] at hB
    refine mo_254a (hb := js.length) (X := xout js) (C0 := xcost js + xuk (xv_p tt) (xv_p uu) (xv_p uu).length) (B0 := xjM (xjc H st m) (xv_p uu) l (xv_p tt)) hA hE hm he hu hze hza hdk hl h5 hi (fun t' ht => by rw [ht]; omega) hh (xv_p uu).length s t K pth js (Nat.le_refl _) (xCMS_le hC (by omega)) hpo (by omega) rfl (by rw [List.drop_length]; rfl) (fun s2 t2 K2 pth2 js2 g1 g2 g3 g4 g5 => ?_)
    refine xr_conseq (mo_254c (B := xjM (xjc H st m) (xv_p uu) l (xv_p tt)) (C0 := xcost js2) (X := (xun (xv_p tt) l (xv_p uu) ++ xout js)) hA hE hm he hu hze hza hdk hl h5 hh g1 (by omega) g2 (by omega) g5) ?_
    rintro o A' ⟨v0, h1, h2, s', t', K', pth', js', h3, h4, h6, h7⟩
    exact ⟨v0, h1, h2, s', t', K', pth', js', h3, h4, (by rw [if_pos hst2]; omega), (by rw [if_pos hst2, h7, List.append_assoc])⟩
  · refine xr_steps (pc' := 22) (L' := [(7, .int (Int32.ofInt (((xv_p uu).length : Int) - 1))), (0, .ref 165), (1, .int (Int32.ofInt (i : Int))), (2, .int (Int32.ofInt (pe : Int))), (3, .int (Int32.ofInt (pa : Int))), (4, .int (Int32.ofInt (po : Int))), (5, .int (Int32.ofInt ((xv_p tt).length : Int))), (6, .int (Int32.ofInt ((xv_p uu).length : Int)))]) (st' := [.int (Int32.ofInt (((xv_p uu).length : Int) - 1))]) 1 rfl ?_
    refine xr_if_lt rfl (by omega) (fun z31 => ?_) (fun z31 => ?_)
    · refine xr_loc (L := [(0, .ref 165), (1, .int (Int32.ofInt (i : Int))), (2, .int (Int32.ofInt (pe : Int))), (3, .int (Int32.ofInt (pa : Int))), (4, .int (Int32.ofInt (po : Int))), (5, .int (Int32.ofInt ((xv_p tt).length : Int))), (6, .int (Int32.ofInt ((xv_p uu).length : Int)))]) (show [0, 1, 2, 3, 4, 5, 6].Nodup by decide) ⟨rfl, rfl, rfl, rfl, rfl, rfl, rfl, trivial⟩ ?_
      refine xr_conseq (mo_254c (B := B) (C0 := xcost js) (X := xout js) hA hE hm he hu hze hza hdk hl h5 hh hC (by omega) hpo (by omega) rfl) ?_
      rintro o A' ⟨v0, h1, h2, s', t', K', pth', js', h3, h4, h6, h7⟩
      exact ⟨v0, h1, h2, s', t', K', pth', js', h3, h4, (by rw [if_neg hst2]; exact h6), (by rw [if_neg hst2, List.append_nil]; exact h7)⟩
    · refine xr_steps (pc' := 26) (L' := [(7, .int (Int32.ofInt (((xv_p uu).length : Int) - 1))), (0, .ref 165), (1, .int (Int32.ofInt (i : Int))), (2, .int (Int32.ofInt (pe : Int))), (3, .int (Int32.ofInt (pa : Int))), (4, .int (Int32.ofInt (po : Int))), (5, .int (Int32.ofInt ((xv_p tt).length : Int))), (6, .int (Int32.ofInt ((xv_p uu).length : Int)))]) (st' := [.ref 165]) 1 rfl ?_
      refine xr_getf (v := .ref 167) rfl (ym_165 hA) rfl ?_
      refine xr_steps (pc' := 30) (L' := [(7, .int (Int32.ofInt (((xv_p uu).length : Int) - 1))), (0, .ref 165), (1, .int (Int32.ofInt (i : Int))), (2, .int (Int32.ofInt (pe : Int))), (3, .int (Int32.ofInt (pa : Int))), (4, .int (Int32.ofInt (po : Int))), (5, .int (Int32.ofInt ((xv_p tt).length : Int))), (6, .int (Int32.ofInt ((xv_p uu).length : Int)))]) (st' := [.int (Int32.ofInt (i : Int)), .ref 167]) 1 rfl ?_
      refine ym_baload (e := t 167 (i : Int).toNat) hA rfl rfl (by decide) (by omega) (by omega) rfl ?_
      rw [show (i : Int).toNat = i by omega]
      rw [show t 167 i = 0 by (rw [xCMS_166 hC (x := 167) (by omega)]; have := hst; omega)]
      refine xr_if_eq rfl (by omega) (fun z32 => ?_) (fun z32 => ?_)
      · refine xr_loc (L := [(0, .ref 165), (1, .int (Int32.ofInt (i : Int))), (2, .int (Int32.ofInt (pe : Int))), (3, .int (Int32.ofInt (pa : Int))), (4, .int (Int32.ofInt (po : Int))), (5, .int (Int32.ofInt ((xv_p tt).length : Int))), (6, .int (Int32.ofInt ((xv_p uu).length : Int)))]) (show [0, 1, 2, 3, 4, 5, 6].Nodup by decide) ⟨rfl, rfl, rfl, rfl, rfl, rfl, rfl, trivial⟩ ?_
        refine xr_conseq (mo_254c (B := B) (C0 := xcost js) (X := xout js) hA hE hm he hu hze hza hdk hl h5 hh hC (by omega) hpo (by omega) rfl) ?_
        rintro o A' ⟨v0, h1, h2, s', t', K', pth', js', h3, h4, h6, h7⟩
        exact ⟨v0, h1, h2, s', t', K', pth', js', h3, h4, (by rw [if_neg hst2]; exact h6), (by rw [if_neg hst2, List.append_nil]; exact h7)⟩
      · exfalso; omega
end MF
/-! The reference: compared -/
theorem xRL_eq {t t0 : Nat → Nat → Int} {r : Nat} {R : List Int × List (Int × Int × List Int) × Int} (h : xRL t0 r R) (h1 : t 166 = t0 166) (h2 : t 170 = t0 170) : xRL t r R := by
  unfold xRL
  rw [h1, h2]
  exact h
theorem xV_lit {E : Nat → Int} {m p q : Nat} {u : xv (m + 1)} (h : xV E (m + 1) p u q) : (xv_k u < 4 ∧ xV0 E p (xv_k u) (xv_l u) q) ∨ (4 ≤ xv_k u ∧ xv_l u = []) := by
  obtain ⟨-, -, ⟨-, h1⟩ | ⟨h1, h2⟩⟩ := h
  · exact Or.inl ⟨h1.1, h1⟩
  · refine Or.inr ⟨?_, h1⟩
    rcases h2 with ⟨h2, -⟩ | ⟨h2, -⟩ <;> omega
section CP
variable {w : Value} {d : Nat} {A : xb_H} {t0 t : Nat → Nat → Int} {s0 s : Nat → Int} {sl : List Int → Bool} {H : (n : Nat) → xv (n + 1) → xv (n + 1) → List Int → Nat} {st : Int} {ms : List (Int × List Int)} {i m pe pa ze za po K B : Nat} {tt uu : xv (m + 1)} {l : List Int} {pth : Nat → List Int} {js : List xJ} {v b : Int} {rs : List (List Int × List (Int × Int × List Int) × Int)}
theorem mo_245b (hA : 194 ≤ A.1) (hE : ∀ j : Nat, 0 ≤ t0 166 j ∧ t0 166 j ≤ 127) (hm : m ≤ 5) (he : xV (t0 166) (m + 1) pe tt ze) (hu : xV (t0 166) (m + 1) pa uu za) (hze : ze ≤ pe + 100 ∧ ze < 3711) (hza : za ≤ pa + 100 ∧ za < 3711) (hdk : xdk (m + 1) tt) (hl : l.length + m = 5 ∧ xpl0 l) (hi : i < 4) (hst : t0 167 i = st ∧ (st = 0 ∨ st = 1)) (hC : xCMS t0 s0 sl H st s t K pth js ms B) (hB : xjc H st (m + 1) tt uu l ≤ B + 1) (hpo : po < K ∧ pth po = l) (hp : xpst s t l) (hh : js.length + 1 + 50 * m ≤ 256) (hH : ¬ H m tt uu l = 0) (hv : (v = 3 ↔ H m tt uu l = 3) ∧ 0 ≤ v ∧ v ≤ 3) : xr_ok (xt_G w) (d + 1 + 1 + 1 + 1 + 1 + 1 + 1 + 1) 245 108 [(7, .int (Int32.ofInt 1)), (6, .int (Int32.ofInt v)), (5, .int (Int32.ofInt b)), (0, .ref 165), (1, .int (Int32.ofInt (i : Int))), (2, .int (Int32.ofInt (pe : Int))), (3, .int (Int32.ofInt (pa : Int))), (4, .int (Int32.ofInt (po : Int)))] [] (ym A s t) (fun o A' => ∃ v0, o = .inl v0 ∧ ∃ (v : Int) (s' : Nat → Int) (t' : Nat → Nat → Int) (K' : Nat) (pth' : Nat → List Int) (js' : List xJ) (dl es : List (Int × List Int)), (v0 = some (.int (Int32.ofInt v)) ∧ A' = ym A s' t') ∧ v = (dl.length : Int) ∧ xCMS t0 s0 sl H st s' t' K' pth' js' (ms ++ dl) 0 ∧ xcost js' + 1 ≤ xcost js + xjc H st (m + 1) tt uu l ∧ xout js' = es ++ xout js ∧ xcm sl H st (m + 1) tt uu l = dl ++ es) := by
  have e0 := xCMS_166 hC (x := 166) (by omega)
  have hE1 : ∀ j : Nat, 0 ≤ t 166 j ∧ t 166 j ≤ 127 := by rw [e0]; exact hE
  have he1 : xV (t 166) (m + 1) pe tt ze := by rw [e0]; exact he
  have hu1 : xV (t 166) (m + 1) pa uu za := by rw [e0]; exact hu
  have hk1 := xV_k he1
  have hk2 := xV_k hu1
  have hl1 := xV_lt he
  have hl2 := xV_lt hu
  have hw1 := (xV_wf (m + 1) pe ze tt he hze.1).1
  have hw2 := (xV_wf (m + 1) pa za uu hu hza.1).1
  refine xr_steps (pc' := 110) (L' := [(7, .int (Int32.ofInt 1)), (6, .int (Int32.ofInt v)), (5, .int (Int32.ofInt b)), (0, .ref 165), (1, .int (Int32.ofInt (i : Int))), (2, .int (Int32.ofInt (pe : Int))), (3, .int (Int32.ofInt (pa : Int))), (4, .int (Int32.ofInt (po : Int)))]) (st' := [.int (Int32.ofInt (pe : Int)), .ref 165]) 2 rfl ?_
  refine xr_call (q := (.invokevirtual 125, 3, 217, 2)) (av := [.ref 165, .int (Int32.ofInt (pe : Int))]) (rest := []) rfl rfl (by decide) rfl (ym_rcv hA rfl) (Nat.le_of_ble_eq_true rfl) (mo_217 hA hE1 (by omega)) ?_
  rintro _ _ ⟨rfl, eA⟩
  rw [eA]
  clear eA
  rw [hk1]
  refine xr_steps (pc' := 114) (L' := [(7, .int (Int32.ofInt 1)), (6, .int (Int32.ofInt v)), (5, .int (Int32.ofInt b)), (0, .ref 165), (1, .int (Int32.ofInt (i : Int))), (2, .int (Int32.ofInt (pe : Int))), (3, .int (Int32.ofInt (pa : Int))), (4, .int (Int32.ofInt (po : Int)))]) (st' := [.int (Int32.ofInt 4), .int (Int32.ofInt ((xv_k tt : Nat) : Int))]) 1 rfl ?_
  refine xr_icmp_ne rfl (by omega) (by omega) (fun z31 => ?_) (fun z31 => ?_)
  · refine xr_steps (pc' := 148) (L' := [(7, .int (Int32.ofInt 1)), (6, .int (Int32.ofInt v)), (5, .int (Int32.ofInt b)), (0, .ref 165), (1, .int (Int32.ofInt (i : Int))), (2, .int (Int32.ofInt (pe : Int))), (3, .int (Int32.ofInt (pa : Int))), (4, .int (Int32.ofInt (po : Int)))]) (st' := [.int (Int32.ofInt (pe : Int)), .ref 165]) 2 rfl ?_
    refine xr_call (q := (.invokevirtual 125, 3, 217, 2)) (av := [.ref 165, .int (Int32.ofInt (pe : Int))]) (rest := []) rfl rfl (by decide) rfl (ym_rcv hA rfl) (Nat.le_of_ble_eq_true rfl) (mo_217 hA hE1 (by omega)) ?_
    rintro _ _ ⟨rfl, eA⟩
    rw [eA]
    clear eA
    rw [hk1]
    refine xr_steps (pc' := 152) (L' := [(7, .int (Int32.ofInt 1)), (6, .int (Int32.ofInt v)), (5, .int (Int32.ofInt b)), (0, .ref 165), (1, .int (Int32.ofInt (i : Int))), (2, .int (Int32.ofInt (pe : Int))), (3, .int (Int32.ofInt (pa : Int))), (4, .int (Int32.ofInt (po : Int)))]) (st' := [.int (Int32.ofInt 5), .int (Int32.ofInt ((xv_k tt : Nat) : Int))]) 1 rfl ?_
    refine xr_icmp_ne rfl (by omega) (by omega) (fun z32 => ?_) (fun z32 => ?_)
    · refine xr_steps (pc' := 174) (L' := [(7, .int (Int32.ofInt 1)), (6, .int (Int32.ofInt v)), (5, .int (Int32.ofInt b)), (0, .ref 165), (1, .int (Int32.ofInt (i : Int))), (2, .int (Int32.ofInt (pe : Int))), (3, .int (Int32.ofInt (pa : Int))), (4, .int (Int32.ofInt (po : Int)))]) (st' := [.int (Int32.ofInt 0)]) 1 rfl ?_
      refine xr_retI2 rfl rfl ⟨_, rfl, 0, s, t, K, pth, js, [], [], ⟨rfl, rfl⟩, rfl, by rw [List.append_nil]; exact xCMS_le hC (Nat.zero_le _), ?_, rfl, ?_⟩
      · have := xjc_pos (H := H) (st := st) (p := tt) (q := uu) (l := l); omega
      · rw [xcm_els hH (by omega) (by omega)]; rfl
    · refine xr_steps (pc' := 157) (L' := [(7, .int (Int32.ofInt 1)), (6, .int (Int32.ofInt v)), (5, .int (Int32.ofInt b)), (0, .ref 165), (1, .int (Int32.ofInt (i : Int))), (2, .int (Int32.ofInt (pe : Int))), (3, .int (Int32.ofInt (pa : Int))), (4, .int (Int32.ofInt (po : Int)))]) (st' := [.int (Int32.ofInt (pa : Int)), .ref 165]) 2 rfl ?_
      refine xr_call (q := (.invokevirtual 125, 3, 217, 2)) (av := [.ref 165, .int (Int32.ofInt (pa : Int))]) (rest := []) rfl rfl (by decide) rfl (ym_rcv hA rfl) (Nat.le_of_ble_eq_true rfl) (mo_217 hA hE1 (by omega)) ?_
      rintro _ _ ⟨rfl, eA⟩
      rw [eA]
      clear eA
      rw [hk2]
      refine xr_steps (pc' := 161) (L' := [(7, .int (Int32.ofInt 1)), (6, .int (Int32.ofInt v)), (5, .int (Int32.ofInt b)), (0, .ref 165), (1, .int (Int32.ofInt (i : Int))), (2, .int (Int32.ofInt (pe : Int))), (3, .int (Int32.ofInt (pa : Int))), (4, .int (Int32.ofInt (po : Int)))]) (st' := [.int (Int32.ofInt 5), .int (Int32.ofInt ((xv_k uu : Nat) : Int))]) 1 rfl ?_
      refine xr_icmp_ne rfl (by omega) (by omega) (fun z33 => ?_) (fun z33 => ?_)
      · refine xr_steps (pc' := 174) (L' := [(7, .int (Int32.ofInt 1)), (6, .int (Int32.ofInt v)), (5, .int (Int32.ofInt b)), (0, .ref 165), (1, .int (Int32.ofInt (i : Int))), (2, .int (Int32.ofInt (pe : Int))), (3, .int (Int32.ofInt (pa : Int))), (4, .int (Int32.ofInt (po : Int)))]) (st' := [.int (Int32.ofInt 0)]) 1 rfl ?_
        refine xr_retI2 rfl rfl ⟨_, rfl, 0, s, t, K, pth, js, [], [], ⟨rfl, rfl⟩, rfl, by rw [List.append_nil]; exact xCMS_le hC (Nat.zero_le _), ?_, rfl, ?_⟩
        · have := xjc_pos (H := H) (st := st) (p := tt) (q := uu) (l := l); omega
        · rw [xcm_els hH (by omega) (by omega)]; rfl
      · refine xr_steps (pc' := 170) (L' := [(7, .int (Int32.ofInt 1)), (6, .int (Int32.ofInt v)), (5, .int (Int32.ofInt b)), (0, .ref 165), (1, .int (Int32.ofInt (i : Int))), (2, .int (Int32.ofInt (pe : Int))), (3, .int (Int32.ofInt (pa : Int))), (4, .int (Int32.ofInt (po : Int)))]) (st' := [.int (Int32.ofInt (po : Int)), .int (Int32.ofInt (pa : Int)), .int (Int32.ofInt (pe : Int)), .int (Int32.ofInt (i : Int)), .ref 165]) 5 rfl ?_
        have hja := xjc_obj (st := st) hH (show xv_k tt = 5 ∧ xv_k uu = 5 by omega)
        refine xr_call (q := (.invokevirtual 233, 3, 254, 5)) (av := [.ref 165, .int (Int32.ofInt (i : Int)), .int (Int32.ofInt (pe : Int)), .int (Int32.ofInt (pa : Int)), .int (Int32.ofInt (po : Int))]) (rest := []) rfl rfl (by decide) rfl (ym_rcv hA rfl) (Nat.le_of_ble_eq_true rfl) (mo_254 hA hE hm he hu hze hza hdk hl (by omega) hi hst hC (by omega) hpo hh) ?_
        rintro _ _ ⟨rfl, s1, t1, K1, pth1, js1, eA, g1, g2, g3⟩
        rw [eA]
        clear eA
        refine xr_steps (pc' := 174) (L' := [(7, .int (Int32.ofInt 1)), (6, .int (Int32.ofInt v)), (5, .int (Int32.ofInt b)), (0, .ref 165), (1, .int (Int32.ofInt (i : Int))), (2, .int (Int32.ofInt (pe : Int))), (3, .int (Int32.ofInt (pa : Int))), (4, .int (Int32.ofInt (po : Int)))]) (st' := [.int (Int32.ofInt 0)]) 1 rfl ?_
        refine xr_retI2 rfl rfl ⟨_, rfl, 0, s1, t1, K1, pth1, js1, [], _, ⟨rfl, rfl⟩, rfl, by rw [List.append_nil]; exact g1, by omega, g3, ?_⟩
        rw [xcm_obj hH (by omega), List.nil_append]
  · refine xr_steps (pc' := 119) (L' := [(7, .int (Int32.ofInt 1)), (6, .int (Int32.ofInt v)), (5, .int (Int32.ofInt b)), (0, .ref 165), (1, .int (Int32.ofInt (i : Int))), (2, .int (Int32.ofInt (pe : Int))), (3, .int (Int32.ofInt (pa : Int))), (4, .int (Int32.ofInt (po : Int)))]) (st' := [.int (Int32.ofInt (pa : Int)), .ref 165]) 2 rfl ?_
    refine xr_call (q := (.invokevirtual 125, 3, 217, 2)) (av := [.ref 165, .int (Int32.ofInt (pa : Int))]) (rest := []) rfl rfl (by decide) rfl (ym_rcv hA rfl) (Nat.le_of_ble_eq_true rfl) (mo_217 hA hE1 (by omega)) ?_
    rintro _ _ ⟨rfl, eA⟩
    rw [eA]
    clear eA
    rw [hk2]
    refine xr_steps (pc' := 123) (L' := [(7, .int (Int32.ofInt 1)), (6, .int (Int32.ofInt v)), (5, .int (Int32.ofInt b)), (0, .ref 165), (1, .int (Int32.ofInt (i : Int))), (2, .int (Int32.ofInt (pe : Int))), (3, .int (Int32.ofInt (pa : Int))), (4, .int (Int32.ofInt (po : Int)))]) (st' := [.int (Int32.ofInt 4), .int (Int32.ofInt ((xv_k uu : Nat) : Int))]) 1 rfl ?_
    refine xr_icmp_ne rfl (by omega) (by omega) (fun z34 => ?_) (fun z34 => ?_)
    · refine xr_steps (pc' := 148) (L' := [(7, .int (Int32.ofInt 1)), (6, .int (Int32.ofInt v)), (5, .int (Int32.ofInt b)), (0, .ref 165), (1, .int (Int32.ofInt (i : Int))), (2, .int (Int32.ofInt (pe : Int))), (3, .int (Int32.ofInt (pa : Int))), (4, .int (Int32.ofInt (po : Int)))]) (st' := [.int (Int32.ofInt (pe : Int)), .ref 165]) 2 rfl ?_
      refine xr_call (q := (.invokevirtual 125, 3, 217, 2)) (av := [.ref 165, .int (Int32.ofInt (pe : Int))]) (rest := []) rfl rfl (by decide) rfl (ym_rcv hA rfl) (Nat.le_of_ble_eq_true rfl) (mo_217 hA hE1 (by omega)) ?_
      rintro _ _ ⟨rfl, eA⟩
      rw [eA]
      clear eA
      rw [hk1]
      refine xr_steps (pc' := 152) (L' := [(7, .int (Int32.ofInt 1)), (6, .int (Int32.ofInt v)), (5, .int (Int32.ofInt b)), (0, .ref 165), (1, .int (Int32.ofInt (i : Int))), (2, .int (Int32.ofInt (pe : Int))), (3, .int (Int32.ofInt (pa : Int))), (4, .int (Int32.ofInt (po : Int)))]) (st' := [.int (Int32.ofInt 5), .int (Int32.ofInt ((xv_k tt : Nat) : Int))]) 1 rfl ?_
      refine xr_icmp_ne rfl (by omega) (by omega) (fun z35 => ?_) (fun z35 => ?_)
      · refine xr_steps (pc' := 174) (L' := [(7, .int (Int32.ofInt 1)), (6, .int (Int32.ofInt v)), (5, .int (Int32.ofInt b)), (0, .ref 165), (1, .int (Int32.ofInt (i : Int))), (2, .int (Int32.ofInt (pe : Int))), (3, .int (Int32.ofInt (pa : Int))), (4, .int (Int32.ofInt (po : Int)))]) (st' := [.int (Int32.ofInt 0)]) 1 rfl ?_
        refine xr_retI2 rfl rfl ⟨_, rfl, 0, s, t, K, pth, js, [], [], ⟨rfl, rfl⟩, rfl, by rw [List.append_nil]; exact xCMS_le hC (Nat.zero_le _), ?_, rfl, ?_⟩
        · have := xjc_pos (H := H) (st := st) (p := tt) (q := uu) (l := l); omega
        · rw [xcm_els hH (by omega) (by omega)]; rfl
      · refine xr_steps (pc' := 157) (L' := [(7, .int (Int32.ofInt 1)), (6, .int (Int32.ofInt v)), (5, .int (Int32.ofInt b)), (0, .ref 165), (1, .int (Int32.ofInt (i : Int))), (2, .int (Int32.ofInt (pe : Int))), (3, .int (Int32.ofInt (pa : Int))), (4, .int (Int32.ofInt (po : Int)))]) (st' := [.int (Int32.ofInt (pa : Int)), .ref 165]) 2 rfl ?_
        refine xr_call (q := (.invokevirtual 125, 3, 217, 2)) (av := [.ref 165, .int (Int32.ofInt (pa : Int))]) (rest := []) rfl rfl (by decide) rfl (ym_rcv hA rfl) (Nat.le_of_ble_eq_true rfl) (mo_217 hA hE1 (by omega)) ?_
        rintro _ _ ⟨rfl, eA⟩
        rw [eA]
        clear eA
        rw [hk2]
        refine xr_steps (pc' := 161) (L' := [(7, .int (Int32.ofInt 1)), (6, .int (Int32.ofInt v)), (5, .int (Int32.ofInt b)), (0, .ref 165), (1, .int (Int32.ofInt (i : Int))), (2, .int (Int32.ofInt (pe : Int))), (3, .int (Int32.ofInt (pa : Int))), (4, .int (Int32.ofInt (po : Int)))]) (st' := [.int (Int32.ofInt 5), .int (Int32.ofInt ((xv_k uu : Nat) : Int))]) 1 rfl ?_
        refine xr_icmp_ne rfl (by omega) (by omega) (fun z36 => ?_) (fun z36 => ?_)
        · refine xr_steps (pc' := 174) (L' := [(7, .int (Int32.ofInt 1)), (6, .int (Int32.ofInt v)), (5, .int (Int32.ofInt b)), (0, .ref 165), (1, .int (Int32.ofInt (i : Int))), (2, .int (Int32.ofInt (pe : Int))), (3, .int (Int32.ofInt (pa : Int))), (4, .int (Int32.ofInt (po : Int)))]) (st' := [.int (Int32.ofInt 0)]) 1 rfl ?_
          refine xr_retI2 rfl rfl ⟨_, rfl, 0, s, t, K, pth, js, [], [], ⟨rfl, rfl⟩, rfl, by rw [List.append_nil]; exact xCMS_le hC (Nat.zero_le _), ?_, rfl, ?_⟩
          · have := xjc_pos (H := H) (st := st) (p := tt) (q := uu) (l := l); omega
          · rw [xcm_els hH (by omega) (by omega)]; rfl
        · refine xr_steps (pc' := 170) (L' := [(7, .int (Int32.ofInt 1)), (6, .int (Int32.ofInt v)), (5, .int (Int32.ofInt b)), (0, .ref 165), (1, .int (Int32.ofInt (i : Int))), (2, .int (Int32.ofInt (pe : Int))), (3, .int (Int32.ofInt (pa : Int))), (4, .int (Int32.ofInt (po : Int)))]) (st' := [.int (Int32.ofInt (po : Int)), .int (Int32.ofInt (pa : Int)), .int (Int32.ofInt (pe : Int)), .int (Int32.ofInt (i : Int)), .ref 165]) 5 rfl ?_
          have hja := xjc_obj (st := st) hH (show xv_k tt = 5 ∧ xv_k uu = 5 by omega)
          refine xr_call (q := (.invokevirtual 233, 3, 254, 5)) (av := [.ref 165, .int (Int32.ofInt (i : Int)), .int (Int32.ofInt (pe : Int)), .int (Int32.ofInt (pa : Int)), .int (Int32.ofInt (po : Int))]) (rest := []) rfl rfl (by decide) rfl (ym_rcv hA rfl) (Nat.le_of_ble_eq_true rfl) (mo_254 hA hE hm he hu hze hza hdk hl (by omega) hi hst hC (by omega) hpo hh) ?_
          rintro _ _ ⟨rfl, s1, t1, K1, pth1, js1, eA, g1, g2, g3⟩
          rw [eA]
          clear eA
          refine xr_steps (pc' := 174) (L' := [(7, .int (Int32.ofInt 1)), (6, .int (Int32.ofInt v)), (5, .int (Int32.ofInt b)), (0, .ref 165), (1, .int (Int32.ofInt (i : Int))), (2, .int (Int32.ofInt (pe : Int))), (3, .int (Int32.ofInt (pa : Int))), (4, .int (Int32.ofInt (po : Int)))]) (st' := [.int (Int32.ofInt 0)]) 1 rfl ?_
          refine xr_retI2 rfl rfl ⟨_, rfl, 0, s1, t1, K1, pth1, js1, [], _, ⟨rfl, rfl⟩, rfl, by rw [List.append_nil]; exact g1, by omega, g3, ?_⟩
          rw [xcm_obj hH (by omega), List.nil_append]
    · refine xr_steps (pc' := 130) (L' := [(7, .int (Int32.ofInt 1)), (6, .int (Int32.ofInt v)), (5, .int (Int32.ofInt b)), (0, .ref 165), (1, .int (Int32.ofInt (i : Int))), (2, .int (Int32.ofInt (pe : Int))), (3, .int (Int32.ofInt (pa : Int))), (4, .int (Int32.ofInt (po : Int)))]) (st' := [.int (Int32.ofInt 3), .int (Int32.ofInt v), .ref 165]) 3 rfl ?_
      refine xr_icmp_ne rfl (by omega) (by omega) (fun z37 => ?_) (fun z37 => ?_)
      · refine xr_steps (pc' := 142) (L' := [(7, .int (Int32.ofInt 1)), (6, .int (Int32.ofInt v)), (5, .int (Int32.ofInt b)), (0, .ref 165), (1, .int (Int32.ofInt (i : Int))), (2, .int (Int32.ofInt (pe : Int))), (3, .int (Int32.ofInt (pa : Int))), (4, .int (Int32.ofInt (po : Int)))]) (st' := [.int (Int32.ofInt (po : Int)), .int (Int32.ofInt (pa : Int)), .int (Int32.ofInt (pe : Int)), .int (Int32.ofInt 0), .ref 165]) 4 rfl ?_
        have hja := xjc_arr (st := st) hH (show xv_k tt = 4 ∧ xv_k uu = 4 by omega)
        refine xr_call (q := (.invokevirtual 229, 3, 252, 5)) (av := [.ref 165, .int (Int32.ofInt 0), .int (Int32.ofInt (pe : Int)), .int (Int32.ofInt (pa : Int)), .int (Int32.ofInt (po : Int))]) (rest := []) rfl rfl (by decide) rfl (ym_rcv hA rfl) (Nat.le_of_ble_eq_true rfl) (mo_252 (lo := (decide (H m tt uu l = 3))) hA hE hm he hu hze hza hdk hl (by omega) (Or.inr ⟨rfl, decide_eq_false (fun h => absurd (hv.1.mpr h) (by omega))⟩) hC (by omega) hpo hp hh) ?_
        rintro _ _ ⟨v1, s1, t1, K1, pth1, js1, dl, ⟨rfl, eA⟩, ⟨hvd, hdl⟩, g1, g2, g3⟩
        rw [eA]
        clear eA
        refine xr_retI2 rfl rfl ⟨_, rfl, v1, s1, t1, K1, pth1, js1, dl, _, ⟨rfl, rfl⟩, hvd, g1, by omega, g3, ?_⟩
        rw [xcm_arr hH (by omega), hdl]
        congr 1
        by_cases h3 : H m tt uu l = 3
        · rw [if_neg (fun h => h.1 h3), if_neg (fun h => absurd (h.1.symm.trans (decide_eq_true h3)) (by decide))]
        · by_cases h8 : (xv_p tt).length = (xv_p uu).length
          · rw [if_neg (fun h => h.2 h8), if_neg (fun h => h.2 h8)]
          · rw [if_pos ⟨h3, h8⟩, if_pos ⟨decide_eq_false h3, h8⟩]
      · refine xr_steps (pc' := 142) (L' := [(7, .int (Int32.ofInt 1)), (6, .int (Int32.ofInt v)), (5, .int (Int32.ofInt b)), (0, .ref 165), (1, .int (Int32.ofInt (i : Int))), (2, .int (Int32.ofInt (pe : Int))), (3, .int (Int32.ofInt (pa : Int))), (4, .int (Int32.ofInt (po : Int)))]) (st' := [.int (Int32.ofInt (po : Int)), .int (Int32.ofInt (pa : Int)), .int (Int32.ofInt (pe : Int)), .int (Int32.ofInt 1), .ref 165]) 5 rfl ?_
        have hja := xjc_arr (st := st) hH (show xv_k tt = 4 ∧ xv_k uu = 4 by omega)
        refine xr_call (q := (.invokevirtual 229, 3, 252, 5)) (av := [.ref 165, .int (Int32.ofInt 1), .int (Int32.ofInt (pe : Int)), .int (Int32.ofInt (pa : Int)), .int (Int32.ofInt (po : Int))]) (rest := []) rfl rfl (by decide) rfl (ym_rcv hA rfl) (Nat.le_of_ble_eq_true rfl) (mo_252 (lo := (decide (H m tt uu l = 3))) hA hE hm he hu hze hza hdk hl (by omega) (Or.inl ⟨rfl, decide_eq_true (hv.1.mp (by omega))⟩) hC (by omega) hpo hp hh) ?_
        rintro _ _ ⟨v1, s1, t1, K1, pth1, js1, dl, ⟨rfl, eA⟩, ⟨hvd, hdl⟩, g1, g2, g3⟩
        rw [eA]
        clear eA
        refine xr_retI2 rfl rfl ⟨_, rfl, v1, s1, t1, K1, pth1, js1, dl, _, ⟨rfl, rfl⟩, hvd, g1, by omega, g3, ?_⟩
        rw [xcm_arr hH (by omega), hdl]
        congr 1
        by_cases h3 : H m tt uu l = 3
        · rw [if_neg (fun h => h.1 h3), if_neg (fun h => absurd (h.1.symm.trans (decide_eq_true h3)) (by decide))]
        · by_cases h8 : (xv_p tt).length = (xv_p uu).length
          · rw [if_neg (fun h => h.2 h8), if_neg (fun h => h.2 h8)]
          · rw [if_pos ⟨h3, h8⟩, if_pos ⟨decide_eq_false h3, h8⟩]
theorem mo_245a (hA : 194 ≤ A.1) (hE : ∀ j : Nat, 0 ≤ t0 166 j ∧ t0 166 j ≤ 127) (hm : m ≤ 5) (he : xV (t0 166) (m + 1) pe tt ze) (hu : xV (t0 166) (m + 1) pa uu za) (hze : ze ≤ pe + 100 ∧ ze < 3711) (hza : za ≤ pa + 100 ∧ za < 3711) (hdk : xdk (m + 1) tt) (hl : l.length + m = 5 ∧ xpl0 l) (hC : xCMS t0 s0 sl H st s t K pth js ms B) (hB : xjc H st (m + 1) tt uu l ≤ B + 1) (hpo : po < K ∧ pth po = l) (hp : xpst s t l) (hh : js.length + 1 + 50 * m ≤ 256) (hH : H m tt uu l = 0) (hsl : sl l = true ↔ ¬ b = -1) (hb : b = -1 ∨ (0 ≤ b ∧ b < 8)) : xr_ok (xt_G w) (d + 1 + 1 + 1 + 1 + 1 + 1 + 1 + 1) 245 92 [(7, .int (Int32.ofInt 0)), (6, .int (Int32.ofInt v)), (5, .int (Int32.ofInt b)), (0, .ref 165), (1, .int (Int32.ofInt (i : Int))), (2, .int (Int32.ofInt (pe : Int))), (3, .int (Int32.ofInt (pa : Int))), (4, .int (Int32.ofInt (po : Int)))] [] (ym A s t) (fun o A' => ∃ v0, o = .inl v0 ∧ ∃ (v : Int) (s' : Nat → Int) (t' : Nat → Nat → Int) (K' : Nat) (pth' : Nat → List Int) (js' : List xJ) (dl es : List (Int × List Int)), (v0 = some (.int (Int32.ofInt v)) ∧ A' = ym A s' t') ∧ v = (dl.length : Int) ∧ xCMS t0 s0 sl H st s' t' K' pth' js' (ms ++ dl) 0 ∧ xcost js' + 1 ≤ xcost js + xjc H st (m + 1) tt uu l ∧ xout js' = es ++ xout js ∧ xcm sl H st (m + 1) tt uu l = dl ++ es) := by
  refine xr_steps (pc' := 95) (L' := [(7, .int (Int32.ofInt 0)), (6, .int (Int32.ofInt v)), (5, .int (Int32.ofInt b)), (0, .ref 165), (1, .int (Int32.ofInt (i : Int))), (2, .int (Int32.ofInt (pe : Int))), (3, .int (Int32.ofInt (pa : Int))), (4, .int (Int32.ofInt (po : Int)))]) (st' := [.int (Int32.ofInt b), .ref 165]) 2 rfl ?_
  refine xr_if_ge rfl (by omega) (fun z31 => ?_) (fun z31 => ?_)
  · refine xr_steps (pc' := 103) (L' := [(7, .int (Int32.ofInt 0)), (6, .int (Int32.ofInt v)), (5, .int (Int32.ofInt b)), (0, .ref 165), (1, .int (Int32.ofInt (i : Int))), (2, .int (Int32.ofInt (pe : Int))), (3, .int (Int32.ofInt (pa : Int))), (4, .int (Int32.ofInt (po : Int)))]) (st' := [.int (Int32.ofInt 5), .ref 165]) 1 rfl ?_
    refine xr_call (q := (.invokevirtual 226, 3, 243, 2)) (av := [.ref 165, .int (Int32.ofInt 5)]) (rest := []) rfl rfl (by decide) rfl (ym_rcv hA rfl) (Nat.le_of_ble_eq_true rfl) (mo_243 (l := l) (ms := ms) hA hC.2.2.2.2.2.1 hp (by omega)) ?_
    rintro _ _ ⟨rfl, s1, t1, eA, i1, i2, i3⟩
    rw [eA]
    clear eA
    refine xr_steps (pc' := 107) (L' := [(7, .int (Int32.ofInt 0)), (6, .int (Int32.ofInt v)), (5, .int (Int32.ofInt b)), (0, .ref 165), (1, .int (Int32.ofInt (i : Int))), (2, .int (Int32.ofInt (pe : Int))), (3, .int (Int32.ofInt (pa : Int))), (4, .int (Int32.ofInt (po : Int)))]) (st' := [.int (Int32.ofInt 1)]) 1 rfl ?_
    have hkd : (if sl l = true then (5 : Int) else 1) = 5 := by exact if_pos (hsl.mpr (by omega))
    refine xr_retI2 rfl rfl ⟨_, rfl, 1, s1, t1, K, pth, js, [(5, l)], [], ⟨rfl, rfl⟩, rfl, xCMS_le (xCMS_ls hC i1 i2 i3) (Nat.zero_le _), ?_, rfl, ?_⟩
    · have := xjc_pos (H := H) (st := st) (p := tt) (q := uu) (l := l); omega
    · rw [xcm_bad hH, hkd, List.append_nil]
  · refine xr_steps (pc' := 103) (L' := [(7, .int (Int32.ofInt 0)), (6, .int (Int32.ofInt v)), (5, .int (Int32.ofInt b)), (0, .ref 165), (1, .int (Int32.ofInt (i : Int))), (2, .int (Int32.ofInt (pe : Int))), (3, .int (Int32.ofInt (pa : Int))), (4, .int (Int32.ofInt (po : Int)))]) (st' := [.int (Int32.ofInt 1), .ref 165]) 2 rfl ?_
    refine xr_call (q := (.invokevirtual 226, 3, 243, 2)) (av := [.ref 165, .int (Int32.ofInt 1)]) (rest := []) rfl rfl (by decide) rfl (ym_rcv hA rfl) (Nat.le_of_ble_eq_true rfl) (mo_243 (l := l) (ms := ms) hA hC.2.2.2.2.2.1 hp (by omega)) ?_
    rintro _ _ ⟨rfl, s1, t1, eA, i1, i2, i3⟩
    rw [eA]
    clear eA
    refine xr_steps (pc' := 107) (L' := [(7, .int (Int32.ofInt 0)), (6, .int (Int32.ofInt v)), (5, .int (Int32.ofInt b)), (0, .ref 165), (1, .int (Int32.ofInt (i : Int))), (2, .int (Int32.ofInt (pe : Int))), (3, .int (Int32.ofInt (pa : Int))), (4, .int (Int32.ofInt (po : Int)))]) (st' := [.int (Int32.ofInt 1)]) 1 rfl ?_
    have hkd : (if sl l = true then (5 : Int) else 1) = 1 := by exact if_neg (fun h => absurd (hsl.mp h) (by omega))
    refine xr_retI2 rfl rfl ⟨_, rfl, 1, s1, t1, K, pth, js, [(1, l)], [], ⟨rfl, rfl⟩, rfl, xCMS_le (xCMS_ls hC i1 i2 i3) (Nat.zero_le _), ?_, rfl, ?_⟩
    · have := xjc_pos (H := H) (st := st) (p := tt) (q := uu) (l := l); omega
    · rw [xcm_bad hH, hkd, List.append_nil]
theorem mo_245 (hA : 194 ≤ A.1) (hE : ∀ j : Nat, 0 ≤ t0 166 j ∧ t0 166 j ≤ 127) (hm : m ≤ 5) (he : xV (t0 166) (m + 1) pe tt ze) (hu : xV (t0 166) (m + 1) pa uu za) (hze : ze ≤ pe + 100 ∧ ze < 3711) (hza : za ≤ pa + 100 ∧ za < 3711) (hdk : xdk (m + 1) tt) (hl : l.length + m = 5 ∧ xpl0 l) (hi : i < 4) (hst : t0 167 i = st ∧ (st = 0 ∨ st = 1)) (hrl : t0 169 i = (rs.length : Int) ∧ rs.length ≤ 8 ∧ ∀ (j : Nat) (r : List Int × List (Int × Int × List Int) × Int), rs[j]? = some r → xRL t0 (8 * i + j) r) (hSL : xSL rs sl) (hHO : xHO rs H) (hC : xCMS t0 s0 sl H st s t K pth js ms B) (hB : xjc H st (m + 1) tt uu l ≤ B + 1) (hpo : po < K ∧ pth po = l) (hp : xpst s t l) (hh : js.length + 1 + 50 * m ≤ 256) : xr_ok (xt_G w) (d + 1 + 1 + 1 + 1 + 1 + 1 + 1 + 1) 245 0 [(0, .ref 165), (1, .int (Int32.ofInt (i : Int))), (2, .int (Int32.ofInt (pe : Int))), (3, .int (Int32.ofInt (pa : Int))), (4, .int (Int32.ofInt (po : Int)))] [] (ym A s t) (fun o A' => ∃ v0, o = .inl v0 ∧ ∃ (v : Int) (s' : Nat → Int) (t' : Nat → Nat → Int) (K' : Nat) (pth' : Nat → List Int) (js' : List xJ) (dl es : List (Int × List Int)), (v0 = some (.int (Int32.ofInt v)) ∧ A' = ym A s' t') ∧ v = (dl.length : Int) ∧ xCMS t0 s0 sl H st s' t' K' pth' js' (ms ++ dl) 0 ∧ xcost js' + 1 ≤ xcost js + xjc H st (m + 1) tt uu l ∧ xout js' = es ++ xout js ∧ xcm sl H st (m + 1) tt uu l = dl ++ es) := by
  have e0 := xCMS_166 hC (x := 166) (by omega)
  have hE1 : ∀ j : Nat, 0 ≤ t 166 j ∧ t 166 j ≤ 127 := by rw [e0]; exact hE
  have he1 : xV (t 166) (m + 1) pe tt ze := by rw [e0]; exact he
  have hu1 : xV (t 166) (m + 1) pa uu za := by rw [e0]; exact hu
  have hk1 := xV_k he1
  have hk2 := xV_k hu1
  have hl1 := xV_lt he
  have hl2 := xV_lt hu
  have hw1 := (xV_wf (m + 1) pe ze tt he hze.1).1
  have hw2 := (xV_wf (m + 1) pa za uu hu hza.1).1
  refine xr_steps (pc' := 2) (L' := [(0, .ref 165), (1, .int (Int32.ofInt (i : Int))), (2, .int (Int32.ofInt (pe : Int))), (3, .int (Int32.ofInt (pa : Int))), (4, .int (Int32.ofInt (po : Int)))]) (st' := [.int (Int32.ofInt (i : Int)), .ref 165]) 2 rfl ?_
  refine xr_call (q := (.invokevirtual 189, 3, 234, 2)) (av := [.ref 165, .int (Int32.ofInt (i : Int))]) (rest := []) rfl rfl (by decide) rfl (ym_rcv hA rfl) (Nat.le_of_ble_eq_true rfl) (mo_234 (rs := rs) hA hE1 hi hp (by rw [xCMS_166 hC (x := 169) (by omega)]; exact hrl.1) hrl.2.1 (fun j r hj => xRL_eq (hrl.2.2 j r hj) e0 (xCMS_166 hC (by omega)))) ?_
  rintro _ _ ⟨b, ⟨rfl, eA⟩, hbs⟩
  rw [eA]
  clear eA
  obtain ⟨b2, hb2, hsl⟩ := hSL l
  obtain rfl := xBS_uni _ _ _ _ _ hbs hb2
  obtain ⟨hn1, hn2⟩ := hHO m tt uu l b hbs
  rcases xBS_rng _ _ _ _ hbs with rfl | hbr
  · obtain ⟨ho1, ho2⟩ := hn1 rfl
    refine xr_steps (pc' := 9) (L' := [(5, .int (Int32.ofInt (-1))), (0, .ref 165), (1, .int (Int32.ofInt (i : Int))), (2, .int (Int32.ofInt (pe : Int))), (3, .int (Int32.ofInt (pa : Int))), (4, .int (Int32.ofInt (po : Int)))]) (st' := [.int (Int32.ofInt (-1))]) 2 rfl ?_
    refine xr_if_ge rfl (by omega) (fun z31 => ?_) (fun z31 => ?_)
    · exfalso; omega
    · refine xr_steps (pc' := 33) (L' := [(6, .int (Int32.ofInt 0)), (5, .int (Int32.ofInt (-1))), (0, .ref 165), (1, .int (Int32.ofInt (i : Int))), (2, .int (Int32.ofInt (pe : Int))), (3, .int (Int32.ofInt (pa : Int))), (4, .int (Int32.ofInt (po : Int)))]) (st' := [.int (Int32.ofInt (-1))]) 4 rfl ?_
      refine xr_if_lt rfl (by omega) (fun z32 => ?_) (fun z32 => ?_)
      · refine xr_steps (pc' := 51) (L' := [(6, .int (Int32.ofInt 0)), (5, .int (Int32.ofInt (-1))), (0, .ref 165), (1, .int (Int32.ofInt (i : Int))), (2, .int (Int32.ofInt (pe : Int))), (3, .int (Int32.ofInt (pa : Int))), (4, .int (Int32.ofInt (po : Int)))]) (st' := [.int (Int32.ofInt (pe : Int)), .ref 165]) 2 rfl ?_
        refine xr_call (q := (.invokevirtual 125, 3, 217, 2)) (av := [.ref 165, .int (Int32.ofInt (pe : Int))]) (rest := []) rfl rfl (by decide) rfl (ym_rcv hA rfl) (Nat.le_of_ble_eq_true rfl) (mo_217 hA hE1 (by omega)) ?_
        rintro _ _ ⟨rfl, eA⟩
        rw [eA]
        clear eA
        rw [hk1]
        refine xr_steps (pc' := 56) (L' := [(6, .int (Int32.ofInt 0)), (5, .int (Int32.ofInt (-1))), (0, .ref 165), (1, .int (Int32.ofInt (i : Int))), (2, .int (Int32.ofInt (pe : Int))), (3, .int (Int32.ofInt (pa : Int))), (4, .int (Int32.ofInt (po : Int)))]) (st' := [.int (Int32.ofInt (pa : Int)), .ref 165, .int (Int32.ofInt ((xv_k tt : Nat) : Int))]) 2 rfl ?_
        refine xr_call (q := (.invokevirtual 125, 3, 217, 2)) (av := [.ref 165, .int (Int32.ofInt (pa : Int))]) (rest := [.int (Int32.ofInt ((xv_k tt : Nat) : Int))]) rfl rfl (by decide) rfl (ym_rcv hA rfl) (Nat.le_of_ble_eq_true rfl) (mo_217 hA hE1 (by omega)) ?_
        rintro _ _ ⟨rfl, eA⟩
        rw [eA]
        clear eA
        rw [hk2]
        refine xr_icmp_ne rfl (by omega) (by omega) (fun z33 => ?_) (fun z33 => ?_)
        · refine xr_steps (pc' := 89) (L' := [(7, .int (Int32.ofInt 0)), (6, .int (Int32.ofInt 0)), (5, .int (Int32.ofInt (-1))), (0, .ref 165), (1, .int (Int32.ofInt (i : Int))), (2, .int (Int32.ofInt (pe : Int))), (3, .int (Int32.ofInt (pa : Int))), (4, .int (Int32.ofInt (po : Int)))]) (st' := [.int (Int32.ofInt 0)]) 3 rfl ?_
          refine xr_if_ne rfl (by omega) (fun z34 => ?_) (fun z34 => ?_)
          · exfalso; omega
          · refine xr_loc (L := [(7, .int (Int32.ofInt 0)), (6, .int (Int32.ofInt 0)), (5, .int (Int32.ofInt (-1))), (0, .ref 165), (1, .int (Int32.ofInt (i : Int))), (2, .int (Int32.ofInt (pe : Int))), (3, .int (Int32.ofInt (pa : Int))), (4, .int (Int32.ofInt (po : Int)))]) (show [7, 6, 5, 0, 1, 2, 3, 4].Nodup by decide) ⟨rfl, rfl, rfl, rfl, rfl, rfl, rfl, rfl, trivial⟩ ?_
            have hH0 : H m tt uu l = 0 := ho1.resolve_right (fun h => absurd (ho2.mp h).1 (by omega))
            exact mo_245a hA hE hm he hu hze hza hdk hl hC hB hpo hp hh hH0 hsl (by omega)
        · refine xr_steps (pc' := 64) (L' := [(6, .int (Int32.ofInt 0)), (5, .int (Int32.ofInt (-1))), (0, .ref 165), (1, .int (Int32.ofInt (i : Int))), (2, .int (Int32.ofInt (pe : Int))), (3, .int (Int32.ofInt (pa : Int))), (4, .int (Int32.ofInt (po : Int)))]) (st' := [.int (Int32.ofInt (pe : Int)), .ref 165]) 2 rfl ?_
          refine xr_call (q := (.invokevirtual 125, 3, 217, 2)) (av := [.ref 165, .int (Int32.ofInt (pe : Int))]) (rest := []) rfl rfl (by decide) rfl (ym_rcv hA rfl) (Nat.le_of_ble_eq_true rfl) (mo_217 hA hE1 (by omega)) ?_
          rintro _ _ ⟨rfl, eA⟩
          rw [eA]
          clear eA
          rw [hk1]
          refine xr_steps (pc' := 68) (L' := [(6, .int (Int32.ofInt 0)), (5, .int (Int32.ofInt (-1))), (0, .ref 165), (1, .int (Int32.ofInt (i : Int))), (2, .int (Int32.ofInt (pe : Int))), (3, .int (Int32.ofInt (pa : Int))), (4, .int (Int32.ofInt (po : Int)))]) (st' := [.int (Int32.ofInt 3), .int (Int32.ofInt ((xv_k tt : Nat) : Int))]) 1 rfl ?_
          refine xr_icmp_gt rfl (by omega) (by omega) (fun z35 => ?_) (fun z35 => ?_)
          · refine xr_steps (pc' := 89) (L' := [(7, .int (Int32.ofInt 1)), (6, .int (Int32.ofInt 0)), (5, .int (Int32.ofInt (-1))), (0, .ref 165), (1, .int (Int32.ofInt (i : Int))), (2, .int (Int32.ofInt (pe : Int))), (3, .int (Int32.ofInt (pa : Int))), (4, .int (Int32.ofInt (po : Int)))]) (st' := [.int (Int32.ofInt 1)]) 4 rfl ?_
            refine xr_if_ne rfl (by omega) (fun z36 => ?_) (fun z36 => ?_)
            · refine xr_loc (L := [(7, .int (Int32.ofInt 1)), (6, .int (Int32.ofInt 0)), (5, .int (Int32.ofInt (-1))), (0, .ref 165), (1, .int (Int32.ofInt (i : Int))), (2, .int (Int32.ofInt (pe : Int))), (3, .int (Int32.ofInt (pa : Int))), (4, .int (Int32.ofInt (po : Int)))]) (show [7, 6, 5, 0, 1, 2, 3, 4].Nodup by decide) ⟨rfl, rfl, rfl, rfl, rfl, rfl, rfl, rfl, trivial⟩ ?_
              have hH1 : H m tt uu l = 1 := ho2.mpr ⟨by omega, (by
                rcases xV_lit he1 with ⟨w1, -⟩ | ⟨-, w1⟩
                · omega
                · rcases xV_lit hu1 with ⟨w2, -⟩ | ⟨-, w2⟩
                  · omega
                  · rw [w1, w2])⟩
              exact mo_245b hA hE hm he hu hze hza hdk hl hi hst hC hB hpo hp hh (by omega) ⟨by omega, by omega, by omega⟩
            · exfalso; omega
          · refine xr_steps (pc' := 74) (L' := [(6, .int (Int32.ofInt 0)), (5, .int (Int32.ofInt (-1))), (0, .ref 165), (1, .int (Int32.ofInt (i : Int))), (2, .int (Int32.ofInt (pe : Int))), (3, .int (Int32.ofInt (pa : Int))), (4, .int (Int32.ofInt (po : Int)))]) (st' := [.int (Int32.ofInt (pa : Int)), .int (Int32.ofInt (pe : Int)), .ref 165]) 3 rfl ?_
            refine xr_call (q := (.invokevirtual 138, 3, 218, 3)) (av := [.ref 165, .int (Int32.ofInt (pe : Int)), .int (Int32.ofInt (pa : Int))]) (rest := []) rfl rfl (by decide) rfl (ym_rcv hA rfl) (Nat.le_of_ble_eq_true rfl) (mo_218 (m := m + 1) (u := tt) (v := uu) hA hE1 (by omega) he1 hu1 hze.2 hza.2) ?_
            rintro _ _ ⟨bb, ⟨rfl, eA⟩, hbb⟩
            rw [eA]
            clear eA
            have hlt : (ze - pe = za - pa ∧ ∀ j : Nat, j < ze - pe → t 166 (pe + j) = t 166 (pa + j)) ↔ xv_l tt = xv_l uu := by
              rcases xV_lit he1 with ⟨-, w1⟩ | ⟨w1, -⟩
              · rcases xV_lit hu1 with ⟨-, w2⟩ | ⟨w2, -⟩
                · rw [show xv_k tt = xv_k uu by omega] at w1; exact xV0_same w1 w2
                · omega
              · omega
            rw [hlt] at hbb
            rcases hbb with ⟨rfl, hbb⟩ | ⟨rfl, hbb⟩
            · refine xr_if_eq rfl (by omega) (fun z37 => ?_) (fun z37 => ?_)
              · exfalso; omega
              · refine xr_steps (pc' := 89) (L' := [(7, .int (Int32.ofInt 1)), (6, .int (Int32.ofInt 0)), (5, .int (Int32.ofInt (-1))), (0, .ref 165), (1, .int (Int32.ofInt (i : Int))), (2, .int (Int32.ofInt (pe : Int))), (3, .int (Int32.ofInt (pa : Int))), (4, .int (Int32.ofInt (po : Int)))]) (st' := [.int (Int32.ofInt 1)]) 4 rfl ?_
                refine xr_if_ne rfl (by omega) (fun z38 => ?_) (fun z38 => ?_)
                · refine xr_loc (L := [(7, .int (Int32.ofInt 1)), (6, .int (Int32.ofInt 0)), (5, .int (Int32.ofInt (-1))), (0, .ref 165), (1, .int (Int32.ofInt (i : Int))), (2, .int (Int32.ofInt (pe : Int))), (3, .int (Int32.ofInt (pa : Int))), (4, .int (Int32.ofInt (po : Int)))]) (show [7, 6, 5, 0, 1, 2, 3, 4].Nodup by decide) ⟨rfl, rfl, rfl, rfl, rfl, rfl, rfl, rfl, trivial⟩ ?_
                  have hH1 : H m tt uu l = 1 := ho2.mpr ⟨by omega, hbb⟩
                  exact mo_245b hA hE hm he hu hze hza hdk hl hi hst hC hB hpo hp hh (by omega) ⟨by omega, by omega, by omega⟩
                · exfalso; omega
            · refine xr_if_eq rfl (by omega) (fun z39 => ?_) (fun z39 => ?_)
              · refine xr_steps (pc' := 89) (L' := [(7, .int (Int32.ofInt 0)), (6, .int (Int32.ofInt 0)), (5, .int (Int32.ofInt (-1))), (0, .ref 165), (1, .int (Int32.ofInt (i : Int))), (2, .int (Int32.ofInt (pe : Int))), (3, .int (Int32.ofInt (pa : Int))), (4, .int (Int32.ofInt (po : Int)))]) (st' := [.int (Int32.ofInt 0)]) 3 rfl ?_
                refine xr_if_ne rfl (by omega) (fun z40 => ?_) (fun z40 => ?_)
                · exfalso; omega
                · refine xr_loc (L := [(7, .int (Int32.ofInt 0)), (6, .int (Int32.ofInt 0)), (5, .int (Int32.ofInt (-1))), (0, .ref 165), (1, .int (Int32.ofInt (i : Int))), (2, .int (Int32.ofInt (pe : Int))), (3, .int (Int32.ofInt (pa : Int))), (4, .int (Int32.ofInt (po : Int)))]) (show [7, 6, 5, 0, 1, 2, 3, 4].Nodup by decide) ⟨rfl, rfl, rfl, rfl, rfl, rfl, rfl, rfl, trivial⟩ ?_
                  have hH0 : H m tt uu l = 0 := ho1.resolve_right (fun h => hbb (ho2.mp h).2)
                  exact mo_245a hA hE hm he hu hze hza hdk hl hC hB hpo hp hh hH0 hsl (by omega)
              · exfalso; omega
      · exfalso; omega
  · obtain ⟨r, hr⟩ : ∃ r, rs[b.toNat]? = some r := ⟨_, List.getElem?_eq_getElem (show b.toNat < rs.length by omega)⟩
    obtain ⟨ho1, ho2, ho3⟩ := hn2 r hbr.1 hr
    refine xr_steps (pc' := 9) (L' := [(5, .int (Int32.ofInt b)), (0, .ref 165), (1, .int (Int32.ofInt (i : Int))), (2, .int (Int32.ofInt (pe : Int))), (3, .int (Int32.ofInt (pa : Int))), (4, .int (Int32.ofInt (po : Int)))]) (st' := [.int (Int32.ofInt b)]) 2 rfl ?_
    refine xr_if_ge rfl (by omega) (fun z41 => ?_) (fun z41 => ?_)
    · refine xr_steps (pc' := 20) (L' := [(5, .int (Int32.ofInt b)), (0, .ref 165), (1, .int (Int32.ofInt (i : Int))), (2, .int (Int32.ofInt (pe : Int))), (3, .int (Int32.ofInt (pa : Int))), (4, .int (Int32.ofInt (po : Int)))]) (st' := [.int (Int32.ofInt (i : Int)), .int (Int32.ofInt 8), .ref 165]) 3 rfl ?_
      refine xr_imul rfl ?_
      refine xr_steps (pc' := 23) (L' := [(5, .int (Int32.ofInt b)), (0, .ref 165), (1, .int (Int32.ofInt (i : Int))), (2, .int (Int32.ofInt (pe : Int))), (3, .int (Int32.ofInt (pa : Int))), (4, .int (Int32.ofInt (po : Int)))]) (st' := [.int (Int32.ofInt b), .int (Int32.ofInt (8 * (i : Int))), .ref 165]) 1 rfl ?_
      refine xr_iadd rfl ?_
      refine xr_steps (pc' := 26) (L' := [(5, .int (Int32.ofInt b)), (0, .ref 165), (1, .int (Int32.ofInt (i : Int))), (2, .int (Int32.ofInt (pe : Int))), (3, .int (Int32.ofInt (pa : Int))), (4, .int (Int32.ofInt (po : Int)))]) (st' := [.int (Int32.ofInt (pa : Int)), .int (Int32.ofInt (pe : Int)), .int (Int32.ofInt ((8 * (i : Int)) + b)), .ref 165]) 2 rfl ?_
      rw [show 8 * (i : Int) + b = ((8 * i + b.toNat : Nat) : Int) by omega]
      refine xr_call (q := (.invokevirtual 222, 3, 246, 4)) (av := [.ref 165, .int (Int32.ofInt ((8 * i + b.toNat : Nat) : Int)), .int (Int32.ofInt (pe : Int)), .int (Int32.ofInt (pa : Int))]) (rest := []) rfl rfl (by decide) rfl (ym_rcv hA rfl) (Nat.le_of_ble_eq_true rfl) (mo_246 (e := tt) (u := uu) hA hE1 (by omega) (xRL_eq (hrl.2.2 b.toNat r hr) e0 (xCMS_166 hC (by omega))) hm he1 hu1 hze hza) ?_
      rintro _ _ ⟨v, T1, ⟨rfl, eA, hx⟩, v1, v2, v3⟩
      rw [eA]
      clear eA
      have hvH : v = (H m tt uu l : Int) := by
        have h1 : ¬ v = 0 ↔ ¬ H m tt uu l = 0 := v2.trans ho2.symm
        by_cases hz : v = 0
        · have : H m tt uu l = 0 := Decidable.byContradiction (fun h => h1.mpr h hz)
          omega
        · have h2 : v = 3 ↔ H m tt uu l = 3 := (v3 hz).trans (ho3 (h1.mp hz)).symm
          have h3 := h1.mp hz
          omega
      have hC1 : xCMS t0 s0 sl H st s T1 K pth js ms B := xCMS_hm hC (fun _ _ => rfl) (fun x hy => hx x (by omega))
      have hp1 : xpst s T1 l := ⟨hp.1, hp.2.1, by rw [hx 186 (by omega)]; exact hp.2.2.1, hp.2.2.2⟩
      refine xr_steps (pc' := 33) (L' := [(6, .int (Int32.ofInt v)), (5, .int (Int32.ofInt b)), (0, .ref 165), (1, .int (Int32.ofInt (i : Int))), (2, .int (Int32.ofInt (pe : Int))), (3, .int (Int32.ofInt (pa : Int))), (4, .int (Int32.ofInt (po : Int)))]) (st' := [.int (Int32.ofInt b)]) 2 rfl ?_
      refine xr_if_lt rfl (by omega) (fun z42 => ?_) (fun z42 => ?_)
      · exfalso; omega
      · refine xr_steps (pc' := 38) (L' := [(6, .int (Int32.ofInt v)), (5, .int (Int32.ofInt b)), (0, .ref 165), (1, .int (Int32.ofInt (i : Int))), (2, .int (Int32.ofInt (pe : Int))), (3, .int (Int32.ofInt (pa : Int))), (4, .int (Int32.ofInt (po : Int)))]) (st' := [.int (Int32.ofInt v)]) 1 rfl ?_
        refine xr_if_le rfl (by omega) (fun z43 => ?_) (fun z43 => ?_)
        · refine xr_steps (pc' := 89) (L' := [(7, .int (Int32.ofInt 0)), (6, .int (Int32.ofInt v)), (5, .int (Int32.ofInt b)), (0, .ref 165), (1, .int (Int32.ofInt (i : Int))), (2, .int (Int32.ofInt (pe : Int))), (3, .int (Int32.ofInt (pa : Int))), (4, .int (Int32.ofInt (po : Int)))]) (st' := [.int (Int32.ofInt 0)]) 4 rfl ?_
          refine xr_if_ne rfl (by omega) (fun z44 => ?_) (fun z44 => ?_)
          · exfalso; omega
          · refine xr_loc (L := [(7, .int (Int32.ofInt 0)), (6, .int (Int32.ofInt v)), (5, .int (Int32.ofInt b)), (0, .ref 165), (1, .int (Int32.ofInt (i : Int))), (2, .int (Int32.ofInt (pe : Int))), (3, .int (Int32.ofInt (pa : Int))), (4, .int (Int32.ofInt (po : Int)))]) (show [7, 6, 5, 0, 1, 2, 3, 4].Nodup by decide) ⟨rfl, rfl, rfl, rfl, rfl, rfl, rfl, rfl, trivial⟩ ?_
            exact mo_245a hA hE hm he hu hze hza hdk hl hC1 hB hpo hp1 hh (by omega) hsl (by omega)
        · refine xr_steps (pc' := 89) (L' := [(7, .int (Int32.ofInt 1)), (6, .int (Int32.ofInt v)), (5, .int (Int32.ofInt b)), (0, .ref 165), (1, .int (Int32.ofInt (i : Int))), (2, .int (Int32.ofInt (pe : Int))), (3, .int (Int32.ofInt (pa : Int))), (4, .int (Int32.ofInt (po : Int)))]) (st' := [.int (Int32.ofInt 1)]) 4 rfl ?_
          refine xr_if_ne rfl (by omega) (fun z45 => ?_) (fun z45 => ?_)
          · refine xr_loc (L := [(7, .int (Int32.ofInt 1)), (6, .int (Int32.ofInt v)), (5, .int (Int32.ofInt b)), (0, .ref 165), (1, .int (Int32.ofInt (i : Int))), (2, .int (Int32.ofInt (pe : Int))), (3, .int (Int32.ofInt (pa : Int))), (4, .int (Int32.ofInt (po : Int)))]) (show [7, 6, 5, 0, 1, 2, 3, 4].Nodup by decide) ⟨rfl, rfl, rfl, rfl, rfl, rfl, rfl, rfl, trivial⟩ ?_
            exact mo_245b hA hE hm he hu hze hza hdk hl hi hst hC1 hB hpo hp1 hh (by omega) ⟨by omega, by omega, by omega⟩
          · exfalso; omega
    · exfalso; omega
end CP
/-! The reference: compareAll -/
section CQ
variable {w : Value} {d : Nat} {A : xb_H} {t0 t : Nat → Nat → Int} {s0 s : Nat → Int} {sl : List Int → Bool} {H : (n : Nat) → xv (n + 1) → xv (n + 1) → List Int → Nat} {st : Int} {ms R : List (Int × List Int)} {i ze za K B : Nat} {tt uu : xv 6} {pth : Nat → List Int} {js : List xJ} {j : xJ} {rs : List (List Int × List (Int × Int × List Int) × Int)} {Q : xb_R → xb_H → Prop}
theorem xcost_snoc (js : List xJ) (jw je ja : Int) (p : Nat) (es : List (Int × List Int)) (c lv : Nat) : xcost (js ++ [xmk jw je ja p es c lv]) = xcost js + c := xcost_app _ _
theorem xout_snoc (js : List xJ) (jw je ja : Int) (p : Nat) (es : List (Int × List Int)) (c lv : Nat) : xout (js ++ [xmk jw je ja p es c lv]) = es ++ xout js := xout_app _ _
theorem xmk_all (j : xJ) : ∃ (jw je ja : Int) (p : Nat) (es : List (Int × List Int)) (c lv : Nat), j = xmk jw je ja p es c lv := by
  obtain ⟨⟨a, b, c, d⟩, e, f, g⟩ := j
  exact ⟨a, b, c, d, e, f, g, rfl⟩
theorem xCMS_pop {jw je ja : Int} {p c lv : Nat} {es : List (Int × List Int)} (h : xCMS t0 s0 sl H st s t K pth (js ++ [xmk jw je ja p es c lv]) ms B) : ((p < K ∧ 1 ≤ c ∧ ((pth p).length ≤ 5 ∧ xpl0 (pth p)) ∧ (((jw = 3 ∨ jw = 4) ∧ es = [(jw, pth p)] ∧ c = 1 ∧ lv = 0) ∨ (jw = 0 ∧ ∃ (m pe pa ze za : Nat) (tt uu : xv (m + 1)), (je = (pe : Int) ∧ ja = (pa : Int)) ∧ (xV (t0 166) (m + 1) pe tt ze ∧ xV (t0 166) (m + 1) pa uu za) ∧ ((ze ≤ pe + 100 ∧ ze < 3711) ∧ za ≤ pa + 100 ∧ za < 3711) ∧ xdk (m + 1) tt ∧ es = xcm sl H st (m + 1) tt uu (pth p) ∧ c = xjc H st (m + 1) tt uu (pth p) ∧ (lv = m ∧ (pth p).length + m = 5)))) ∧ js.length + 1 + 50 * lv ≤ 256 ∧ (s 22 = (js.length : Int) + 1 ∧ t 182 js.length = jw ∧ t 183 js.length = je ∧ t 184 js.length = ja ∧ t 185 js.length = (p : Int)) ∧ K ≤ 768) ∧ xCMS t0 s0 sl H st (va_up s 22 (js.length : Int)) t K pth js ms (B + c - 1) := by
  have hK := xCMS_K h
  obtain ⟨⟨a1, a1'⟩, a2, a3, a4, a5, a6, a7, a8, a9, a10⟩ := h
  obtain ⟨j, hjm⟩ : ∃ j, xmk jw je ja p es c lv = j := ⟨_, rfl⟩
  rw [xcost_snoc] at a9
  have hl : ∀ j : xJ, (js ++ [j]).length = js.length + 1 := fun j => by rw [List.length_append, List.length_singleton]
  have hg : (js ++ [xmk jw je ja p es c lv])[js.length]? = some (xmk jw je ja p es c lv) := by rw [List.getElem?_append_right (Nat.le_refl _), Nat.sub_self]; rfl
  have hj := a5 _ (List.mem_append.mpr (Or.inr (List.mem_singleton.mpr rfl)))
  have hgo : ∀ (x : Nat) (k : xJ), js[x]? = some k → (js ++ [xmk jw je ja p es c lv])[x]? = some k := fun x k hx => by rw [List.getElem?_append_left (List.getElem?_eq_some_iff.mp hx).1]; exact hx
  have hc : 1 ≤ c := xJV_cost hj
  rw [hl] at a9
  refine ⟨⟨⟨hj.1, hc, hj.2.1, hj.2.2⟩, a10 _ _ hg, ⟨by rw [a2, hl]; omega, a4 _ _ hg⟩, by omega⟩, ⟨by rw [ya_up_ne _ _ (by omega)]; exact a1, a1'⟩, ya_up_same _ _ _, a3, fun x k hx => a4 x k (hgo x k hx), fun k hk => a5 k (List.mem_append.mpr (Or.inl hk)), ⟨⟨by rw [ya_up_ne _ _ (by omega)]; exact a6.1.1, a6.1.2⟩, a6.2⟩, a7, fun x e1 e2 e3 e4 => by rw [ya_up_ne _ _ e3]; exact a8 x e1 e2 e3 e4, by omega, fun x k hx => a10 x k (hgo x k hx)⟩
theorem mo_240l (hA : 194 ≤ A.1) (hE : ∀ j : Nat, 0 ≤ t0 166 j ∧ t0 166 j ≤ 127) (hi : i < 4) (hst : t0 167 i = st ∧ (st = 0 ∨ st = 1)) (hrl : t0 169 i = (rs.length : Int) ∧ rs.length ≤ 8 ∧ ∀ (j : Nat) (r : List Int × List (Int × Int × List Int) × Int), rs[j]? = some r → xRL t0 (8 * i + j) r) (hSL : xSL rs sl) (hHO : xHO rs H) : ∀ (k : Nat) (s : Nat → Int) (t : Nat → Nat → Int) (K : Nat) (pth : Nat → List Int) (js : List xJ) (ms : List (Int × List Int)), xcost js = k → xCMS t0 s0 sl H st s t K pth js ms 0 → ms ++ xout js = R → (∀ (s : Nat → Int) (t : Nat → Nat → Int) (K : Nat) (pth : Nat → List Int), xCMS t0 s0 sl H st s t K pth [] R 0 → Q (.inl (some (.int (Int32.ofInt (R.length : Int))))) (ym A s t)) → xr_ok (xt_G w) (d + 1 + 1 + 1 + 1 + 1 + 1 + 1 + 1 + 1) 240 30 [(2, .int (Int32.ofInt (ms.length : Int))), (0, .ref 165), (1, .int (Int32.ofInt (i : Int)))] [] (ym A s t) Q := by
  intro k
  induction k using Nat.strongRecOn with
  | _ k ih =>
    intro s t K pth js ms hk hC hR hQ
    have hjl : js.length ≤ 256 := by
      rcases List.eq_nil_or_concat js with rfl | ⟨js0, j, hjs⟩
      · exact Nat.zero_le _
      · have h9 := hC
        obtain ⟨jw, je, ja, p, es, c, lv, hj0⟩ := xmk_all j
        rw [hjs, List.concat_eq_append, hj0] at h9
        have := (xCMS_pop h9).1.2.1
        rw [hjs, List.concat_eq_append, List.length_append, List.length_singleton]
        omega
    refine xr_steps (pc' := 31) (L' := [(2, .int (Int32.ofInt (ms.length : Int))), (0, .ref 165), (1, .int (Int32.ofInt (i : Int)))]) (st' := [.ref 165]) 1 rfl ?_
    refine xr_getf (v := .int (Int32.ofInt (s 22))) rfl (ym_165 hA) rfl ?_
    rw [hC.2.1]
    refine xr_if_le rfl (by omega) (fun z31 => ?_) (fun z31 => ?_)
    · rcases List.eq_nil_or_concat js with rfl | ⟨js0, j, hjs⟩
      · have hR2 : ms = R := by rw [← hR]; exact (List.append_nil ms).symm
        subst hR2
        refine xr_steps (pc' := 129) (L' := [(2, .int (Int32.ofInt (ms.length : Int))), (0, .ref 165), (1, .int (Int32.ofInt (i : Int)))]) (st' := [.int (Int32.ofInt (ms.length : Int))]) 1 rfl ?_
        exact xr_retI2 rfl rfl (hQ s t K pth hC)
      · exfalso
        have : js.length = js0.length + 1 := by rw [hjs, List.concat_eq_append, List.length_append, List.length_singleton]
        omega
    · rcases List.eq_nil_or_concat js with rfl | ⟨js0, j0, hjs⟩
      · exfalso
        have h0 : ([] : List xJ).length = 0 := rfl
        omega
      obtain ⟨jw, je, ja, p, es, c, lv, hj0⟩ := xmk_all j0
      rw [hjs, List.concat_eq_append, hj0] at hC hR hk
      obtain ⟨⟨⟨hj1, hcs, ⟨hj2, hj2'⟩, hj3⟩, hlev, ⟨hp22, r2, r3, r4, r5⟩, hK8⟩, hC1⟩ := xCMS_pop hC
      rw [xcost_snoc] at hk
      rw [xout_snoc] at hR
      refine xr_steps (pc' := 39) (L' := [(2, .int (Int32.ofInt (ms.length : Int))), (0, .ref 165), (1, .int (Int32.ofInt (i : Int)))]) (st' := [.ref 165, .ref 165]) 2 rfl ?_
      refine xr_getf (v := .int (Int32.ofInt (s 22))) rfl (ym_165 hA) rfl ?_
      rw [hp22]
      refine xr_steps (pc' := 43) (L' := [(2, .int (Int32.ofInt (ms.length : Int))), (0, .ref 165), (1, .int (Int32.ofInt (i : Int)))]) (st' := [.int (Int32.ofInt 1), .int (Int32.ofInt ((js0.length : Int) + 1)), .ref 165]) 1 rfl ?_
      refine xr_isub rfl ?_
      rw [show (js0.length : Int) + 1 - 1 = (js0.length : Int) by omega]
      refine ym_putI hA rfl rfl rfl ?_
      refine xr_steps (pc' := 48) (L' := [(2, .int (Int32.ofInt (ms.length : Int))), (0, .ref 165), (1, .int (Int32.ofInt (i : Int)))]) (st' := [.ref 165]) 1 rfl ?_
      refine xr_getf (v := .ref 182) rfl (ym_165 hA) rfl ?_
      refine xr_steps (pc' := 52) (L' := [(2, .int (Int32.ofInt (ms.length : Int))), (0, .ref 165), (1, .int (Int32.ofInt (i : Int)))]) (st' := [.ref 165, .ref 182]) 1 rfl ?_
      refine xr_getf (v := .int (Int32.ofInt (js0.length : Int))) rfl (ym_165 hA) rfl ?_
      refine ym_iaload (e := t 182 (js0.length : Int).toNat) hA rfl rfl (by decide) (by omega) (by omega) rfl ?_
      rw [Int.toNat_natCast, r2]
      refine xr_steps (pc' := 58) (L' := [(3, .int (Int32.ofInt jw)), (2, .int (Int32.ofInt (ms.length : Int))), (0, .ref 165), (1, .int (Int32.ofInt (i : Int)))]) (st' := [.ref 165]) 2 rfl ?_
      refine xr_getf (v := .ref 185) rfl (ym_165 hA) rfl ?_
      refine xr_steps (pc' := 62) (L' := [(3, .int (Int32.ofInt jw)), (2, .int (Int32.ofInt (ms.length : Int))), (0, .ref 165), (1, .int (Int32.ofInt (i : Int)))]) (st' := [.ref 165, .ref 185]) 1 rfl ?_
      refine xr_getf (v := .int (Int32.ofInt (js0.length : Int))) rfl (ym_165 hA) rfl ?_
      refine ym_iaload (e := t 185 (js0.length : Int).toNat) hA rfl rfl (by decide) (by omega) (by omega) rfl ?_
      rw [Int.toNat_natCast, r5]
      refine xr_steps (pc' := 69) (L' := [(4, .int (Int32.ofInt (p : Int))), (3, .int (Int32.ofInt jw)), (2, .int (Int32.ofInt (ms.length : Int))), (0, .ref 165), (1, .int (Int32.ofInt (i : Int)))]) (st' := [.ref 165]) 2 rfl ?_
      refine xr_getf (v := .ref 183) rfl (ym_165 hA) rfl ?_
      refine xr_steps (pc' := 73) (L' := [(4, .int (Int32.ofInt (p : Int))), (3, .int (Int32.ofInt jw)), (2, .int (Int32.ofInt (ms.length : Int))), (0, .ref 165), (1, .int (Int32.ofInt (i : Int)))]) (st' := [.ref 165, .ref 183]) 1 rfl ?_
      refine xr_getf (v := .int (Int32.ofInt (js0.length : Int))) rfl (ym_165 hA) rfl ?_
      refine ym_iaload (e := t 183 (js0.length : Int).toNat) hA rfl rfl (by decide) (by omega) (by omega) rfl ?_
      rw [Int.toNat_natCast, r3]
      refine xr_steps (pc' := 80) (L' := [(5, .int (Int32.ofInt je)), (4, .int (Int32.ofInt (p : Int))), (3, .int (Int32.ofInt jw)), (2, .int (Int32.ofInt (ms.length : Int))), (0, .ref 165), (1, .int (Int32.ofInt (i : Int)))]) (st' := [.ref 165]) 2 rfl ?_
      refine xr_getf (v := .ref 184) rfl (ym_165 hA) rfl ?_
      refine xr_steps (pc' := 84) (L' := [(5, .int (Int32.ofInt je)), (4, .int (Int32.ofInt (p : Int))), (3, .int (Int32.ofInt jw)), (2, .int (Int32.ofInt (ms.length : Int))), (0, .ref 165), (1, .int (Int32.ofInt (i : Int)))]) (st' := [.ref 165, .ref 184]) 1 rfl ?_
      refine xr_getf (v := .int (Int32.ofInt (js0.length : Int))) rfl (ym_165 hA) rfl ?_
      refine ym_iaload (e := t 184 (js0.length : Int).toNat) hA rfl rfl (by decide) (by omega) (by omega) rfl ?_
      rw [Int.toNat_natCast, r4]
      refine xr_steps (pc' := 93) (L' := [(6, .int (Int32.ofInt ja)), (5, .int (Int32.ofInt je)), (4, .int (Int32.ofInt (p : Int))), (3, .int (Int32.ofInt jw)), (2, .int (Int32.ofInt (ms.length : Int))), (0, .ref 165), (1, .int (Int32.ofInt (i : Int)))]) (st' := [.int (Int32.ofInt (p : Int)), .ref 165]) 3 rfl ?_
      refine xr_call (q := (.invokevirtual 243, 3, 242, 2)) (av := [.ref 165, .int (Int32.ofInt (p : Int))]) (rest := []) rfl rfl (by decide) rfl (ym_rcv hA rfl) (Nat.le_of_ble_eq_true rfl) (mo_242 (K := K) (pth := pth) hA hC1.2.2.1 hK8 hj1 (by omega)) ?_
      rintro _ _ ⟨rfl, g, eA, hg⟩
      rw [eA]
      clear eA
      have hp1 : xpst (va_up (va_up s 22 (js0.length : Int)) 27 ((pth p).length : Int)) (va_up t 186 g) (pth p) := ⟨ya_up_same _ _ _, by omega, by rw [ya_up_same]; exact hg, hj2'⟩
      have hC2 := xCMS_hm (s' := va_up (va_up s 22 (js0.length : Int)) 27 ((pth p).length : Int)) (t1 := va_up t 186 g) hC1 (fun x hx => ya_up_ne _ _ hx) (fun x hx => ya_up_ne _ _ (by omega))
      obtain ⟨s1, es1⟩ : ∃ s1, va_up (va_up s 22 (js0.length : Int)) 27 ((pth p).length : Int) = s1 := ⟨_, rfl⟩
      obtain ⟨t1, et1⟩ : ∃ t1, va_up t 186 g = t1 := ⟨_, rfl⟩
      rw [es1, et1] at hp1 hC2
      rw [es1, et1]
      refine xr_steps (pc' := 97) (L' := [(6, .int (Int32.ofInt ja)), (5, .int (Int32.ofInt je)), (4, .int (Int32.ofInt (p : Int))), (3, .int (Int32.ofInt jw)), (2, .int (Int32.ofInt (ms.length : Int))), (0, .ref 165), (1, .int (Int32.ofInt (i : Int)))]) (st' := [.int (Int32.ofInt jw)]) 1 rfl ?_
      refine xr_if_le rfl (by omega) (fun z32 => ?_) (fun z32 => ?_)
      · obtain ⟨-, m, pe, pa, ze, za, tt, uu, ⟨f1, f2⟩, ⟨f3, f4⟩, ⟨f5, f6⟩, f7, f8, f9, f10, f11⟩ := hj3.resolve_left (fun h => by have := h.1; omega)
        rw [f1, f2]
        refine xr_steps (pc' := 120) (L' := [(6, .int (Int32.ofInt (pa : Int))), (5, .int (Int32.ofInt (pe : Int))), (4, .int (Int32.ofInt (p : Int))), (3, .int (Int32.ofInt jw)), (2, .int (Int32.ofInt (ms.length : Int))), (0, .ref 165), (1, .int (Int32.ofInt (i : Int)))]) (st' := [.int (Int32.ofInt (p : Int)), .int (Int32.ofInt (pa : Int)), .int (Int32.ofInt (pe : Int)), .int (Int32.ofInt (i : Int)), .ref 165, .int (Int32.ofInt (ms.length : Int))]) 6 rfl ?_
        refine xr_call (q := (.invokevirtual 246, 3, 245, 5)) (av := [.ref 165, .int (Int32.ofInt (i : Int)), .int (Int32.ofInt (pe : Int)), .int (Int32.ofInt (pa : Int)), .int (Int32.ofInt (p : Int))]) (rest := [.int (Int32.ofInt (ms.length : Int))]) rfl rfl (by decide) rfl (ym_rcv hA rfl) (Nat.le_of_ble_eq_true rfl) (mo_245 (rs := rs) hA hE (by omega) f3 f4 f5 f6 f7 ⟨f11, hj2'⟩ hi hst hrl hSL hHO hC2 (by omega) ⟨hj1, rfl⟩ hp1 (by omega)) ?_
        rintro _ _ ⟨v1, s2, t2, K2, pth2, js2, dl, es, ⟨rfl, eA⟩, hvd, g1, g2, g3, g4⟩
        rw [eA]
        clear eA
        subst hvd
        refine xr_iadd rfl ?_
        refine xr_steps (pc' := 30) (L' := [(2, .int (Int32.ofInt ((ms.length : Int) + (dl.length : Int)))), (6, .int (Int32.ofInt (pa : Int))), (5, .int (Int32.ofInt (pe : Int))), (4, .int (Int32.ofInt (p : Int))), (3, .int (Int32.ofInt jw)), (0, .ref 165), (1, .int (Int32.ofInt (i : Int)))]) (st' := []) 2 rfl ?_
        refine xr_loc (L := [(2, .int (Int32.ofInt ((ms.length : Int) + (dl.length : Int)))), (0, .ref 165), (1, .int (Int32.ofInt (i : Int)))]) (show [2, 0, 1].Nodup by decide) ⟨rfl, rfl, rfl, trivial⟩ ?_
        rw [show (ms.length : Int) + (dl.length : Int) = ((ms ++ dl).length : Int) by rw [List.length_append]; omega]
        exact ih (xcost js2) (by omega) s2 t2 K2 pth2 js2 _ rfl g1 (by rw [← hR, f8, g4, g3, List.append_assoc, List.append_assoc]) hQ
      · refine xr_steps (pc' := 102) (L' := [(6, .int (Int32.ofInt ja)), (5, .int (Int32.ofInt je)), (4, .int (Int32.ofInt (p : Int))), (3, .int (Int32.ofInt jw)), (2, .int (Int32.ofInt (ms.length : Int))), (0, .ref 165), (1, .int (Int32.ofInt (i : Int)))]) (st' := [.int (Int32.ofInt jw), .ref 165]) 2 rfl ?_
        obtain ⟨-, hes, -, -⟩ := hj3.resolve_right (fun h => by have := h.1; omega)
        refine xr_call (q := (.invokevirtual 226, 3, 243, 2)) (av := [.ref 165, .int (Int32.ofInt jw)]) (rest := []) rfl rfl (by decide) rfl (ym_rcv hA rfl) (Nat.le_of_ble_eq_true rfl) (mo_243 (l := pth p) (ms := ms) hA hC2.2.2.2.2.2.1 hp1 hj2) ?_
        rintro _ _ ⟨rfl, s2, t2, eA, i1, i2, i3⟩
        rw [eA]
        clear eA
        refine xr_iinc (L' := [(2, .int (Int32.ofInt ((ms.length : Int) + 1))), (6, .int (Int32.ofInt ja)), (5, .int (Int32.ofInt je)), (4, .int (Int32.ofInt (p : Int))), (3, .int (Int32.ofInt jw)), (0, .ref 165), (1, .int (Int32.ofInt (i : Int)))]) rfl rfl rfl ?_
        refine xr_steps (pc' := 30) (L' := [(2, .int (Int32.ofInt ((ms.length : Int) + 1))), (6, .int (Int32.ofInt ja)), (5, .int (Int32.ofInt je)), (4, .int (Int32.ofInt (p : Int))), (3, .int (Int32.ofInt jw)), (0, .ref 165), (1, .int (Int32.ofInt (i : Int)))]) (st' := []) 2 rfl ?_
        refine xr_loc (L := [(2, .int (Int32.ofInt ((ms.length : Int) + 1))), (0, .ref 165), (1, .int (Int32.ofInt (i : Int)))]) (show [2, 0, 1].Nodup by decide) ⟨rfl, rfl, rfl, trivial⟩ ?_
        rw [show (ms.length : Int) + 1 = ((ms ++ [(jw, pth p)]).length : Int) by rw [List.length_append, List.length_singleton]; omega]
        exact ih (xcost js0) (by omega) s2 t2 K pth js0 _ rfl (xCMS_le (xCMS_ls hC2 i1 i2 i3) (Nat.zero_le _)) (by rw [← hR, hes, List.append_assoc]) hQ
theorem mo_240 (hA : 194 ≤ A.1) (hE : ∀ j : Nat, 0 ≤ t 166 j ∧ t 166 j ≤ 127) (hi : i < 4) (hst : t 167 i = st ∧ (st = 0 ∨ st = 1)) (hrl : t 169 i = (rs.length : Int) ∧ rs.length ≤ 8 ∧ ∀ (j : Nat) (r : List Int × List (Int × Int × List Int) × Int), rs[j]? = some r → xRL t (8 * i + j) r) (hSL : xSL rs sl) (hHO : xHO rs H) (he : xV (t 166) 6 (100 * i) tt ze) (hu : xV (t 166) 6 400 uu za) (hze : ze ≤ 100 * i + 100) (hza : za ≤ 500) (hdk : xdk 6 tt) (h176 : ∀ j : Nat, j < 30 → 0 ≤ t 176 j ∧ t 176 j ≤ 24) : xr_ok (xt_G w) (d + 1 + 1 + 1 + 1 + 1 + 1 + 1 + 1 + 1) 240 0 [(0, .ref 165), (1, .int (Int32.ofInt (i : Int)))] [] (ym A s t) (fun o A' => ∃ v0, o = .inl v0 ∧ ∃ (s' : Nat → Int) (t' : Nat → Nat → Int), (v0 = some (.int (Int32.ofInt ((xcm sl H st 6 tt uu []).length : Int))) ∧ A' = ym A s' t') ∧ xLS s' t' (xcm sl H st 6 tt uu []) ∧ (∀ x : Nat, 166 ≤ x → x ≤ 174 → t' x = t x) ∧ ∀ x : Nat, ¬ x = 13 → ¬ x = 19 → ¬ x = 22 → ¬ x = 27 → s' x = s x) := by
  refine xr_steps (pc' := 2) (L' := [(0, .ref 165), (1, .int (Int32.ofInt (i : Int)))]) (st' := [.int (Int32.ofInt 0), .ref 165]) 2 rfl ?_
  refine ym_putI hA rfl rfl rfl ?_
  refine xr_steps (pc' := 7) (L' := [(0, .ref 165), (1, .int (Int32.ofInt (i : Int)))]) (st' := [.int (Int32.ofInt 1), .ref 165]) 2 rfl ?_
  refine ym_putI hA rfl rfl rfl ?_
  refine xr_steps (pc' := 12) (L' := [(0, .ref 165), (1, .int (Int32.ofInt (i : Int)))]) (st' := [.int (Int32.ofInt 0), .ref 165]) 2 rfl ?_
  refine ym_putI hA rfl rfl rfl ?_
  refine xr_steps (pc' := 20) (L' := [(0, .ref 165), (1, .int (Int32.ofInt (i : Int)))]) (st' := [.int (Int32.ofInt (i : Int)), .int (Int32.ofInt 100), .int (Int32.ofInt 0), .ref 165]) 4 rfl ?_
  refine xr_imul rfl ?_
  refine xr_steps (pc' := 25) (L' := [(0, .ref 165), (1, .int (Int32.ofInt (i : Int)))]) (st' := [.int (Int32.ofInt 0), .int (Int32.ofInt 400), .int (Int32.ofInt (100 * (i : Int))), .int (Int32.ofInt 0), .ref 165]) 2 rfl ?_
  refine xr_call (q := (.invokevirtual 240, 3, 241, 5)) (av := [.ref 165, .int (Int32.ofInt 0), .int (Int32.ofInt (100 * (i : Int))), .int (Int32.ofInt 400), .int (Int32.ofInt 0)]) (rest := []) rfl rfl (by decide) rfl (ym_rcv hA rfl) (Nat.le_of_ble_eq_true rfl) (mo_241 (P := 0) hA (ya_up_same _ _ _) (by omega)) ?_
  rintro _ _ ⟨rfl, T1, eA, y4⟩
  rw [eA]
  clear eA
  refine xr_steps (pc' := 30) (L' := [(2, .int (Int32.ofInt 0)), (0, .ref 165), (1, .int (Int32.ofInt (i : Int)))]) (st' := []) 2 rfl ?_
  refine xr_loc (L := [(2, .int (Int32.ofInt 0)), (0, .ref 165), (1, .int (Int32.ofInt (i : Int)))]) (show [2, 0, 1].Nodup by decide) ⟨rfl, rfl, rfl, trivial⟩ ?_
  have hln := xjc_le (H := H) (st := st) 6 tt uu [] hdk (xV_16 _ _ _ _ he hze)
  have hlu := xV_ln _ _ _ _ hu
  have hC : xCMS t s sl H st (va_up (va_up (va_up (va_up s 13 0) 19 1) 22 0) 22 (((0 : Nat) : Int) + 1)) T1 1 (fun _ => []) [(xmk 0 (100 * (i : Int)) 400 0 (xcm sl H st 6 tt uu []) (xjc H st 6 tt uu []) 5)] [] 0 := by
    obtain ⟨c1, c2, c3, c4, c5⟩ := y4
    refine ⟨⟨?_, by omega⟩, ?_, ⟨rfl, fun p h1 h2 => by omega⟩, ?_, ?_, ⟨⟨?_, ?_⟩, ?_⟩, ?_, ?_, ?_, ?_⟩
    · rw [ya_up_ne _ _ (by omega), ya_up_ne _ _ (by omega), ya_up_same]; rfl
    · rw [ya_up_same]; rfl
    · intro x j hj
      cases x with
      | zero =>
        cases hj
        rw [c2, c3, c4, c5, ya_up_same, ya_up_same, ya_up_same, ya_up_same]
        exact ⟨rfl, rfl, rfl, rfl⟩
      | succ x => cases hj
    · intro j hj
      rw [List.mem_singleton] at hj
      rw [hj]
      refine ⟨Nat.zero_lt_one, ⟨Nat.zero_le _, fun c hc => absurd hc List.not_mem_nil⟩, Or.inr ⟨rfl, 5, 100 * i, 400, ze, za, tt, uu, ⟨?_, rfl⟩, ⟨he, hu⟩, ⟨⟨hze, by omega⟩, by omega, by omega⟩, hdk, rfl, rfl, rfl, rfl⟩⟩
      show 100 * (i : Int) = ((100 * i : Nat) : Int)
      omega
    · rw [ya_up_ne _ _ (by omega), ya_up_ne _ _ (by omega), ya_up_ne _ _ (by omega), ya_up_same]; rfl
    · intro k e _ hk; cases hk
    · intro j hj; rw [c1 176 (by omega)]; exact h176 j hj
    · intro x h1 h2; exact c1 x (by omega)
    · intro x e1 e2 e3 e4; rw [ya_up_ne _ _ e3, ya_up_ne _ _ e3, ya_up_ne _ _ e2, ya_up_ne _ _ e1]
    · show 1 + xcost ([] ++ [(xmk 0 (100 * (i : Int)) 400 0 (xcm sl H st 6 tt uu []) (xjc H st 6 tt uu []) 5)]) + 0 ≤ 768 + 1
      rw [xcost_snoc]
      show 1 + (0 + xjc H st 6 tt uu []) + 0 ≤ 768 + 1
      omega
    · intro x j hj
      cases x with
      | zero => cases hj; show 0 + 1 + 50 * 5 ≤ 256; omega
      | succ x => cases hj
  refine mo_240l (t0 := t) (s0 := s) (R := xcm sl H st 6 tt uu []) hA hE hi hst hrl hSL hHO _ _ T1 1 (fun _ => []) [(xmk 0 (100 * (i : Int)) 400 0 (xcm sl H st 6 tt uu []) (xjc H st 6 tt uu []) 5)] [] rfl hC ?_ (fun s' t' K' pth' g => ⟨_, rfl, s', t', ⟨rfl, rfl⟩, g.2.2.2.2.2.1, g.2.2.2.2.2.2.1, g.2.2.2.2.2.2.2.1⟩)
  rfl
end CQ
