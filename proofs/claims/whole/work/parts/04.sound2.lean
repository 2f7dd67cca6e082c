section XS2
variable {p : Program} {l : Launch} {e : Env} {R : Room} {s : State} {m : MethodId} {args : Array Value} {below : List Frame} {meth : Method} {c : Code} {Q : State → Prop}
variable {D : xs_D} {cl : List vw_C} {nL c0 s0 : Nat} {cc : ByteArray} {Ts : List Cond} {own : String} {pc : Nat} {L : xb_L} {st : List Value} {A : xb_H} {tys : List (ClassId × FieldType)}
theorem xs_ist {n i : Nat} {q : xb_S} (h : xb_istx pc n i L A st = some q)
    (row : ∀ (H : Heap) (locs : List Loc) (ls : Array Slot) (x : Int32) (rest : List Value), lv_has ls nL (xs_m D.2.2.1 L) → (∀ ls' : Array Slot, lv_has ls' nL (xs_m D.2.2.1 (xb_st L i (.int x))) → W p l e R s m args below meth c H locs (A.1 - c0) (A.2.1 - s0) Q (F0 m (pc + n) ls' rest)) → W p l e R s m args below meth c H locs (A.1 - c0) (A.2.1 - s0) Q (F0 m pc ls (.int x :: rest)))
    (k : xs_G D cl p l e R s m args below meth c nL c0 s0 Q q.1 q.2.1 q.2.2.1 q.2.2.2) : xs_G D cl p l e R s m args below meth c nL c0 s0 Q pc L st A := by
  unfold xb_istx at h
  split at h
  · cases h
    intro H locs ls hR hl hq
    exact row H locs ls _ _ hl (fun ls' hl' => k H locs ls' hR hl' hq)
  · cases h
theorem xs_lst {n i : Nat} {q : xb_S} (h : xb_lstx pc n i L A st = some q)
    (row : ∀ (H : Heap) (locs : List Loc) (ls : Array Slot) (x : Int64) (rest : List Value), lv_has ls nL (xs_m D.2.2.1 L) → (∀ ls' : Array Slot, lv_has ls' nL (xs_m D.2.2.1 (xb_st2 L i (.long x))) → W p l e R s m args below meth c H locs (A.1 - c0) (A.2.1 - s0) Q (F0 m (pc + n) ls' rest)) → W p l e R s m args below meth c H locs (A.1 - c0) (A.2.1 - s0) Q (F0 m pc ls (.long x :: rest)))
    (k : xs_G D cl p l e R s m args below meth c nL c0 s0 Q q.1 q.2.1 q.2.2.1 q.2.2.2) : xs_G D cl p l e R s m args below meth c nL c0 s0 Q pc L st A := by
  unfold xb_lstx at h
  split at h
  · cases h
    intro H locs ls hR hl hq
    exact row H locs ls _ _ hl (fun ls' hl' => k H locs ls' hR hl' hq)
  · cases h
theorem xs_ast {n i : Nat} {q : xb_S} (h : xb_astx pc n i L A st = some q)
    (row : ∀ (H : Heap) (locs : List Loc) (ls : Array Slot) (x : Nat) (rest : List Value), lv_has ls nL (xs_m D.2.2.1 L) → (∀ ls' : Array Slot, lv_has ls' nL (xs_m D.2.2.1 (xb_st L i (.ref x))) → W p l e R s m args below meth c H locs (A.1 - c0) (A.2.1 - s0) Q (F0 m (pc + n) ls' rest)) → W p l e R s m args below meth c H locs (A.1 - c0) (A.2.1 - s0) Q (F0 m pc ls (.ref (D.2.2.1 x) :: rest)))
    (row2 : ∀ (H : Heap) (locs : List Loc) (ls : Array Slot) (rest : List Value), lv_has ls nL (xs_m D.2.2.1 L) → (∀ ls' : Array Slot, lv_has ls' nL (xs_m D.2.2.1 (xb_st L i .null)) → W p l e R s m args below meth c H locs (A.1 - c0) (A.2.1 - s0) Q (F0 m (pc + n) ls' rest)) → W p l e R s m args below meth c H locs (A.1 - c0) (A.2.1 - s0) Q (F0 m pc ls (.null :: rest)))
    (k : xs_G D cl p l e R s m args below meth c nL c0 s0 Q q.1 q.2.1 q.2.2.1 q.2.2.2) : xs_G D cl p l e R s m args below meth c nL c0 s0 Q pc L st A := by
  unfold xb_astx at h
  split at h
  · cases h
    intro H locs ls hR hl hq
    exact row H locs ls _ _ hl (fun ls' hl' => k H locs ls' hR hl' hq)
  · cases h
    intro H locs ls hR hl hq
    exact row2 H locs ls _ hl (fun ls' hl' => k H locs ls' hR hl' hq)
  · cases h
theorem xs_iinc (S : CallFix p m c cc nL s args Ts own) {i : Nat} {n : Int} {q : xb_S} (h : xb_iincx pc i n L A st = some q) (hd : decode cc pc = .ok (.iinc i n, 3)) (hi : i < nL)
    (k : xs_G D cl p l e R s m args below meth c nL c0 s0 Q q.1 q.2.1 q.2.2.1 q.2.2.2) : xs_G D cl p l e R s m args below meth c nL c0 s0 Q pc L st A := by
  unfold xb_iincx at h
  split at h
  · rename_i x hx
    cases h
    intro H locs ls hR hl hq
    obtain ⟨j, hj⟩ := List.getElem?_of_mem (List.mem_map.mpr ⟨(i, Value.int x), xs_lookup hx, rfl⟩ : (i, xs_v D.2.2.1 (.int x)) ∈ xs_m D.2.2.1 L)
    exact lv_iinc S.1 S.2.1 hd hl hj rfl hi (xs_m_st D.2.2.1 L i (.int (x + Int32.ofInt n))) (fun ls' hl' => k H locs ls' hR hl' hq)
  · cases h
theorem xs_dup (S : CallFix p m c cc nL s args Ts own) {q : xb_S} (h : xb_dupx pc L A st = some q) (hd : decode cc pc = .ok (.dup, 1))
    (k : xs_G D cl p l e R s m args below meth c nL c0 s0 Q q.1 q.2.1 q.2.2.1 q.2.2.2) : xs_G D cl p l e R s m args below meth c nL c0 s0 Q pc L st A := by
  unfold xb_dupx at h
  split at h
  · split at h
    · rename_i hc
      cases h
      intro H locs ls hR hl hq
      exact lv_dup S.1 S.2.1 hd (by rw [xs_v_cat]; exact hc) (k H locs ls hR hl hq)
    · cases h
  · cases h
theorem xs_pop (S : CallFix p m c cc nL s args Ts own) {q : xb_S} (h : xb_popx pc L A st = some q) (hd : decode cc pc = .ok (.pop, 1))
    (k : xs_G D cl p l e R s m args below meth c nL c0 s0 Q q.1 q.2.1 q.2.2.1 q.2.2.2) : xs_G D cl p l e R s m args below meth c nL c0 s0 Q pc L st A := by
  unfold xb_popx at h
  split at h
  · split at h
    · rename_i hc
      cases h
      intro H locs ls hR hl hq
      exact lv_pop S.1 S.2.1 hd (by rw [xs_v_cat]; exact hc) (k H locs ls hR hl hq)
    · cases h
  · cases h
theorem xs_dup_x1 (S : CallFix p m c cc nL s args Ts own) {q : xb_S} (h : xb_dupx1 pc L A st = some q) (hd : decode cc pc = .ok (.dup_x1, 1))
    (k : xs_G D cl p l e R s m args below meth c nL c0 s0 Q q.1 q.2.1 q.2.2.1 q.2.2.2) : xs_G D cl p l e R s m args below meth c nL c0 s0 Q pc L st A := by
  unfold xb_dupx1 at h
  split at h
  · split at h
    · rename_i hc
      cases h
      intro H locs ls hR hl hq
      exact lv_dup_x1 S.1 S.2.1 hd (by rw [xs_v_cat]; exact hc.1) (by rw [xs_v_cat]; exact hc.2) (k H locs ls hR hl hq)
    · cases h
  · cases h
theorem xs_dup_x2 (S : CallFix p m c cc nL s args Ts own) {q : xb_S} (h : xb_dupx2 pc L A st = some q) (hd : decode cc pc = .ok (.dup_x2, 1))
    (k : xs_G D cl p l e R s m args below meth c nL c0 s0 Q q.1 q.2.1 q.2.2.1 q.2.2.2) : xs_G D cl p l e R s m args below meth c nL c0 s0 Q pc L st A := by
  unfold xb_dupx2 at h
  split at h
  · split at h
    · rename_i hc
      cases h
      intro H locs ls hR hl hq
      exact lv_dup_x2 S.1 S.2.1 hd (by rw [xs_v_cat]; exact hc.1) (by rw [xs_v_cat]; exact hc.2.1) (by rw [xs_v_cat]; exact hc.2.2) (k H locs ls hR hl hq)
    · cases h
  · cases h
theorem xs_dup2 (S : CallFix p m c cc nL s args Ts own) {q : xb_S} (h : xb_dup2x pc L A st = some q) (hd : decode cc pc = .ok (.dup2, 1))
    (k : xs_G D cl p l e R s m args below meth c nL c0 s0 Q q.1 q.2.1 q.2.2.1 q.2.2.2) : xs_G D cl p l e R s m args below meth c nL c0 s0 Q pc L st A := by
  unfold xb_dup2x at h
  split at h
  · split at h
    · rename_i hc
      cases h
      intro H locs ls hR hl hq
      exact lv_dup2_11 S.1 S.2.1 hd (by rw [xs_v_cat]; exact hc.1) (by rw [xs_v_cat]; exact hc.2) (k H locs ls hR hl hq)
    · cases h
  · cases h
theorem xs_jn (S : CallFix p m c cc nL s args Ts own) {b : Bool} {t : Nat} {q : xb_S} (h : xb_jn b pc t L A st = some q) {off : Int} (ht : (pc : Int) + off = (t : Int)) (hd : (b = true ∧ decode cc pc = .ok (.ifnull off, 3)) ∨ (b = false ∧ decode cc pc = .ok (.ifnonnull off, 3)))
    (k : xs_G D cl p l e R s m args below meth c nL c0 s0 Q q.1 q.2.1 q.2.2.1 q.2.2.2) : xs_G D cl p l e R s m args below meth c nL c0 s0 Q pc L st A := by
  rcases hd with ⟨rfl, hd⟩ | ⟨rfl, hd⟩ <;> unfold xb_jn at h <;> split at h
  · cases h
    intro H locs ls hR hl hq
    exact lv_ifnullN S.1 S.2.1 hd ht (k H locs ls hR hl hq)
  · cases h
    intro H locs ls hR hl hq
    exact lv_ifnull S.1 S.2.1 hd (k H locs ls hR hl hq)
  · cases h
  · cases h
    intro H locs ls hR hl hq
    exact lv_ifnonnullN S.1 S.2.1 hd (k H locs ls hR hl hq)
  · cases h
    intro H locs ls hR hl hq
    exact lv_ifnonnull S.1 S.2.1 hd ht (k H locs ls hR hl hq)
  · cases h
theorem xs_ar {ad : Nat → Nat} {v : Value} {r : Option Nat} (h : xb_ar v = some r) : xs_v ad v = va_rf (r.map ad) := by
  unfold xb_ar at h
  split at h
  · cases h; rfl
  · cases h; rfl
  · cases h
theorem xs_same (hD : xs_ad D) {H : Heap} (hR : xs_R D cl s H A) {x y : Option Nat} (hx : xb_ok A x = true) (hy : xb_ok A y = true) : x.map D.2.2.1 = y.map D.2.2.1 ↔ x = y := by
  constructor
  · intro h
    cases x with
    | none => cases y with
      | none => rfl
      | some b => cases h
    | some a => cases y with
      | none => cases h
      | some b =>
        have h' : D.2.2.1 a = D.2.2.1 b := by simpa using h
        rw [hD.2.2 a b hx hy h']
  · intro h
    rw [h]
theorem xs_ja (S : CallFix p m c cc nL s args Ts own) (hD : xs_ad D) {b : Bool} {t : Nat} {q : xb_S} (h : xb_ja b pc t L A st = some q) {off : Int} (ht : (pc : Int) + off = (t : Int)) (hd : (b = true ∧ decode cc pc = .ok (.if_acmp .eq off, 3)) ∨ (b = false ∧ decode cc pc = .ok (.if_acmp .ne off, 3)))
    (k : xs_G D cl p l e R s m args below meth c nL c0 s0 Q q.1 q.2.1 q.2.2.1 q.2.2.2) : xs_G D cl p l e R s m args below meth c nL c0 s0 Q pc L st A := by
  unfold xb_ja at h
  split at h
  · split at h
    · rename_i rx ry hx hy
      split at h
      · rename_i hok
        cases h
        intro H locs ls hR hl hq
        have k1 := k H locs ls hR hl hq
        have hsame : rx.map D.2.2.1 = ry.map D.2.2.1 ↔ rx = ry := by
          rcases hok with hok | hok
          · exact xs_same hD hR hok.1 hok.2
          · exact ⟨fun _ => hok, fun _ => by rw [hok]⟩
        rw [List.map_cons, List.map_cons, xs_ar hx, xs_ar hy]
        rcases hd with ⟨rfl, hd⟩ | ⟨rfl, hd⟩
        · refine lv_acmp_eq S.1 S.2.1 hd ht (fun he => ?_) (fun he => ?_)
          · have e1 : rx = ry := hsame.mp he
            simp only [e1, decide_true, ↓reduceIte] at k1
            exact k1
          · have e1 : ¬ rx = ry := fun z => he (hsame.mpr z)
            simp only [e1, decide_false, Bool.false_eq_true, ↓reduceIte] at k1
            exact k1
        · refine lv_acmp_ne S.1 S.2.1 hd ht (fun he => ?_) (fun he => ?_)
          · have e1 : ¬ rx = ry := fun z => he (hsame.mpr z)
            simp only [e1, decide_false, ↓reduceIte] at k1
            exact k1
          · have e1 : rx = ry := hsame.mp he
            simp only [e1, decide_true, Bool.true_eq_false, ↓reduceIte] at k1
            exact k1
      · cases h
    · cases h
  · cases h
theorem xs_tgt {pc t : Nat} {off : Int} (h : xb_tgt pc off = some t) : (pc : Int) + off = (t : Int) := by
  unfold xb_tgt at h
  split at h
  · cases h
    omega
  · cases h
theorem xs_look (S : CallFix p m c cc nL s args Ts own) {d : Int} {ps : Array (Int × Int)} {len : Nat} {q : xb_S} (h : xb_lookx d ps pc L A st = some q) (hd : decode cc pc = .ok (.lookupswitch d ps, len)) (hs : (ps.toList.zip (ps.toList.drop 1)).all (fun (a, next) => a.1 < next.1) = true)
    (k : xs_G D cl p l e R s m args below meth c nL c0 s0 Q q.1 q.2.1 q.2.2.1 q.2.2.2) : xs_G D cl p l e R s m args below meth c nL c0 s0 Q pc L st A := by
  unfold xb_lookx at h
  split at h
  · split at h
    · rename_i t ht
      cases h
      intro H locs ls hR hl hq
      exact lv_lookup S.1 S.2.1 hd hs rfl (xs_tgt ht) (k H locs ls hR hl hq)
    · cases h
  · cases h
theorem xs_tab (S : CallFix p m c cc nL s args Ts own) {d lo hi : Int} {os : Array Int} {len : Nat} {q : xb_S} (h : xb_tabx d lo hi os pc L A st = some q) (hd : decode cc pc = .ok (.tableswitch d lo hi os, len))
    (k : xs_G D cl p l e R s m args below meth c nL c0 s0 Q q.1 q.2.1 q.2.2.1 q.2.2.2) : xs_G D cl p l e R s m args below meth c nL c0 s0 Q pc L st A := by
  unfold xb_tabx at h
  split at h
  · split at h
    · rename_i hout
      split at h
      · rename_i t ht
        cases h
        intro H locs ls hR hl hq
        exact lv_tableOut S.1 S.2.1 hd hout (xs_tgt ht) (k H locs ls hR hl hq)
      · cases h
    · rename_i hout
      split at h
      · rename_i o ho
        split at h
        · rename_i t ht
          cases h
          intro H locs ls hR hl hq
          exact lv_tableIn S.1 S.2.1 hd (fun z => hout (Or.inl z)) (fun z => hout (Or.inr z)) ho (xs_tgt ht) (k H locs ls hR hl hq)
        · cases h
      · cases h
  · cases h
end XS2
