set_option maxHeartbeats 4000000 in
set_option maxRecDepth 100000 in
theorem xs_pure {p : Program} {l : Launch} {e : Env} {R : Room} {s : State} {m : MethodId} {args : Array Value} {below : List Frame} {meth : Method} {c : Code} {Q : State → Prop} {D : xs_D} {cl : List vw_C} {nL c0 s0 : Nat} {cc : ByteArray} {Ts : List Cond} {own : String} {pc : Nat} {L : xb_L} {st : List Value} {A : xb_H} {G : xb_G} {TY : List FieldType} {NW : List Cond} {sd : Nat → Option (String × String × String)} {sl : String → Nat → Option Nat} {ini : Bool}
    (S : CallFix p m c cc nL s args Ts own) (hD : xs_ad D) (hK : xs_K D G cl TY NW sd sl s) (hC : xs_cls cl Ts (xb_gT G)) (hini : ini = true → meth.name = "<init>") {q : xb_I} {r : xb_S} (h : xb_pure G q pc L st A = some r) (hd : decode cc pc = .ok (q.1, q.2.1)) (hlen : xs_len nL pc q) (hlk : xs_lk G cl Ts TY NW sd sl own ini q)
    (hc0 : c0 ≤ A.1) (hs0 : s0 ≤ A.2.1) (hcells : r.2.2.2.1 - c0 ≤ R.cells) (hslots : r.2.2.2.2.1 - s0 ≤ R.slots) (kk : xs_G D cl p l e R s m args below meth c nL c0 s0 Q r.1 r.2.1 r.2.2.1 r.2.2.2) : xs_G D cl p l e R s m args below meth c nL c0 s0 Q pc L st A := by
  obtain ⟨ins, len, r1, r2⟩ := q
  dsimp only at hd
  cases ins
  all_goals first | (have h9 : none = some r := h; cases h9; done) | skip
  case aconst_null =>
    have hl : len = 1 := hlen
    subst hl
    cases h
    intro H locs ls hR hl hq
    exact lv_null S.1 S.2.1 hd (kk H locs ls hR hl hq)
  case iconst n =>
    have hl : len = 1 := hlen
    subst hl
    cases h
    intro H locs ls hR hl hq
    exact lv_iconst S.1 S.2.1 hd rfl (kk H locs ls hR hl hq)
  case bipush n =>
    obtain ⟨hl, hv⟩ : len = 2 ∧ _ := hlen
    subst hl
    cases h
    intro H locs ls hR hl hq
    exact lv_bipush S.1 S.2.1 hd hv (kk H locs ls hR hl hq)
  case sipush n =>
    obtain ⟨hl, hv⟩ : len = 3 ∧ _ := hlen
    subst hl
    cases h
    intro H locs ls hR hl hq
    exact lv_sipush S.1 S.2.1 hd hv (kk H locs ls hR hl hq)
  case iload_n n =>
    have hl : len = 1 := hlen
    subst hl
    exact xs_ild S (i := n) h (fun H locs ls x hx k => lv_iload_n S.1 S.2.1 hd rfl hx k) kk
  case iload n =>
    have hl : len = 2 := hlen
    subst hl
    exact xs_ild S (i := n) h (fun H locs ls x hx k => lv_iload S.1 S.2.1 hd hx k) kk
  case lload_n n =>
    have hl : len = 1 := hlen
    subst hl
    exact xs_lld S (i := n) h (fun H locs ls x hx k => lv_lload_n S.1 S.2.1 hd rfl hx k) kk
  case lload n =>
    have hl : len = 2 := hlen
    subst hl
    exact xs_lld S (i := n) h (fun H locs ls x hx k => lv_lload S.1 S.2.1 hd hx k) kk
  case aload_n n =>
    have hl : len = 1 := hlen
    subst hl
    exact xs_ald S (i := n) h (fun H locs ls x hx k => lv_aload_n S.1 S.2.1 hd rfl hx k) (fun H locs ls hx k => lv_aload_nN S.1 S.2.1 hd rfl hx k) kk
  case aload n =>
    have hl : len = 2 := hlen
    subst hl
    exact xs_ald S (i := n) h (fun H locs ls x hx k => lv_aload S.1 S.2.1 hd hx k) (fun H locs ls hx k => lv_aloadN S.1 S.2.1 hd hx k) kk
  case istore_n n =>
    obtain ⟨hl, hn⟩ : len = 1 ∧ _ := hlen
    subst hl
    exact xs_ist (i := n) h (fun H locs ls x rest hl k => lv_istore_n S.1 S.2.1 hd rfl hl hn (xs_m_st D.2.2.1 L n (.int x)) k) kk
  case istore n =>
    obtain ⟨hl, hn⟩ : len = 2 ∧ _ := hlen
    subst hl
    exact xs_ist (i := n) h (fun H locs ls x rest hl k => lv_istore S.1 S.2.1 hd hl hn (xs_m_st D.2.2.1 L n (.int x)) k) kk
  case lstore_n n =>
    obtain ⟨hl, hn⟩ : len = 1 ∧ _ := hlen
    subst hl
    exact xs_lst (i := n) h (fun H locs ls x rest hl k => lv_lstore_n S.1 S.2.1 hd rfl hl hn (xs_m_st2 D.2.2.1 L n (.long x)) k) kk
  case lstore n =>
    obtain ⟨hl, hn⟩ : len = 2 ∧ _ := hlen
    subst hl
    exact xs_lst (i := n) h (fun H locs ls x rest hl k => lv_lstore S.1 S.2.1 hd hl hn (xs_m_st2 D.2.2.1 L n (.long x)) k) kk
  case astore_n n =>
    obtain ⟨hl, hn⟩ : len = 1 ∧ _ := hlen
    subst hl
    exact xs_ast (i := n) h (fun H locs ls x rest hl k => lv_astore_n S.1 S.2.1 hd rfl hl hn (xs_m_st D.2.2.1 L n (.ref x)) k) (fun H locs ls rest hl k => lv_astore_nN S.1 S.2.1 hd rfl hl hn (xs_m_st D.2.2.1 L n .null) k) kk
  case astore n =>
    obtain ⟨hl, hn⟩ : len = 2 ∧ _ := hlen
    subst hl
    exact xs_ast (i := n) h (fun H locs ls x rest hl k => lv_astore S.1 S.2.1 hd hl hn (xs_m_st D.2.2.1 L n (.ref x)) k) (fun H locs ls rest hl k => lv_astoreN S.1 S.2.1 hd hl hn (xs_m_st D.2.2.1 L n .null) k) kk
  case iinc i n =>
    obtain ⟨hl, hn⟩ : len = 3 ∧ _ := hlen
    subst hl
    exact xs_iinc S h hd hn kk
  case iadd =>
    have hl : len = 1 := hlen
    subst hl
    exact xs_i2 (f := fun x y => x + y) h (fun H locs ls x y rest k => lv_iadd S.1 S.2.1 hd k) kk
  case isub =>
    have hl : len = 1 := hlen
    subst hl
    exact xs_i2 (f := fun x y => x - y) h (fun H locs ls x y rest k => lv_isub S.1 S.2.1 hd k) kk
  case imul =>
    have hl : len = 1 := hlen
    subst hl
    exact xs_i2 (f := fun x y => x * y) h (fun H locs ls x y rest k => lv_imul S.1 S.2.1 hd k) kk
  case iand =>
    have hl : len = 1 := hlen
    subst hl
    exact xs_i2 (f := fun x y => x &&& y) h (fun H locs ls x y rest k => lv_iand S.1 S.2.1 hd k) kk
  case ior =>
    have hl : len = 1 := hlen
    subst hl
    exact xs_i2 (f := fun x y => x ||| y) h (fun H locs ls x y rest k => lv_ior S.1 S.2.1 hd k) kk
  case ixor =>
    have hl : len = 1 := hlen
    subst hl
    exact xs_i2 (f := fun x y => x ^^^ y) h (fun H locs ls x y rest k => lv_ixor S.1 S.2.1 hd k) kk
  case ishl =>
    have hl : len = 1 := hlen
    subst hl
    exact xs_i2 (f := fun x y => x <<< (y &&& 31)) h (fun H locs ls x y rest k => lv_ishl S.1 S.2.1 hd k) kk
  case ishr =>
    have hl : len = 1 := hlen
    subst hl
    exact xs_i2 (f := fun x y => x >>> (y &&& 31)) h (fun H locs ls x y rest k => lv_ishr S.1 S.2.1 hd k) kk
  case iushr =>
    have hl : len = 1 := hlen
    subst hl
    exact xs_i2 (f := fun x y => (x.toUInt32 >>> (y.toUInt32 &&& Int32.toUInt32 31)).toInt32) h (fun H locs ls x y rest k => lv_iushr S.1 S.2.1 hd rfl k) kk
  case idiv =>
    have hl : len = 1 := hlen
    subst hl
    exact xs_div (f := fun x y => x / y) h (fun H locs ls x y rest hy k => lv_idiv S.1 S.2.1 hd hy k) kk
  case irem =>
    have hl : len = 1 := hlen
    subst hl
    exact xs_div (f := fun x y => x - x / y * y) h (fun H locs ls x y rest hy k => lv_irem S.1 S.2.1 hd hy k) kk
  case ineg =>
    have hl : len = 1 := hlen
    subst hl
    exact xs_i1 (f := fun x => -x) h (fun H locs ls x rest k => lv_ineg S.1 S.2.1 hd k) kk
  case i2b =>
    have hl : len = 1 := hlen
    subst hl
    exact xs_i1 (f := fun x => x.toInt8.toInt32) h (fun H locs ls x rest k => lv_i2b S.1 S.2.1 hd rfl k) kk
  case i2c =>
    have hl : len = 1 := hlen
    subst hl
    exact xs_i1 (f := fun x => (x.toUInt32 % 65536).toInt32) h (fun H locs ls x rest k => lv_i2c S.1 S.2.1 hd rfl k) kk
  case i2l =>
    have hl : len = 1 := hlen
    subst hl
    exact xs_i2l S h hd kk
  case l2i =>
    have hl : len = 1 := hlen
    subst hl
    exact xs_l2i S h hd kk
  case land =>
    have hl : len = 1 := hlen
    subst hl
    exact xs_l2 (f := fun x y => x &&& y) h (fun H locs ls x y rest k => lv_land S.1 S.2.1 hd k) kk
  case lor =>
    have hl : len = 1 := hlen
    subst hl
    exact xs_l2 (f := fun x y => x ||| y) h (fun H locs ls x y rest k => lv_lor S.1 S.2.1 hd k) kk
  case lushr =>
    have hl : len = 1 := hlen
    subst hl
    exact xs_ls (f := fun x y => (x.toUInt64 >>> (y.toInt64.toUInt64 &&& Int64.toUInt64 63)).toInt64) h (fun H locs ls x y rest k => lv_lushr S.1 S.2.1 hd rfl k) kk
  case lshl =>
    have hl : len = 1 := hlen
    subst hl
    exact xs_ls (f := fun x y => x <<< (y.toInt64 &&& 63)) h (fun H locs ls x y rest k => lv_lshl S.1 S.2.1 hd rfl k) kk
  case lcmp =>
    have hl : len = 1 := hlen
    subst hl
    exact xs_lcmp S h hd kk
  case dup =>
    have hl : len = 1 := hlen
    subst hl
    exact xs_dup S h hd kk
  case pop =>
    have hl : len = 1 := hlen
    subst hl
    exact xs_pop S h hd kk
  case dup_x1 =>
    have hl : len = 1 := hlen
    subst hl
    exact xs_dup_x1 S h hd kk
  case dup_x2 =>
    have hl : len = 1 := hlen
    subst hl
    exact xs_dup_x2 S h hd kk
  case dup2 =>
    have hl : len = 1 := hlen
    subst hl
    exact xs_dup2 S h hd kk
  case ifCond cond off =>
    obtain ⟨hl, ht⟩ : len = 3 ∧ _ := hlen
    subst hl
    cases cond
    case eq =>
      exact xs_j1 (f := fun x => decide (x = 0)) h (fun H locs ls x rest kt kf => lv_if_eq S.1 S.2.1 hd ht (fun z => kt (decide_eq_true z)) (fun z => kf (fun y => z (of_decide_eq_true y)))) kk
    case ne =>
      exact xs_j1 (f := fun x => !decide (x = 0)) h (fun H locs ls x rest kt kf => lv_if_ne S.1 S.2.1 hd ht (fun z => kt (by simp [z])) (fun z => kf (by simp [z]))) kk
    case lt =>
      exact xs_j1 (f := fun x => decide (x < 0)) h (fun H locs ls x rest kt kf => lv_if_lt S.1 S.2.1 hd ht (fun z => kt (decide_eq_true z)) (fun z => kf (fun y => z (of_decide_eq_true y)))) kk
    case ge =>
      exact xs_j1 (f := fun x => decide (0 ≤ x)) h (fun H locs ls x rest kt kf => lv_if_ge S.1 S.2.1 hd ht (fun z => kt (decide_eq_true z)) (fun z => kf (fun y => z (of_decide_eq_true y)))) kk
    case gt =>
      exact xs_j1 (f := fun x => decide (0 < x)) h (fun H locs ls x rest kt kf => lv_if_gt S.1 S.2.1 hd ht (fun z => kt (decide_eq_true z)) (fun z => kf (fun y => z (of_decide_eq_true y)))) kk
    case le =>
      exact xs_j1 (f := fun x => decide (x ≤ 0)) h (fun H locs ls x rest kt kf => lv_if_le S.1 S.2.1 hd ht (fun z => kt (decide_eq_true z)) (fun z => kf (fun y => z (of_decide_eq_true y)))) kk
  case if_icmp cond off =>
    obtain ⟨hl, ht⟩ : len = 3 ∧ _ := hlen
    subst hl
    cases cond
    case eq =>
      exact xs_j2 (f := fun x y => decide (x = y)) h (fun H locs ls x y rest kt kf => lv_icmp_eq S.1 S.2.1 hd ht (fun z => kt (decide_eq_true z)) (fun z => kf (fun y => z (of_decide_eq_true y)))) kk
    case ne =>
      exact xs_j2 (f := fun x y => !decide (x = y)) h (fun H locs ls x y rest kt kf => lv_icmp_ne S.1 S.2.1 hd ht (fun z => kt (by simp [z])) (fun z => kf (by simp [z]))) kk
    case lt =>
      exact xs_j2 (f := fun x y => decide (x < y)) h (fun H locs ls x y rest kt kf => lv_icmp_lt S.1 S.2.1 hd ht (fun z => kt (decide_eq_true z)) (fun z => kf (fun y => z (of_decide_eq_true y)))) kk
    case ge =>
      exact xs_j2 (f := fun x y => decide (y ≤ x)) h (fun H locs ls x y rest kt kf => lv_icmp_ge S.1 S.2.1 hd ht (fun z => kt (decide_eq_true z)) (fun z => kf (fun y => z (of_decide_eq_true y)))) kk
    case gt =>
      exact xs_j2 (f := fun x y => decide (y < x)) h (fun H locs ls x y rest kt kf => lv_icmp_gt S.1 S.2.1 hd ht (fun z => kt (decide_eq_true z)) (fun z => kf (fun y => z (of_decide_eq_true y)))) kk
    case le =>
      exact xs_j2 (f := fun x y => decide (x ≤ y)) h (fun H locs ls x y rest kt kf => lv_icmp_le S.1 S.2.1 hd ht (fun z => kt (decide_eq_true z)) (fun z => kf (fun y => z (of_decide_eq_true y)))) kk
  case if_acmp cond off =>
    obtain ⟨hl, ht⟩ : len = 3 ∧ _ := hlen
    subst hl
    cases cond
    case eq =>
      exact xs_ja S hD (b := true) h ht (Or.inl ⟨rfl, hd⟩) kk
    case ne =>
      exact xs_ja S hD (b := false) h ht (Or.inr ⟨rfl, hd⟩) kk
  case ifnull off =>
    obtain ⟨hl, ht⟩ : len = 3 ∧ _ := hlen
    subst hl
    exact xs_jn S (b := true) h ht (Or.inl ⟨rfl, hd⟩) kk
  case ifnonnull off =>
    obtain ⟨hl, ht⟩ : len = 3 ∧ _ := hlen
    subst hl
    exact xs_jn S (b := false) h ht (Or.inr ⟨rfl, hd⟩) kk
  case goto off =>
    obtain ⟨hl, ht⟩ : len = 3 ∧ _ := hlen
    subst hl
    cases h
    intro H locs ls hR hl hq
    exact lv_goto S.1 S.2.1 hd ht (kk H locs ls hR hl hq)
  case lookupswitch d ps =>
    exact xs_look S h hd hlen kk
  case tableswitch d lo hi os =>
    exact xs_tab S h hd kk
  case getfield idx =>
    have hl : len = 3 := hlen
    subst hl
    exact xs_getf S hK.1 hC h hd hlk kk
  case putfield idx =>
    have hl : len = 3 := hlen
    subst hl
    exact xs_putf S hD hK.1 hC h hd hlk.1 (fun r hr => (hlk.2 r hr).imp id (fun z => ⟨z.1, z.2.1, hini z.2.2⟩)) kk
  case getstatic idx =>
    have hl : len = 3 := hlen
    subst hl
    obtain ⟨C, n, d, h1, h2⟩ := hlk
    exact xs_gets S hK h hd h1 h2 kk
  case ldc idx =>
    have hl : len = 2 := hlen
    subst hl
    exact xs_ldc S hK h hd hlk kk
  case ldc2_w idx =>
    have hl : len = 3 := hlen
    subst hl
    obtain ⟨v, h1, h2⟩ := hlk
    exact xs_ldc2 S h hd h1 h2 kk
  case new idx =>
    have hl : len = 3 := hlen
    subst hl
    exact xs_new S hD hK.1 hC h hd hlk hc0 hs0 hcells hslots kk
  case newarray t =>
    have hl : len = 2 := hlen
    subst hl
    exact xs_newa S hD h hd hlk.1 (hK.2.1 _ hlk.2) hc0 hs0 hcells hslots kk
  case anewarray idx =>
    have hl : len = 3 := hlen
    subst hl
    obtain ⟨C, h1, h2, h4⟩ := hlk
    have h5 : xb_newax (xb_gE G r1) pc 3 L A st = some r := h
    dsimp only at h1
    rw [h1] at h5
    exact xs_anew S hD h5 hd h2 (hK.2.2.2.2.2.1 C h4).1 (hK.2.1 _ h4) hc0 hs0 hcells hslots kk
  case arraylength =>
    have hl : len = 1 := hlen
    subst hl
    exact xs_alen S h hd kk
  case iaload =>
    have hl : len = 1 := hlen
    subst hl
    exact xs_iaI S h hd kk
  case caload =>
    have hl : len = 1 := hlen
    subst hl
    exact xs_iaC S h hd kk
  case baload =>
    have hl : len = 1 := hlen
    subst hl
    exact xs_iaB S h hd kk
  case laload =>
    have hl : len = 1 := hlen
    subst hl
    exact xs_lal S h hd kk
  case aaload =>
    have hl : len = 1 := hlen
    subst hl
    exact xs_aal S h hd kk
  case iastore =>
    have hl : len = 1 := hlen
    subst hl
    exact xs_isI S hD h hd kk
  case castore =>
    have hl : len = 1 := hlen
    subst hl
    exact xs_isC S hD h hd kk
  case bastore =>
    have hl : len = 1 := hlen
    subst hl
    exact xs_isB S hD h hd kk
  case lastore =>
    have hl : len = 1 := hlen
    subst hl
    exact xs_las S hD h hd kk
  case aastore =>
    have hl : len = 1 := hlen
    subst hl
    exact xs_aas S hD h hd hK.2.2.1 kk
  case checkcast idx =>
    have hl : len = 3 := hlen
    subst hl
    obtain ⟨nm, h1, h2, h3⟩ := hlk
    exact xs_cast S hK.1 h hd h1 (fun k r hk hr => (hK.2.2.2.2.2.2 _ (h2 k r hk hr)).2) (fun ho => by obtain ⟨e1, e2⟩ := h3 ho; rw [e1]; exact hK.2.1 _ e2) kk
  case instanceof idx =>
    have hl : len = 3 := hlen
    subst hl
    obtain ⟨nm, h1, h2⟩ := hlk
    exact xs_inst S hK.1 h hd h1 (fun k r hk hr => (hK.2.2.2.2.2.2 _ (h2 k r hk hr)).2) kk
