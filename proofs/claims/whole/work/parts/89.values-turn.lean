/-! The reference reads values: one turn of its loop -/
theorem xtx_up {s : Nat → Int} {t : Nat → Nat → Int} {n x : Nat} {f g : Nat → Int} (h : xtx s t n f) (hx : ¬ x = 166) : xtx s (va_up t x g) n f := by
  unfold xtx at h ⊢
  rw [ya_up_ne t g (fun e => hx e.symm)]
  exact h
section MV
variable {w : Value} {d : Nat} {A : xb_H} {s : Nat → Int} {T : Nat → Nat → Int} {i n cnt D : Nat} {f : Nat → Int} {Q : xb_R → xb_H → Prop}
theorem mo_208s1 (hA : 194 ≤ A.1) (hx : xtx s T n f) (hcn : cnt ≤ 1000) (hi : i ≤ 1000) (hD : D ≤ 5) (hop : T 178 D = 91 ∨ T 178 D = 123) (hcl : i < n → (ye n f i = 93 ∧ T 178 D = 91) ∨ (ye n f i = 125 ∧ T 178 D = 123) → xr_ok (xt_G w) (d + 1 + 1 + 1) 208 21 [(1, .int (Int32.ofInt (D : Int))), (2, .int (Int32.ofInt 1)), (3, .int (Int32.ofInt (cnt : Int))), (4, .int (Int32.ofInt (400 + ((i + 1 : Nat) : Int)))), (5, .int (Int32.ofInt (400 + (n : Int)))), (0, .ref 165)] [] (ym A s T) Q) (hca : ye n f i = 44 → T 178 D = 91 → xr_ok (xt_G w) (d + 1 + 1 + 1) 208 21 [(1, .int (Int32.ofInt ((D + 1 : Nat) : Int))), (2, .int (Int32.ofInt 0)), (3, .int (Int32.ofInt (cnt : Int))), (4, .int (Int32.ofInt (400 + ((i + 1 : Nat) : Int)))), (5, .int (Int32.ofInt (400 + (n : Int)))), (0, .ref 165)] [] (ym A s T) Q) (hco : ye n f i = 44 → T 178 D = 123 → xr_ok (xt_G w) (d + 1 + 1 + 1) 208 21 [(1, .int (Int32.ofInt ((D + 1 : Nat) : Int))), (2, .int (Int32.ofInt 4)), (3, .int (Int32.ofInt (cnt : Int))), (4, .int (Int32.ofInt (400 + ((i + 1 : Nat) : Int)))), (5, .int (Int32.ofInt (400 + (n : Int)))), (0, .ref 165)] [] (ym A s T) Q) (hbad : ¬ ((ye n f i = 93 ∧ T 178 D = 91) ∨ (ye n f i = 125 ∧ T 178 D = 123) ∨ ye n f i = 44) → Q (.inl (some (.int (Int32.ofInt (-1))))) (ym A s T)) : xr_ok (xt_G w) (d + 1 + 1 + 1) 208 21 [(1, .int (Int32.ofInt ((D + 1 : Nat) : Int))), (2, .int (Int32.ofInt 1)), (3, .int (Int32.ofInt (cnt : Int))), (4, .int (Int32.ofInt (400 + (i : Int)))), (5, .int (Int32.ofInt (400 + (n : Int)))), (0, .ref 165)] [] (ym A s T) Q := by
  have hn := hx.2.1
  have hye := xtx_ye hx i
  refine xr_steps (pc' := 25) (L' := [(1, .int (Int32.ofInt ((D + 1 : Nat) : Int))), (2, .int (Int32.ofInt 1)), (3, .int (Int32.ofInt (cnt : Int))), (4, .int (Int32.ofInt (400 + (i : Int)))), (5, .int (Int32.ofInt (400 + (n : Int)))), (0, .ref 165)]) (st' := [.int (Int32.ofInt (400 + (n : Int))), .int (Int32.ofInt (400 + (i : Int)))]) 2 rfl ?_
  refine xr_icmp_ge rfl (by omega) (by omega) (fun z31 => ?_) (fun z31 => ?_)
  · refine xr_steps (pc' := 350) (L' := [(1, .int (Int32.ofInt ((D + 1 : Nat) : Int))), (2, .int (Int32.ofInt 1)), (3, .int (Int32.ofInt (cnt : Int))), (4, .int (Int32.ofInt (400 + (i : Int)))), (5, .int (Int32.ofInt (400 + (n : Int)))), (0, .ref 165)]) (st' := [.int (Int32.ofInt ((D + 1 : Nat) : Int))]) 1 rfl ?_
    refine xr_if_ne rfl (by omega) (fun z32 => ?_) (fun z32 => ?_)
    · refine xr_steps (pc' := 363) (L' := [(1, .int (Int32.ofInt ((D + 1 : Nat) : Int))), (2, .int (Int32.ofInt 1)), (3, .int (Int32.ofInt (cnt : Int))), (4, .int (Int32.ofInt (400 + (i : Int)))), (5, .int (Int32.ofInt (400 + (n : Int)))), (0, .ref 165)]) (st' := [.int (Int32.ofInt (-1))]) 1 rfl ?_
      first
        | exact xr_retI2 rfl rfl (hbad (by omega))
        | (exfalso; omega)
    · refine xr_steps (pc' := 355) (L' := [(1, .int (Int32.ofInt ((D + 1 : Nat) : Int))), (2, .int (Int32.ofInt 1)), (3, .int (Int32.ofInt (cnt : Int))), (4, .int (Int32.ofInt (400 + (i : Int)))), (5, .int (Int32.ofInt (400 + (n : Int)))), (0, .ref 165)]) (st' := [.int (Int32.ofInt 1), .int (Int32.ofInt 1)]) 2 rfl ?_
      refine xr_icmp_ne rfl (by omega) (by omega) (fun z33 => ?_) (fun z33 => ?_)
      · exfalso; omega
      · refine xr_steps (pc' := 363) (L' := [(1, .int (Int32.ofInt ((D + 1 : Nat) : Int))), (2, .int (Int32.ofInt 1)), (3, .int (Int32.ofInt (cnt : Int))), (4, .int (Int32.ofInt (400 + (i : Int)))), (5, .int (Int32.ofInt (400 + (n : Int)))), (0, .ref 165)]) (st' := [.int (Int32.ofInt (cnt : Int))]) 2 rfl ?_
        first
          | exact xr_retI2 rfl rfl (hbad (by omega))
          | (exfalso; omega)
  · refine xr_steps (pc' := 31) (L' := [(1, .int (Int32.ofInt ((D + 1 : Nat) : Int))), (2, .int (Int32.ofInt 1)), (3, .int (Int32.ofInt (cnt : Int))), (4, .int (Int32.ofInt (400 + (i : Int)))), (5, .int (Int32.ofInt (400 + (n : Int)))), (0, .ref 165)]) (st' := [.int (Int32.ofInt (400 + (i : Int))), .ref 165]) 2 rfl ?_
    refine xr_call (q := (.invokevirtual 103, 3, 209, 2)) (av := [.ref 165, .int (Int32.ofInt (400 + (i : Int)))]) (rest := []) rfl rfl (by decide) rfl (ym_rcv hA rfl) (Nat.le_of_ble_eq_true rfl) (mo_209t (i := i) hA hx (by omega) (by omega)) ?_
    rintro _ _ ⟨rfl, eA⟩
    rw [eA]
    clear eA
    have hx34 := xtx_ye hx i
    refine xr_steps (pc' := 40) (L' := [(6, .int (Int32.ofInt (xat n f i))), (1, .int (Int32.ofInt ((D + 1 : Nat) : Int))), (2, .int (Int32.ofInt 1)), (3, .int (Int32.ofInt (cnt : Int))), (4, .int (Int32.ofInt (400 + (i : Int)))), (5, .int (Int32.ofInt (400 + (n : Int)))), (0, .ref 165)]) (st' := [.int (Int32.ofInt 93), .int (Int32.ofInt (xat n f i))]) 3 rfl ?_
    refine xr_icmp_ne rfl (by omega) (by omega) (fun z35 => ?_) (fun z35 => ?_)
    · refine xr_steps (pc' := 57) (L' := [(6, .int (Int32.ofInt (xat n f i))), (1, .int (Int32.ofInt ((D + 1 : Nat) : Int))), (2, .int (Int32.ofInt 1)), (3, .int (Int32.ofInt (cnt : Int))), (4, .int (Int32.ofInt (400 + (i : Int)))), (5, .int (Int32.ofInt (400 + (n : Int)))), (0, .ref 165)]) (st' := [.int (Int32.ofInt 125), .int (Int32.ofInt (xat n f i))]) 2 rfl ?_
      refine xr_icmp_ne rfl (by omega) (by omega) (fun z36 => ?_) (fun z36 => ?_)
      · refine xr_steps (pc' := 114) (L' := [(6, .int (Int32.ofInt (xat n f i))), (1, .int (Int32.ofInt ((D + 1 : Nat) : Int))), (2, .int (Int32.ofInt 1)), (3, .int (Int32.ofInt (cnt : Int))), (4, .int (Int32.ofInt (400 + (i : Int)))), (5, .int (Int32.ofInt (400 + (n : Int)))), (0, .ref 165)]) (st' := [.int (Int32.ofInt 1), .int (Int32.ofInt 1)]) 2 rfl ?_
        refine xr_icmp_ne rfl (by omega) (by omega) (fun z37 => ?_) (fun z37 => ?_)
        · exfalso; omega
        · refine xr_steps (pc' := 121) (L' := [(6, .int (Int32.ofInt (xat n f i))), (1, .int (Int32.ofInt ((D + 1 : Nat) : Int))), (2, .int (Int32.ofInt 1)), (3, .int (Int32.ofInt (cnt : Int))), (4, .int (Int32.ofInt (400 + (i : Int)))), (5, .int (Int32.ofInt (400 + (n : Int)))), (0, .ref 165)]) (st' := [.int (Int32.ofInt 44), .int (Int32.ofInt (xat n f i))]) 2 rfl ?_
          refine xr_icmp_ne rfl (by omega) (by omega) (fun z38 => ?_) (fun z38 => ?_)
          · refine xr_steps (pc' := 129) (L' := [(6, .int (Int32.ofInt (xat n f i))), (1, .int (Int32.ofInt ((D + 1 : Nat) : Int))), (2, .int (Int32.ofInt 1)), (3, .int (Int32.ofInt (cnt : Int))), (4, .int (Int32.ofInt (400 + (i : Int)))), (5, .int (Int32.ofInt (400 + (n : Int)))), (0, .ref 165)]) (st' := [.int (Int32.ofInt (-1))]) 1 rfl ?_
            first
              | exact xr_retI2 rfl rfl (hbad (by omega))
              | (exfalso; omega)
          · refine xr_steps (pc' := 125) (L' := [(6, .int (Int32.ofInt (xat n f i))), (1, .int (Int32.ofInt ((D + 1 : Nat) : Int))), (2, .int (Int32.ofInt 1)), (3, .int (Int32.ofInt (cnt : Int))), (4, .int (Int32.ofInt (400 + (i : Int)))), (5, .int (Int32.ofInt (400 + (n : Int)))), (0, .ref 165)]) (st' := [.int (Int32.ofInt ((D + 1 : Nat) : Int))]) 1 rfl ?_
            refine xr_if_ne rfl (by omega) (fun z39 => ?_) (fun z39 => ?_)
            · refine xr_steps (pc' := 131) (L' := [(6, .int (Int32.ofInt (xat n f i))), (1, .int (Int32.ofInt ((D + 1 : Nat) : Int))), (2, .int (Int32.ofInt 1)), (3, .int (Int32.ofInt (cnt : Int))), (4, .int (Int32.ofInt (400 + (i : Int)))), (5, .int (Int32.ofInt (400 + (n : Int)))), (0, .ref 165)]) (st' := [.ref 165]) 1 rfl ?_
              refine xr_getf (v := .ref 178) rfl (ym_165 hA) rfl ?_
              refine xr_steps (pc' := 136) (L' := [(6, .int (Int32.ofInt (xat n f i))), (1, .int (Int32.ofInt ((D + 1 : Nat) : Int))), (2, .int (Int32.ofInt 1)), (3, .int (Int32.ofInt (cnt : Int))), (4, .int (Int32.ofInt (400 + (i : Int)))), (5, .int (Int32.ofInt (400 + (n : Int)))), (0, .ref 165)]) (st' := [.int (Int32.ofInt 1), .int (Int32.ofInt ((D + 1 : Nat) : Int)), .ref 178]) 2 rfl ?_
              refine xr_isub rfl ?_
              rw [show ((D + 1 : Nat) : Int) - 1 = (D : Int) by omega]
              refine ym_caload (e := T 178 (D : Int).toNat) hA rfl rfl (by decide) (by omega) (by omega) rfl ?_
              rw [show (D : Int).toNat = D by omega]
              refine xr_steps (pc' := 140) (L' := [(6, .int (Int32.ofInt (xat n f i))), (1, .int (Int32.ofInt ((D + 1 : Nat) : Int))), (2, .int (Int32.ofInt 1)), (3, .int (Int32.ofInt (cnt : Int))), (4, .int (Int32.ofInt (400 + (i : Int)))), (5, .int (Int32.ofInt (400 + (n : Int)))), (0, .ref 165)]) (st' := [.int (Int32.ofInt 123), .int (Int32.ofInt (T 178 D))]) 1 rfl ?_
              refine xr_icmp_ne rfl (by omega) (by omega) (fun z40 => ?_) (fun z40 => ?_)
              · refine xr_steps (pc' := 149) (L' := [(2, .int (Int32.ofInt 0)), (6, .int (Int32.ofInt (xat n f i))), (1, .int (Int32.ofInt ((D + 1 : Nat) : Int))), (3, .int (Int32.ofInt (cnt : Int))), (4, .int (Int32.ofInt (400 + (i : Int)))), (5, .int (Int32.ofInt (400 + (n : Int)))), (0, .ref 165)]) (st' := []) 2 rfl ?_
                refine xr_iinc (L' := [(4, .int (Int32.ofInt ((400 + (i : Int)) + 1))), (2, .int (Int32.ofInt 0)), (6, .int (Int32.ofInt (xat n f i))), (1, .int (Int32.ofInt ((D + 1 : Nat) : Int))), (3, .int (Int32.ofInt (cnt : Int))), (5, .int (Int32.ofInt (400 + (n : Int)))), (0, .ref 165)]) rfl rfl rfl ?_
                refine xr_steps (pc' := 21) (L' := [(4, .int (Int32.ofInt ((400 + (i : Int)) + 1))), (2, .int (Int32.ofInt 0)), (6, .int (Int32.ofInt (xat n f i))), (1, .int (Int32.ofInt ((D + 1 : Nat) : Int))), (3, .int (Int32.ofInt (cnt : Int))), (5, .int (Int32.ofInt (400 + (n : Int)))), (0, .ref 165)]) (st' := []) 2 rfl ?_
                refine xr_loc (L := [(1, .int (Int32.ofInt ((D + 1 : Nat) : Int))), (2, .int (Int32.ofInt 0)), (3, .int (Int32.ofInt (cnt : Int))), (4, .int (Int32.ofInt ((400 + (i : Int)) + 1))), (5, .int (Int32.ofInt (400 + (n : Int)))), (0, .ref 165)]) (show [1, 2, 3, 4, 5, 0].Nodup by decide) ⟨rfl, rfl, rfl, rfl, rfl, rfl, trivial⟩ ?_
                rw [show 400 + (i : Int) + 1 = 400 + ((i + 1 : Nat) : Int) by omega]
                first
                  | exact hca (by omega) (by omega)
                  | (exfalso; omega)
              · refine xr_steps (pc' := 149) (L' := [(2, .int (Int32.ofInt 4)), (6, .int (Int32.ofInt (xat n f i))), (1, .int (Int32.ofInt ((D + 1 : Nat) : Int))), (3, .int (Int32.ofInt (cnt : Int))), (4, .int (Int32.ofInt (400 + (i : Int)))), (5, .int (Int32.ofInt (400 + (n : Int)))), (0, .ref 165)]) (st' := []) 3 rfl ?_
                refine xr_iinc (L' := [(4, .int (Int32.ofInt ((400 + (i : Int)) + 1))), (2, .int (Int32.ofInt 4)), (6, .int (Int32.ofInt (xat n f i))), (1, .int (Int32.ofInt ((D + 1 : Nat) : Int))), (3, .int (Int32.ofInt (cnt : Int))), (5, .int (Int32.ofInt (400 + (n : Int)))), (0, .ref 165)]) rfl rfl rfl ?_
                refine xr_steps (pc' := 21) (L' := [(4, .int (Int32.ofInt ((400 + (i : Int)) + 1))), (2, .int (Int32.ofInt 4)), (6, .int (Int32.ofInt (xat n f i))), (1, .int (Int32.ofInt ((D + 1 : Nat) : Int))), (3, .int (Int32.ofInt (cnt : Int))), (5, .int (Int32.ofInt (400 + (n : Int)))), (0, .ref 165)]) (st' := []) 2 rfl ?_
                refine xr_loc (L := [(1, .int (Int32.ofInt ((D + 1 : Nat) : Int))), (2, .int (Int32.ofInt 4)), (3, .int (Int32.ofInt (cnt : Int))), (4, .int (Int32.ofInt ((400 + (i : Int)) + 1))), (5, .int (Int32.ofInt (400 + (n : Int)))), (0, .ref 165)]) (show [1, 2, 3, 4, 5, 0].Nodup by decide) ⟨rfl, rfl, rfl, rfl, rfl, rfl, trivial⟩ ?_
                rw [show 400 + (i : Int) + 1 = 400 + ((i + 1 : Nat) : Int) by omega]
                first
                  | exact hco (by omega) (by omega)
                  | (exfalso; omega)
            · refine xr_steps (pc' := 129) (L' := [(6, .int (Int32.ofInt (xat n f i))), (1, .int (Int32.ofInt ((D + 1 : Nat) : Int))), (2, .int (Int32.ofInt 1)), (3, .int (Int32.ofInt (cnt : Int))), (4, .int (Int32.ofInt (400 + (i : Int)))), (5, .int (Int32.ofInt (400 + (n : Int)))), (0, .ref 165)]) (st' := [.int (Int32.ofInt (-1))]) 1 rfl ?_
              first
                | exact xr_retI2 rfl rfl (hbad (by omega))
                | (exfalso; omega)
      · refine xr_steps (pc' := 62) (L' := [(6, .int (Int32.ofInt (xat n f i))), (1, .int (Int32.ofInt ((D + 1 : Nat) : Int))), (2, .int (Int32.ofInt 1)), (3, .int (Int32.ofInt (cnt : Int))), (4, .int (Int32.ofInt (400 + (i : Int)))), (5, .int (Int32.ofInt (400 + (n : Int)))), (0, .ref 165)]) (st' := [.int (Int32.ofInt 1), .int (Int32.ofInt 1)]) 2 rfl ?_
        refine xr_icmp_eq rfl (by omega) (by omega) (fun z41 => ?_) (fun z41 => ?_)
        · refine xr_steps (pc' := 71) (L' := [(6, .int (Int32.ofInt (xat n f i))), (1, .int (Int32.ofInt ((D + 1 : Nat) : Int))), (2, .int (Int32.ofInt 1)), (3, .int (Int32.ofInt (cnt : Int))), (4, .int (Int32.ofInt (400 + (i : Int)))), (5, .int (Int32.ofInt (400 + (n : Int)))), (0, .ref 165)]) (st' := [.int (Int32.ofInt ((D + 1 : Nat) : Int))]) 1 rfl ?_
          refine xr_if_eq rfl (by omega) (fun z42 => ?_) (fun z42 => ?_)
          · refine xr_steps (pc' := 100) (L' := [(6, .int (Int32.ofInt (xat n f i))), (1, .int (Int32.ofInt ((D + 1 : Nat) : Int))), (2, .int (Int32.ofInt 1)), (3, .int (Int32.ofInt (cnt : Int))), (4, .int (Int32.ofInt (400 + (i : Int)))), (5, .int (Int32.ofInt (400 + (n : Int)))), (0, .ref 165)]) (st' := [.int (Int32.ofInt (-1))]) 1 rfl ?_
            first
              | exact xr_retI2 rfl rfl (hbad (by omega))
              | (exfalso; omega)
          · refine xr_steps (pc' := 75) (L' := [(6, .int (Int32.ofInt (xat n f i))), (1, .int (Int32.ofInt ((D + 1 : Nat) : Int))), (2, .int (Int32.ofInt 1)), (3, .int (Int32.ofInt (cnt : Int))), (4, .int (Int32.ofInt (400 + (i : Int)))), (5, .int (Int32.ofInt (400 + (n : Int)))), (0, .ref 165)]) (st' := [.ref 165]) 1 rfl ?_
            refine xr_getf (v := .ref 178) rfl (ym_165 hA) rfl ?_
            refine xr_steps (pc' := 80) (L' := [(6, .int (Int32.ofInt (xat n f i))), (1, .int (Int32.ofInt ((D + 1 : Nat) : Int))), (2, .int (Int32.ofInt 1)), (3, .int (Int32.ofInt (cnt : Int))), (4, .int (Int32.ofInt (400 + (i : Int)))), (5, .int (Int32.ofInt (400 + (n : Int)))), (0, .ref 165)]) (st' := [.int (Int32.ofInt 1), .int (Int32.ofInt ((D + 1 : Nat) : Int)), .ref 178]) 2 rfl ?_
            refine xr_isub rfl ?_
            rw [show ((D + 1 : Nat) : Int) - 1 = (D : Int) by omega]
            refine ym_caload (e := T 178 (D : Int).toNat) hA rfl rfl (by decide) (by omega) (by omega) rfl ?_
            rw [show (D : Int).toNat = D by omega]
            refine xr_steps (pc' := 86) (L' := [(6, .int (Int32.ofInt (xat n f i))), (1, .int (Int32.ofInt ((D + 1 : Nat) : Int))), (2, .int (Int32.ofInt 1)), (3, .int (Int32.ofInt (cnt : Int))), (4, .int (Int32.ofInt (400 + (i : Int)))), (5, .int (Int32.ofInt (400 + (n : Int)))), (0, .ref 165)]) (st' := [.int (Int32.ofInt 93), .int (Int32.ofInt (xat n f i)), .int (Int32.ofInt (T 178 D))]) 2 rfl ?_
            refine xr_icmp_ne rfl (by omega) (by omega) (fun z43 => ?_) (fun z43 => ?_)
            · refine xr_steps (pc' := 96) (L' := [(6, .int (Int32.ofInt (xat n f i))), (1, .int (Int32.ofInt ((D + 1 : Nat) : Int))), (2, .int (Int32.ofInt 1)), (3, .int (Int32.ofInt (cnt : Int))), (4, .int (Int32.ofInt (400 + (i : Int)))), (5, .int (Int32.ofInt (400 + (n : Int)))), (0, .ref 165)]) (st' := [.int (Int32.ofInt 123), .int (Int32.ofInt (T 178 D))]) 1 rfl ?_
              refine xr_icmp_eq rfl (by omega) (by omega) (fun z44 => ?_) (fun z44 => ?_)
              · refine xr_iincn (L' := [(1, .int (Int32.ofInt (((D + 1 : Nat) : Int) - 1))), (6, .int (Int32.ofInt (xat n f i))), (2, .int (Int32.ofInt 1)), (3, .int (Int32.ofInt (cnt : Int))), (4, .int (Int32.ofInt (400 + (i : Int)))), (5, .int (Int32.ofInt (400 + (n : Int)))), (0, .ref 165)]) rfl rfl rfl ?_
                rw [show ((D + 1 : Nat) : Int) - 1 = (D : Int) by omega]
                refine xr_steps (pc' := 106) (L' := [(2, .int (Int32.ofInt 1)), (1, .int (Int32.ofInt (D : Int))), (6, .int (Int32.ofInt (xat n f i))), (3, .int (Int32.ofInt (cnt : Int))), (4, .int (Int32.ofInt (400 + (i : Int)))), (5, .int (Int32.ofInt (400 + (n : Int)))), (0, .ref 165)]) (st' := []) 2 rfl ?_
                refine xr_iinc (L' := [(4, .int (Int32.ofInt ((400 + (i : Int)) + 1))), (2, .int (Int32.ofInt 1)), (1, .int (Int32.ofInt (D : Int))), (6, .int (Int32.ofInt (xat n f i))), (3, .int (Int32.ofInt (cnt : Int))), (5, .int (Int32.ofInt (400 + (n : Int)))), (0, .ref 165)]) rfl rfl rfl ?_
                refine xr_steps (pc' := 21) (L' := [(4, .int (Int32.ofInt ((400 + (i : Int)) + 1))), (2, .int (Int32.ofInt 1)), (1, .int (Int32.ofInt (D : Int))), (6, .int (Int32.ofInt (xat n f i))), (3, .int (Int32.ofInt (cnt : Int))), (5, .int (Int32.ofInt (400 + (n : Int)))), (0, .ref 165)]) (st' := []) 2 rfl ?_
                refine xr_loc (L := [(1, .int (Int32.ofInt (D : Int))), (2, .int (Int32.ofInt 1)), (3, .int (Int32.ofInt (cnt : Int))), (4, .int (Int32.ofInt ((400 + (i : Int)) + 1))), (5, .int (Int32.ofInt (400 + (n : Int)))), (0, .ref 165)]) (show [1, 2, 3, 4, 5, 0].Nodup by decide) ⟨rfl, rfl, rfl, rfl, rfl, rfl, trivial⟩ ?_
                rw [show 400 + (i : Int) + 1 = 400 + ((i + 1 : Nat) : Int) by omega]
                first
                  | exact hcl (by omega) (by omega)
                  | (exfalso; omega)
              · refine xr_steps (pc' := 100) (L' := [(6, .int (Int32.ofInt (xat n f i))), (1, .int (Int32.ofInt ((D + 1 : Nat) : Int))), (2, .int (Int32.ofInt 1)), (3, .int (Int32.ofInt (cnt : Int))), (4, .int (Int32.ofInt (400 + (i : Int)))), (5, .int (Int32.ofInt (400 + (n : Int)))), (0, .ref 165)]) (st' := [.int (Int32.ofInt (-1))]) 1 rfl ?_
                first
                  | exact xr_retI2 rfl rfl (hbad (by omega))
                  | (exfalso; omega)
            · refine xr_steps (pc' := 96) (L' := [(6, .int (Int32.ofInt (xat n f i))), (1, .int (Int32.ofInt ((D + 1 : Nat) : Int))), (2, .int (Int32.ofInt 1)), (3, .int (Int32.ofInt (cnt : Int))), (4, .int (Int32.ofInt (400 + (i : Int)))), (5, .int (Int32.ofInt (400 + (n : Int)))), (0, .ref 165)]) (st' := [.int (Int32.ofInt 91), .int (Int32.ofInt (T 178 D))]) 2 rfl ?_
              refine xr_icmp_eq rfl (by omega) (by omega) (fun z45 => ?_) (fun z45 => ?_)
              · refine xr_iincn (L' := [(1, .int (Int32.ofInt (((D + 1 : Nat) : Int) - 1))), (6, .int (Int32.ofInt (xat n f i))), (2, .int (Int32.ofInt 1)), (3, .int (Int32.ofInt (cnt : Int))), (4, .int (Int32.ofInt (400 + (i : Int)))), (5, .int (Int32.ofInt (400 + (n : Int)))), (0, .ref 165)]) rfl rfl rfl ?_
                rw [show ((D + 1 : Nat) : Int) - 1 = (D : Int) by omega]
                refine xr_steps (pc' := 106) (L' := [(2, .int (Int32.ofInt 1)), (1, .int (Int32.ofInt (D : Int))), (6, .int (Int32.ofInt (xat n f i))), (3, .int (Int32.ofInt (cnt : Int))), (4, .int (Int32.ofInt (400 + (i : Int)))), (5, .int (Int32.ofInt (400 + (n : Int)))), (0, .ref 165)]) (st' := []) 2 rfl ?_
                refine xr_iinc (L' := [(4, .int (Int32.ofInt ((400 + (i : Int)) + 1))), (2, .int (Int32.ofInt 1)), (1, .int (Int32.ofInt (D : Int))), (6, .int (Int32.ofInt (xat n f i))), (3, .int (Int32.ofInt (cnt : Int))), (5, .int (Int32.ofInt (400 + (n : Int)))), (0, .ref 165)]) rfl rfl rfl ?_
                refine xr_steps (pc' := 21) (L' := [(4, .int (Int32.ofInt ((400 + (i : Int)) + 1))), (2, .int (Int32.ofInt 1)), (1, .int (Int32.ofInt (D : Int))), (6, .int (Int32.ofInt (xat n f i))), (3, .int (Int32.ofInt (cnt : Int))), (5, .int (Int32.ofInt (400 + (n : Int)))), (0, .ref 165)]) (st' := []) 2 rfl ?_
                refine xr_loc (L := [(1, .int (Int32.ofInt (D : Int))), (2, .int (Int32.ofInt 1)), (3, .int (Int32.ofInt (cnt : Int))), (4, .int (Int32.ofInt ((400 + (i : Int)) + 1))), (5, .int (Int32.ofInt (400 + (n : Int)))), (0, .ref 165)]) (show [1, 2, 3, 4, 5, 0].Nodup by decide) ⟨rfl, rfl, rfl, rfl, rfl, rfl, trivial⟩ ?_
                rw [show 400 + (i : Int) + 1 = 400 + ((i + 1 : Nat) : Int) by omega]
                first
                  | exact hcl (by omega) (by omega)
                  | (exfalso; omega)
              · refine xr_steps (pc' := 100) (L' := [(6, .int (Int32.ofInt (xat n f i))), (1, .int (Int32.ofInt ((D + 1 : Nat) : Int))), (2, .int (Int32.ofInt 1)), (3, .int (Int32.ofInt (cnt : Int))), (4, .int (Int32.ofInt (400 + (i : Int)))), (5, .int (Int32.ofInt (400 + (n : Int)))), (0, .ref 165)]) (st' := [.int (Int32.ofInt (-1))]) 1 rfl ?_
                first
                  | exact xr_retI2 rfl rfl (hbad (by omega))
                  | (exfalso; omega)
        · exfalso; omega
    · refine xr_steps (pc' := 45) (L' := [(6, .int (Int32.ofInt (xat n f i))), (1, .int (Int32.ofInt ((D + 1 : Nat) : Int))), (2, .int (Int32.ofInt 1)), (3, .int (Int32.ofInt (cnt : Int))), (4, .int (Int32.ofInt (400 + (i : Int)))), (5, .int (Int32.ofInt (400 + (n : Int)))), (0, .ref 165)]) (st' := [.int (Int32.ofInt 1), .int (Int32.ofInt 1)]) 2 rfl ?_
      refine xr_icmp_eq rfl (by omega) (by omega) (fun z46 => ?_) (fun z46 => ?_)
      · refine xr_steps (pc' := 71) (L' := [(6, .int (Int32.ofInt (xat n f i))), (1, .int (Int32.ofInt ((D + 1 : Nat) : Int))), (2, .int (Int32.ofInt 1)), (3, .int (Int32.ofInt (cnt : Int))), (4, .int (Int32.ofInt (400 + (i : Int)))), (5, .int (Int32.ofInt (400 + (n : Int)))), (0, .ref 165)]) (st' := [.int (Int32.ofInt ((D + 1 : Nat) : Int))]) 1 rfl ?_
        refine xr_if_eq rfl (by omega) (fun z47 => ?_) (fun z47 => ?_)
        · refine xr_steps (pc' := 100) (L' := [(6, .int (Int32.ofInt (xat n f i))), (1, .int (Int32.ofInt ((D + 1 : Nat) : Int))), (2, .int (Int32.ofInt 1)), (3, .int (Int32.ofInt (cnt : Int))), (4, .int (Int32.ofInt (400 + (i : Int)))), (5, .int (Int32.ofInt (400 + (n : Int)))), (0, .ref 165)]) (st' := [.int (Int32.ofInt (-1))]) 1 rfl ?_
          first
            | exact xr_retI2 rfl rfl (hbad (by omega))
            | (exfalso; omega)
        · refine xr_steps (pc' := 75) (L' := [(6, .int (Int32.ofInt (xat n f i))), (1, .int (Int32.ofInt ((D + 1 : Nat) : Int))), (2, .int (Int32.ofInt 1)), (3, .int (Int32.ofInt (cnt : Int))), (4, .int (Int32.ofInt (400 + (i : Int)))), (5, .int (Int32.ofInt (400 + (n : Int)))), (0, .ref 165)]) (st' := [.ref 165]) 1 rfl ?_
          refine xr_getf (v := .ref 178) rfl (ym_165 hA) rfl ?_
          refine xr_steps (pc' := 80) (L' := [(6, .int (Int32.ofInt (xat n f i))), (1, .int (Int32.ofInt ((D + 1 : Nat) : Int))), (2, .int (Int32.ofInt 1)), (3, .int (Int32.ofInt (cnt : Int))), (4, .int (Int32.ofInt (400 + (i : Int)))), (5, .int (Int32.ofInt (400 + (n : Int)))), (0, .ref 165)]) (st' := [.int (Int32.ofInt 1), .int (Int32.ofInt ((D + 1 : Nat) : Int)), .ref 178]) 2 rfl ?_
          refine xr_isub rfl ?_
          rw [show ((D + 1 : Nat) : Int) - 1 = (D : Int) by omega]
          refine ym_caload (e := T 178 (D : Int).toNat) hA rfl rfl (by decide) (by omega) (by omega) rfl ?_
          rw [show (D : Int).toNat = D by omega]
          refine xr_steps (pc' := 86) (L' := [(6, .int (Int32.ofInt (xat n f i))), (1, .int (Int32.ofInt ((D + 1 : Nat) : Int))), (2, .int (Int32.ofInt 1)), (3, .int (Int32.ofInt (cnt : Int))), (4, .int (Int32.ofInt (400 + (i : Int)))), (5, .int (Int32.ofInt (400 + (n : Int)))), (0, .ref 165)]) (st' := [.int (Int32.ofInt 93), .int (Int32.ofInt (xat n f i)), .int (Int32.ofInt (T 178 D))]) 2 rfl ?_
          refine xr_icmp_ne rfl (by omega) (by omega) (fun z48 => ?_) (fun z48 => ?_)
          · refine xr_steps (pc' := 96) (L' := [(6, .int (Int32.ofInt (xat n f i))), (1, .int (Int32.ofInt ((D + 1 : Nat) : Int))), (2, .int (Int32.ofInt 1)), (3, .int (Int32.ofInt (cnt : Int))), (4, .int (Int32.ofInt (400 + (i : Int)))), (5, .int (Int32.ofInt (400 + (n : Int)))), (0, .ref 165)]) (st' := [.int (Int32.ofInt 123), .int (Int32.ofInt (T 178 D))]) 1 rfl ?_
            refine xr_icmp_eq rfl (by omega) (by omega) (fun z49 => ?_) (fun z49 => ?_)
            · refine xr_iincn (L' := [(1, .int (Int32.ofInt (((D + 1 : Nat) : Int) - 1))), (6, .int (Int32.ofInt (xat n f i))), (2, .int (Int32.ofInt 1)), (3, .int (Int32.ofInt (cnt : Int))), (4, .int (Int32.ofInt (400 + (i : Int)))), (5, .int (Int32.ofInt (400 + (n : Int)))), (0, .ref 165)]) rfl rfl rfl ?_
              rw [show ((D + 1 : Nat) : Int) - 1 = (D : Int) by omega]
              refine xr_steps (pc' := 106) (L' := [(2, .int (Int32.ofInt 1)), (1, .int (Int32.ofInt (D : Int))), (6, .int (Int32.ofInt (xat n f i))), (3, .int (Int32.ofInt (cnt : Int))), (4, .int (Int32.ofInt (400 + (i : Int)))), (5, .int (Int32.ofInt (400 + (n : Int)))), (0, .ref 165)]) (st' := []) 2 rfl ?_
              refine xr_iinc (L' := [(4, .int (Int32.ofInt ((400 + (i : Int)) + 1))), (2, .int (Int32.ofInt 1)), (1, .int (Int32.ofInt (D : Int))), (6, .int (Int32.ofInt (xat n f i))), (3, .int (Int32.ofInt (cnt : Int))), (5, .int (Int32.ofInt (400 + (n : Int)))), (0, .ref 165)]) rfl rfl rfl ?_
              refine xr_steps (pc' := 21) (L' := [(4, .int (Int32.ofInt ((400 + (i : Int)) + 1))), (2, .int (Int32.ofInt 1)), (1, .int (Int32.ofInt (D : Int))), (6, .int (Int32.ofInt (xat n f i))), (3, .int (Int32.ofInt (cnt : Int))), (5, .int (Int32.ofInt (400 + (n : Int)))), (0, .ref 165)]) (st' := []) 2 rfl ?_
              refine xr_loc (L := [(1, .int (Int32.ofInt (D : Int))), (2, .int (Int32.ofInt 1)), (3, .int (Int32.ofInt (cnt : Int))), (4, .int (Int32.ofInt ((400 + (i : Int)) + 1))), (5, .int (Int32.ofInt (400 + (n : Int)))), (0, .ref 165)]) (show [1, 2, 3, 4, 5, 0].Nodup by decide) ⟨rfl, rfl, rfl, rfl, rfl, rfl, trivial⟩ ?_
              rw [show 400 + (i : Int) + 1 = 400 + ((i + 1 : Nat) : Int) by omega]
              first
                | exact hcl (by omega) (by omega)
                | (exfalso; omega)
            · refine xr_steps (pc' := 100) (L' := [(6, .int (Int32.ofInt (xat n f i))), (1, .int (Int32.ofInt ((D + 1 : Nat) : Int))), (2, .int (Int32.ofInt 1)), (3, .int (Int32.ofInt (cnt : Int))), (4, .int (Int32.ofInt (400 + (i : Int)))), (5, .int (Int32.ofInt (400 + (n : Int)))), (0, .ref 165)]) (st' := [.int (Int32.ofInt (-1))]) 1 rfl ?_
              first
                | exact xr_retI2 rfl rfl (hbad (by omega))
                | (exfalso; omega)
          · refine xr_steps (pc' := 96) (L' := [(6, .int (Int32.ofInt (xat n f i))), (1, .int (Int32.ofInt ((D + 1 : Nat) : Int))), (2, .int (Int32.ofInt 1)), (3, .int (Int32.ofInt (cnt : Int))), (4, .int (Int32.ofInt (400 + (i : Int)))), (5, .int (Int32.ofInt (400 + (n : Int)))), (0, .ref 165)]) (st' := [.int (Int32.ofInt 91), .int (Int32.ofInt (T 178 D))]) 2 rfl ?_
            refine xr_icmp_eq rfl (by omega) (by omega) (fun z50 => ?_) (fun z50 => ?_)
            · refine xr_iincn (L' := [(1, .int (Int32.ofInt (((D + 1 : Nat) : Int) - 1))), (6, .int (Int32.ofInt (xat n f i))), (2, .int (Int32.ofInt 1)), (3, .int (Int32.ofInt (cnt : Int))), (4, .int (Int32.ofInt (400 + (i : Int)))), (5, .int (Int32.ofInt (400 + (n : Int)))), (0, .ref 165)]) rfl rfl rfl ?_
              rw [show ((D + 1 : Nat) : Int) - 1 = (D : Int) by omega]
              refine xr_steps (pc' := 106) (L' := [(2, .int (Int32.ofInt 1)), (1, .int (Int32.ofInt (D : Int))), (6, .int (Int32.ofInt (xat n f i))), (3, .int (Int32.ofInt (cnt : Int))), (4, .int (Int32.ofInt (400 + (i : Int)))), (5, .int (Int32.ofInt (400 + (n : Int)))), (0, .ref 165)]) (st' := []) 2 rfl ?_
              refine xr_iinc (L' := [(4, .int (Int32.ofInt ((400 + (i : Int)) + 1))), (2, .int (Int32.ofInt 1)), (1, .int (Int32.ofInt (D : Int))), (6, .int (Int32.ofInt (xat n f i))), (3, .int (Int32.ofInt (cnt : Int))), (5, .int (Int32.ofInt (400 + (n : Int)))), (0, .ref 165)]) rfl rfl rfl ?_
              refine xr_steps (pc' := 21) (L' := [(4, .int (Int32.ofInt ((400 + (i : Int)) + 1))), (2, .int (Int32.ofInt 1)), (1, .int (Int32.ofInt (D : Int))), (6, .int (Int32.ofInt (xat n f i))), (3, .int (Int32.ofInt (cnt : Int))), (5, .int (Int32.ofInt (400 + (n : Int)))), (0, .ref 165)]) (st' := []) 2 rfl ?_
              refine xr_loc (L := [(1, .int (Int32.ofInt (D : Int))), (2, .int (Int32.ofInt 1)), (3, .int (Int32.ofInt (cnt : Int))), (4, .int (Int32.ofInt ((400 + (i : Int)) + 1))), (5, .int (Int32.ofInt (400 + (n : Int)))), (0, .ref 165)]) (show [1, 2, 3, 4, 5, 0].Nodup by decide) ⟨rfl, rfl, rfl, rfl, rfl, rfl, trivial⟩ ?_
              rw [show 400 + (i : Int) + 1 = 400 + ((i + 1 : Nat) : Int) by omega]
              first
                | exact hcl (by omega) (by omega)
                | (exfalso; omega)
            · refine xr_steps (pc' := 100) (L' := [(6, .int (Int32.ofInt (xat n f i))), (1, .int (Int32.ofInt ((D + 1 : Nat) : Int))), (2, .int (Int32.ofInt 1)), (3, .int (Int32.ofInt (cnt : Int))), (4, .int (Int32.ofInt (400 + (i : Int)))), (5, .int (Int32.ofInt (400 + (n : Int)))), (0, .ref 165)]) (st' := [.int (Int32.ofInt (-1))]) 1 rfl ?_
              first
                | exact xr_retI2 rfl rfl (hbad (by omega))
                | (exfalso; omega)
      · exfalso; omega
theorem mo_208t (hA : 194 ≤ A.1) (hx : xtx s T n f) (hcn : cnt ≤ 1000) (hi : i ≤ 1000) (hdone : n ≤ i → Q (.inl (some (.int (Int32.ofInt (cnt : Int))))) (ym A s T)) (hbad : i < n → Q (.inl (some (.int (Int32.ofInt (-1))))) (ym A s T)) : xr_ok (xt_G w) (d + 1 + 1 + 1) 208 21 [(1, .int (Int32.ofInt 0)), (2, .int (Int32.ofInt 1)), (3, .int (Int32.ofInt (cnt : Int))), (4, .int (Int32.ofInt (400 + (i : Int)))), (5, .int (Int32.ofInt (400 + (n : Int)))), (0, .ref 165)] [] (ym A s T) Q := by
  have hn := hx.2.1
  have hye := xtx_ye hx i
  refine xr_steps (pc' := 25) (L' := [(1, .int (Int32.ofInt 0)), (2, .int (Int32.ofInt 1)), (3, .int (Int32.ofInt (cnt : Int))), (4, .int (Int32.ofInt (400 + (i : Int)))), (5, .int (Int32.ofInt (400 + (n : Int)))), (0, .ref 165)]) (st' := [.int (Int32.ofInt (400 + (n : Int))), .int (Int32.ofInt (400 + (i : Int)))]) 2 rfl ?_
  refine xr_icmp_ge rfl (by omega) (by omega) (fun z31 => ?_) (fun z31 => ?_)
  · refine xr_steps (pc' := 350) (L' := [(1, .int (Int32.ofInt 0)), (2, .int (Int32.ofInt 1)), (3, .int (Int32.ofInt (cnt : Int))), (4, .int (Int32.ofInt (400 + (i : Int)))), (5, .int (Int32.ofInt (400 + (n : Int)))), (0, .ref 165)]) (st' := [.int (Int32.ofInt 0)]) 1 rfl ?_
    refine xr_if_ne rfl (by omega) (fun z32 => ?_) (fun z32 => ?_)
    · exfalso; omega
    · refine xr_steps (pc' := 355) (L' := [(1, .int (Int32.ofInt 0)), (2, .int (Int32.ofInt 1)), (3, .int (Int32.ofInt (cnt : Int))), (4, .int (Int32.ofInt (400 + (i : Int)))), (5, .int (Int32.ofInt (400 + (n : Int)))), (0, .ref 165)]) (st' := [.int (Int32.ofInt 1), .int (Int32.ofInt 1)]) 2 rfl ?_
      refine xr_icmp_ne rfl (by omega) (by omega) (fun z33 => ?_) (fun z33 => ?_)
      · exfalso; omega
      · refine xr_steps (pc' := 363) (L' := [(1, .int (Int32.ofInt 0)), (2, .int (Int32.ofInt 1)), (3, .int (Int32.ofInt (cnt : Int))), (4, .int (Int32.ofInt (400 + (i : Int)))), (5, .int (Int32.ofInt (400 + (n : Int)))), (0, .ref 165)]) (st' := [.int (Int32.ofInt (cnt : Int))]) 2 rfl ?_
        first
          | exact xr_retI2 rfl rfl (hdone (by omega))
          | (exfalso; omega)
  · refine xr_steps (pc' := 31) (L' := [(1, .int (Int32.ofInt 0)), (2, .int (Int32.ofInt 1)), (3, .int (Int32.ofInt (cnt : Int))), (4, .int (Int32.ofInt (400 + (i : Int)))), (5, .int (Int32.ofInt (400 + (n : Int)))), (0, .ref 165)]) (st' := [.int (Int32.ofInt (400 + (i : Int))), .ref 165]) 2 rfl ?_
    refine xr_call (q := (.invokevirtual 103, 3, 209, 2)) (av := [.ref 165, .int (Int32.ofInt (400 + (i : Int)))]) (rest := []) rfl rfl (by decide) rfl (ym_rcv hA rfl) (Nat.le_of_ble_eq_true rfl) (mo_209t (i := i) hA hx (by omega) (by omega)) ?_
    rintro _ _ ⟨rfl, eA⟩
    rw [eA]
    clear eA
    have hx34 := xtx_ye hx i
    refine xr_steps (pc' := 40) (L' := [(6, .int (Int32.ofInt (xat n f i))), (1, .int (Int32.ofInt 0)), (2, .int (Int32.ofInt 1)), (3, .int (Int32.ofInt (cnt : Int))), (4, .int (Int32.ofInt (400 + (i : Int)))), (5, .int (Int32.ofInt (400 + (n : Int)))), (0, .ref 165)]) (st' := [.int (Int32.ofInt 93), .int (Int32.ofInt (xat n f i))]) 3 rfl ?_
    refine xr_icmp_ne rfl (by omega) (by omega) (fun z35 => ?_) (fun z35 => ?_)
    · refine xr_steps (pc' := 57) (L' := [(6, .int (Int32.ofInt (xat n f i))), (1, .int (Int32.ofInt 0)), (2, .int (Int32.ofInt 1)), (3, .int (Int32.ofInt (cnt : Int))), (4, .int (Int32.ofInt (400 + (i : Int)))), (5, .int (Int32.ofInt (400 + (n : Int)))), (0, .ref 165)]) (st' := [.int (Int32.ofInt 125), .int (Int32.ofInt (xat n f i))]) 2 rfl ?_
      refine xr_icmp_ne rfl (by omega) (by omega) (fun z36 => ?_) (fun z36 => ?_)
      · refine xr_steps (pc' := 114) (L' := [(6, .int (Int32.ofInt (xat n f i))), (1, .int (Int32.ofInt 0)), (2, .int (Int32.ofInt 1)), (3, .int (Int32.ofInt (cnt : Int))), (4, .int (Int32.ofInt (400 + (i : Int)))), (5, .int (Int32.ofInt (400 + (n : Int)))), (0, .ref 165)]) (st' := [.int (Int32.ofInt 1), .int (Int32.ofInt 1)]) 2 rfl ?_
        refine xr_icmp_ne rfl (by omega) (by omega) (fun z37 => ?_) (fun z37 => ?_)
        · exfalso; omega
        · refine xr_steps (pc' := 121) (L' := [(6, .int (Int32.ofInt (xat n f i))), (1, .int (Int32.ofInt 0)), (2, .int (Int32.ofInt 1)), (3, .int (Int32.ofInt (cnt : Int))), (4, .int (Int32.ofInt (400 + (i : Int)))), (5, .int (Int32.ofInt (400 + (n : Int)))), (0, .ref 165)]) (st' := [.int (Int32.ofInt 44), .int (Int32.ofInt (xat n f i))]) 2 rfl ?_
          refine xr_icmp_ne rfl (by omega) (by omega) (fun z38 => ?_) (fun z38 => ?_)
          · refine xr_steps (pc' := 129) (L' := [(6, .int (Int32.ofInt (xat n f i))), (1, .int (Int32.ofInt 0)), (2, .int (Int32.ofInt 1)), (3, .int (Int32.ofInt (cnt : Int))), (4, .int (Int32.ofInt (400 + (i : Int)))), (5, .int (Int32.ofInt (400 + (n : Int)))), (0, .ref 165)]) (st' := [.int (Int32.ofInt (-1))]) 1 rfl ?_
            first
              | exact xr_retI2 rfl rfl (hbad (by omega))
              | (exfalso; omega)
          · refine xr_steps (pc' := 125) (L' := [(6, .int (Int32.ofInt (xat n f i))), (1, .int (Int32.ofInt 0)), (2, .int (Int32.ofInt 1)), (3, .int (Int32.ofInt (cnt : Int))), (4, .int (Int32.ofInt (400 + (i : Int)))), (5, .int (Int32.ofInt (400 + (n : Int)))), (0, .ref 165)]) (st' := [.int (Int32.ofInt 0)]) 1 rfl ?_
            refine xr_if_ne rfl (by omega) (fun z39 => ?_) (fun z39 => ?_)
            · exfalso; omega
            · refine xr_steps (pc' := 129) (L' := [(6, .int (Int32.ofInt (xat n f i))), (1, .int (Int32.ofInt 0)), (2, .int (Int32.ofInt 1)), (3, .int (Int32.ofInt (cnt : Int))), (4, .int (Int32.ofInt (400 + (i : Int)))), (5, .int (Int32.ofInt (400 + (n : Int)))), (0, .ref 165)]) (st' := [.int (Int32.ofInt (-1))]) 1 rfl ?_
              first
                | exact xr_retI2 rfl rfl (hbad (by omega))
                | (exfalso; omega)
      · refine xr_steps (pc' := 62) (L' := [(6, .int (Int32.ofInt (xat n f i))), (1, .int (Int32.ofInt 0)), (2, .int (Int32.ofInt 1)), (3, .int (Int32.ofInt (cnt : Int))), (4, .int (Int32.ofInt (400 + (i : Int)))), (5, .int (Int32.ofInt (400 + (n : Int)))), (0, .ref 165)]) (st' := [.int (Int32.ofInt 1), .int (Int32.ofInt 1)]) 2 rfl ?_
        refine xr_icmp_eq rfl (by omega) (by omega) (fun z40 => ?_) (fun z40 => ?_)
        · refine xr_steps (pc' := 71) (L' := [(6, .int (Int32.ofInt (xat n f i))), (1, .int (Int32.ofInt 0)), (2, .int (Int32.ofInt 1)), (3, .int (Int32.ofInt (cnt : Int))), (4, .int (Int32.ofInt (400 + (i : Int)))), (5, .int (Int32.ofInt (400 + (n : Int)))), (0, .ref 165)]) (st' := [.int (Int32.ofInt 0)]) 1 rfl ?_
          refine xr_if_eq rfl (by omega) (fun z41 => ?_) (fun z41 => ?_)
          · refine xr_steps (pc' := 100) (L' := [(6, .int (Int32.ofInt (xat n f i))), (1, .int (Int32.ofInt 0)), (2, .int (Int32.ofInt 1)), (3, .int (Int32.ofInt (cnt : Int))), (4, .int (Int32.ofInt (400 + (i : Int)))), (5, .int (Int32.ofInt (400 + (n : Int)))), (0, .ref 165)]) (st' := [.int (Int32.ofInt (-1))]) 1 rfl ?_
            first
              | exact xr_retI2 rfl rfl (hbad (by omega))
              | (exfalso; omega)
          · exfalso; omega
        · exfalso; omega
    · refine xr_steps (pc' := 45) (L' := [(6, .int (Int32.ofInt (xat n f i))), (1, .int (Int32.ofInt 0)), (2, .int (Int32.ofInt 1)), (3, .int (Int32.ofInt (cnt : Int))), (4, .int (Int32.ofInt (400 + (i : Int)))), (5, .int (Int32.ofInt (400 + (n : Int)))), (0, .ref 165)]) (st' := [.int (Int32.ofInt 1), .int (Int32.ofInt 1)]) 2 rfl ?_
      refine xr_icmp_eq rfl (by omega) (by omega) (fun z42 => ?_) (fun z42 => ?_)
      · refine xr_steps (pc' := 71) (L' := [(6, .int (Int32.ofInt (xat n f i))), (1, .int (Int32.ofInt 0)), (2, .int (Int32.ofInt 1)), (3, .int (Int32.ofInt (cnt : Int))), (4, .int (Int32.ofInt (400 + (i : Int)))), (5, .int (Int32.ofInt (400 + (n : Int)))), (0, .ref 165)]) (st' := [.int (Int32.ofInt 0)]) 1 rfl ?_
        refine xr_if_eq rfl (by omega) (fun z43 => ?_) (fun z43 => ?_)
        · refine xr_steps (pc' := 100) (L' := [(6, .int (Int32.ofInt (xat n f i))), (1, .int (Int32.ofInt 0)), (2, .int (Int32.ofInt 1)), (3, .int (Int32.ofInt (cnt : Int))), (4, .int (Int32.ofInt (400 + (i : Int)))), (5, .int (Int32.ofInt (400 + (n : Int)))), (0, .ref 165)]) (st' := [.int (Int32.ofInt (-1))]) 1 rfl ?_
          first
            | exact xr_retI2 rfl rfl (hbad (by omega))
            | (exfalso; omega)
        · exfalso; omega
      · exfalso; omega
theorem mo_208v0 (hA : 194 ≤ A.1) (hx : xtx s T n f) (hcn : cnt ≤ 1000) (hi : i ≤ 1000) (hD : D ≤ 5) (hpq : ∀ (kd : Nat) (ls : List Int) (q : Nat), xpl (ye n f) i = some (kd, ls, q) → q ≤ 100) (hleaf : ∀ (kd : Nat) (ls : List Int) (q : Nat), ¬ ye n f i = 91 → ¬ ye n f i = 123 → xpl (ye n f) i = some (kd, ls, q) → xr_ok (xt_G w) (d + 1 + 1 + 1) 208 21 [(1, .int (Int32.ofInt (D : Int))), (2, .int (Int32.ofInt 1)), (3, .int (Int32.ofInt ((cnt + 1 : Nat) : Int))), (4, .int (Int32.ofInt (400 + (q : Int)))), (5, .int (Int32.ofInt (400 + (n : Int)))), (0, .ref 165)] [] (ym A s T) Q) (hbl : ¬ ye n f i = 91 → ¬ ye n f i = 123 → xpl (ye n f) i = none → Q (.inl (some (.int (Int32.ofInt (-1))))) (ym A s T)) (hbe : n ≤ i → Q (.inl (some (.int (Int32.ofInt (-1))))) (ym A s T)) (hbo : (ye n f i = 91 ∨ ye n f i = 123) → D = 5 → Q (.inl (some (.int (Int32.ofInt (-1))))) (ym A s T)) (hopa : ye n f i = 91 → D < 5 → xr_ok (xt_G w) (d + 1 + 1 + 1) 208 21 [(1, .int (Int32.ofInt ((D + 1 : Nat) : Int))), (2, .int (Int32.ofInt 2)), (3, .int (Int32.ofInt ((cnt + 1 : Nat) : Int))), (4, .int (Int32.ofInt (400 + ((i + 1 : Nat) : Int)))), (5, .int (Int32.ofInt (400 + (n : Int)))), (0, .ref 165)] [] (ym A s (va_up (va_up T 178 (va_up (T 178) D 91)) 179 (va_up ((va_up T 178 (va_up (T 178) D 91)) 179) D 0))) Q) (hopo : ye n f i = 123 → D < 5 → xr_ok (xt_G w) (d + 1 + 1 + 1) 208 21 [(1, .int (Int32.ofInt ((D + 1 : Nat) : Int))), (2, .int (Int32.ofInt 3)), (3, .int (Int32.ofInt ((cnt + 1 : Nat) : Int))), (4, .int (Int32.ofInt (400 + ((i + 1 : Nat) : Int)))), (5, .int (Int32.ofInt (400 + (n : Int)))), (0, .ref 165)] [] (ym A s (va_up (va_up T 178 (va_up (T 178) D 123)) 179 (va_up ((va_up T 178 (va_up (T 178) D 123)) 179) D 0))) Q) : xr_ok (xt_G w) (d + 1 + 1 + 1) 208 21 [(1, .int (Int32.ofInt (D : Int))), (2, .int (Int32.ofInt 0)), (3, .int (Int32.ofInt (cnt : Int))), (4, .int (Int32.ofInt (400 + (i : Int)))), (5, .int (Int32.ofInt (400 + (n : Int)))), (0, .ref 165)] [] (ym A s T) Q := by
  have hn := hx.2.1
  have hye := xtx_ye hx i
  refine xr_steps (pc' := 25) (L' := [(1, .int (Int32.ofInt (D : Int))), (2, .int (Int32.ofInt 0)), (3, .int (Int32.ofInt (cnt : Int))), (4, .int (Int32.ofInt (400 + (i : Int)))), (5, .int (Int32.ofInt (400 + (n : Int)))), (0, .ref 165)]) (st' := [.int (Int32.ofInt (400 + (n : Int))), .int (Int32.ofInt (400 + (i : Int)))]) 2 rfl ?_
  refine xr_icmp_ge rfl (by omega) (by omega) (fun z31 => ?_) (fun z31 => ?_)
  · refine xr_steps (pc' := 350) (L' := [(1, .int (Int32.ofInt (D : Int))), (2, .int (Int32.ofInt 0)), (3, .int (Int32.ofInt (cnt : Int))), (4, .int (Int32.ofInt (400 + (i : Int)))), (5, .int (Int32.ofInt (400 + (n : Int)))), (0, .ref 165)]) (st' := [.int (Int32.ofInt (D : Int))]) 1 rfl ?_
    refine xr_if_ne rfl (by omega) (fun z32 => ?_) (fun z32 => ?_)
    · refine xr_steps (pc' := 363) (L' := [(1, .int (Int32.ofInt (D : Int))), (2, .int (Int32.ofInt 0)), (3, .int (Int32.ofInt (cnt : Int))), (4, .int (Int32.ofInt (400 + (i : Int)))), (5, .int (Int32.ofInt (400 + (n : Int)))), (0, .ref 165)]) (st' := [.int (Int32.ofInt (-1))]) 1 rfl ?_
      first
        | exact xr_retI2 rfl rfl (hbe (by omega))
        | exact xr_retI2 rfl rfl (hbo (by omega) (by omega))
        | (exfalso; omega)
    · refine xr_steps (pc' := 355) (L' := [(1, .int (Int32.ofInt (D : Int))), (2, .int (Int32.ofInt 0)), (3, .int (Int32.ofInt (cnt : Int))), (4, .int (Int32.ofInt (400 + (i : Int)))), (5, .int (Int32.ofInt (400 + (n : Int)))), (0, .ref 165)]) (st' := [.int (Int32.ofInt 1), .int (Int32.ofInt 0)]) 2 rfl ?_
      refine xr_icmp_ne rfl (by omega) (by omega) (fun z33 => ?_) (fun z33 => ?_)
      · refine xr_steps (pc' := 363) (L' := [(1, .int (Int32.ofInt (D : Int))), (2, .int (Int32.ofInt 0)), (3, .int (Int32.ofInt (cnt : Int))), (4, .int (Int32.ofInt (400 + (i : Int)))), (5, .int (Int32.ofInt (400 + (n : Int)))), (0, .ref 165)]) (st' := [.int (Int32.ofInt (-1))]) 1 rfl ?_
        first
          | exact xr_retI2 rfl rfl (hbe (by omega))
          | exact xr_retI2 rfl rfl (hbo (by omega) (by omega))
          | (exfalso; omega)
      · exfalso; omega
  · refine xr_steps (pc' := 31) (L' := [(1, .int (Int32.ofInt (D : Int))), (2, .int (Int32.ofInt 0)), (3, .int (Int32.ofInt (cnt : Int))), (4, .int (Int32.ofInt (400 + (i : Int)))), (5, .int (Int32.ofInt (400 + (n : Int)))), (0, .ref 165)]) (st' := [.int (Int32.ofInt (400 + (i : Int))), .ref 165]) 2 rfl ?_
    refine xr_call (q := (.invokevirtual 103, 3, 209, 2)) (av := [.ref 165, .int (Int32.ofInt (400 + (i : Int)))]) (rest := []) rfl rfl (by decide) rfl (ym_rcv hA rfl) (Nat.le_of_ble_eq_true rfl) (mo_209t (i := i) hA hx (by omega) (by omega)) ?_
    rintro _ _ ⟨rfl, eA⟩
    rw [eA]
    clear eA
    have hx34 := xtx_ye hx i
    refine xr_steps (pc' := 40) (L' := [(6, .int (Int32.ofInt (xat n f i))), (1, .int (Int32.ofInt (D : Int))), (2, .int (Int32.ofInt 0)), (3, .int (Int32.ofInt (cnt : Int))), (4, .int (Int32.ofInt (400 + (i : Int)))), (5, .int (Int32.ofInt (400 + (n : Int)))), (0, .ref 165)]) (st' := [.int (Int32.ofInt 93), .int (Int32.ofInt (xat n f i))]) 3 rfl ?_
    refine xr_icmp_ne rfl (by omega) (by omega) (fun z35 => ?_) (fun z35 => ?_)
    · refine xr_steps (pc' := 57) (L' := [(6, .int (Int32.ofInt (xat n f i))), (1, .int (Int32.ofInt (D : Int))), (2, .int (Int32.ofInt 0)), (3, .int (Int32.ofInt (cnt : Int))), (4, .int (Int32.ofInt (400 + (i : Int)))), (5, .int (Int32.ofInt (400 + (n : Int)))), (0, .ref 165)]) (st' := [.int (Int32.ofInt 125), .int (Int32.ofInt (xat n f i))]) 2 rfl ?_
      refine xr_icmp_ne rfl (by omega) (by omega) (fun z36 => ?_) (fun z36 => ?_)
      · refine xr_steps (pc' := 114) (L' := [(6, .int (Int32.ofInt (xat n f i))), (1, .int (Int32.ofInt (D : Int))), (2, .int (Int32.ofInt 0)), (3, .int (Int32.ofInt (cnt : Int))), (4, .int (Int32.ofInt (400 + (i : Int)))), (5, .int (Int32.ofInt (400 + (n : Int)))), (0, .ref 165)]) (st' := [.int (Int32.ofInt 1), .int (Int32.ofInt 0)]) 2 rfl ?_
        refine xr_icmp_ne rfl (by omega) (by omega) (fun z37 => ?_) (fun z37 => ?_)
        · refine xr_steps (pc' := 157) (L' := [(6, .int (Int32.ofInt (xat n f i))), (1, .int (Int32.ofInt (D : Int))), (2, .int (Int32.ofInt 0)), (3, .int (Int32.ofInt (cnt : Int))), (4, .int (Int32.ofInt (400 + (i : Int)))), (5, .int (Int32.ofInt (400 + (n : Int)))), (0, .ref 165)]) (st' := [.int (Int32.ofInt 2), .int (Int32.ofInt 0)]) 2 rfl ?_
          refine xr_icmp_le rfl (by omega) (by omega) (fun z38 => ?_) (fun z38 => ?_)
          · refine xr_steps (pc' := 269) (L' := [(6, .int (Int32.ofInt (xat n f i))), (1, .int (Int32.ofInt (D : Int))), (2, .int (Int32.ofInt 0)), (3, .int (Int32.ofInt (cnt : Int))), (4, .int (Int32.ofInt (400 + (i : Int)))), (5, .int (Int32.ofInt (400 + (n : Int)))), (0, .ref 165)]) (st' := [.int (Int32.ofInt 91), .int (Int32.ofInt (xat n f i))]) 2 rfl ?_
            refine xr_icmp_eq rfl (by omega) (by omega) (fun z39 => ?_) (fun z39 => ?_)
            · refine xr_steps (pc' := 281) (L' := [(6, .int (Int32.ofInt (xat n f i))), (1, .int (Int32.ofInt (D : Int))), (2, .int (Int32.ofInt 0)), (3, .int (Int32.ofInt (cnt : Int))), (4, .int (Int32.ofInt (400 + (i : Int)))), (5, .int (Int32.ofInt (400 + (n : Int)))), (0, .ref 165)]) (st' := [.int (Int32.ofInt 5), .int (Int32.ofInt (D : Int))]) 2 rfl ?_
              refine xr_icmp_ne rfl (by omega) (by omega) (fun z40 => ?_) (fun z40 => ?_)
              · refine xr_steps (pc' := 287) (L' := [(6, .int (Int32.ofInt (xat n f i))), (1, .int (Int32.ofInt (D : Int))), (2, .int (Int32.ofInt 0)), (3, .int (Int32.ofInt (cnt : Int))), (4, .int (Int32.ofInt (400 + (i : Int)))), (5, .int (Int32.ofInt (400 + (n : Int)))), (0, .ref 165)]) (st' := [.ref 165]) 1 rfl ?_
                refine xr_getf (v := .ref 178) rfl (ym_165 hA) rfl ?_
                refine xr_steps (pc' := 293) (L' := [(6, .int (Int32.ofInt (xat n f i))), (1, .int (Int32.ofInt (D : Int))), (2, .int (Int32.ofInt 0)), (3, .int (Int32.ofInt (cnt : Int))), (4, .int (Int32.ofInt (400 + (i : Int)))), (5, .int (Int32.ofInt (400 + (n : Int)))), (0, .ref 165)]) (st' := [.int (Int32.ofInt (xat n f i)), .int (Int32.ofInt (D : Int)), .ref 178]) 2 rfl ?_
                refine ym_castore hA rfl rfl (by decide) (by omega) (by omega) (by omega) ?_
                rw [show (D : Int).toNat = D by omega]
                refine xr_steps (pc' := 295) (L' := [(6, .int (Int32.ofInt (xat n f i))), (1, .int (Int32.ofInt (D : Int))), (2, .int (Int32.ofInt 0)), (3, .int (Int32.ofInt (cnt : Int))), (4, .int (Int32.ofInt (400 + (i : Int)))), (5, .int (Int32.ofInt (400 + (n : Int)))), (0, .ref 165)]) (st' := [.ref 165]) 1 rfl ?_
                refine xr_getf (v := .ref 179) rfl (ym_165 hA) rfl ?_
                refine xr_steps (pc' := 300) (L' := [(6, .int (Int32.ofInt (xat n f i))), (1, .int (Int32.ofInt (D : Int))), (2, .int (Int32.ofInt 0)), (3, .int (Int32.ofInt (cnt : Int))), (4, .int (Int32.ofInt (400 + (i : Int)))), (5, .int (Int32.ofInt (400 + (n : Int)))), (0, .ref 165)]) (st' := [.int (Int32.ofInt 0), .int (Int32.ofInt (D : Int)), .ref 179]) 2 rfl ?_
                refine ym_iastore hA rfl rfl (by decide) (by omega) (by omega) ?_
                rw [show (D : Int).toNat = D by omega]
                refine xr_iinc (L' := [(1, .int (Int32.ofInt ((D : Int) + 1))), (6, .int (Int32.ofInt (xat n f i))), (2, .int (Int32.ofInt 0)), (3, .int (Int32.ofInt (cnt : Int))), (4, .int (Int32.ofInt (400 + (i : Int)))), (5, .int (Int32.ofInt (400 + (n : Int)))), (0, .ref 165)]) rfl rfl rfl ?_
                refine xr_iinc (L' := [(3, .int (Int32.ofInt ((cnt : Int) + 1))), (1, .int (Int32.ofInt ((D : Int) + 1))), (6, .int (Int32.ofInt (xat n f i))), (2, .int (Int32.ofInt 0)), (4, .int (Int32.ofInt (400 + (i : Int)))), (5, .int (Int32.ofInt (400 + (n : Int)))), (0, .ref 165)]) rfl rfl rfl ?_
                refine xr_steps (pc' := 311) (L' := [(3, .int (Int32.ofInt ((cnt : Int) + 1))), (1, .int (Int32.ofInt ((D : Int) + 1))), (6, .int (Int32.ofInt (xat n f i))), (2, .int (Int32.ofInt 0)), (4, .int (Int32.ofInt (400 + (i : Int)))), (5, .int (Int32.ofInt (400 + (n : Int)))), (0, .ref 165)]) (st' := [.int (Int32.ofInt 91), .int (Int32.ofInt (xat n f i))]) 2 rfl ?_
                refine xr_icmp_ne rfl (by omega) (by omega) (fun z41 => ?_) (fun z41 => ?_)
                · refine xr_steps (pc' := 320) (L' := [(2, .int (Int32.ofInt 3)), (3, .int (Int32.ofInt ((cnt : Int) + 1))), (1, .int (Int32.ofInt ((D : Int) + 1))), (6, .int (Int32.ofInt (xat n f i))), (4, .int (Int32.ofInt (400 + (i : Int)))), (5, .int (Int32.ofInt (400 + (n : Int)))), (0, .ref 165)]) (st' := []) 2 rfl ?_
                  refine xr_iinc (L' := [(4, .int (Int32.ofInt ((400 + (i : Int)) + 1))), (2, .int (Int32.ofInt 3)), (3, .int (Int32.ofInt ((cnt : Int) + 1))), (1, .int (Int32.ofInt ((D : Int) + 1))), (6, .int (Int32.ofInt (xat n f i))), (5, .int (Int32.ofInt (400 + (n : Int)))), (0, .ref 165)]) rfl rfl rfl ?_
                  refine xr_steps (pc' := 21) (L' := [(4, .int (Int32.ofInt ((400 + (i : Int)) + 1))), (2, .int (Int32.ofInt 3)), (3, .int (Int32.ofInt ((cnt : Int) + 1))), (1, .int (Int32.ofInt ((D : Int) + 1))), (6, .int (Int32.ofInt (xat n f i))), (5, .int (Int32.ofInt (400 + (n : Int)))), (0, .ref 165)]) (st' := []) 2 rfl ?_
                  refine xr_loc (L := [(1, .int (Int32.ofInt ((D : Int) + 1))), (2, .int (Int32.ofInt 3)), (3, .int (Int32.ofInt ((cnt : Int) + 1))), (4, .int (Int32.ofInt ((400 + (i : Int)) + 1))), (5, .int (Int32.ofInt (400 + (n : Int)))), (0, .ref 165)]) (show [1, 2, 3, 4, 5, 0].Nodup by decide) ⟨rfl, rfl, rfl, rfl, rfl, rfl, trivial⟩ ?_
                  rw [show 400 + (i : Int) + 1 = 400 + ((i + 1 : Nat) : Int) by omega]
                  have hv : xat n f i = 123 := by omega
                  rw [show (D : Int) + 1 = ((D + 1 : Nat) : Int) by omega, show (cnt : Int) + 1 = ((cnt + 1 : Nat) : Int) by omega, hv]
                  exact hopo (by omega) (by omega)
                · refine xr_steps (pc' := 320) (L' := [(2, .int (Int32.ofInt 2)), (3, .int (Int32.ofInt ((cnt : Int) + 1))), (1, .int (Int32.ofInt ((D : Int) + 1))), (6, .int (Int32.ofInt (xat n f i))), (4, .int (Int32.ofInt (400 + (i : Int)))), (5, .int (Int32.ofInt (400 + (n : Int)))), (0, .ref 165)]) (st' := []) 3 rfl ?_
                  refine xr_iinc (L' := [(4, .int (Int32.ofInt ((400 + (i : Int)) + 1))), (2, .int (Int32.ofInt 2)), (3, .int (Int32.ofInt ((cnt : Int) + 1))), (1, .int (Int32.ofInt ((D : Int) + 1))), (6, .int (Int32.ofInt (xat n f i))), (5, .int (Int32.ofInt (400 + (n : Int)))), (0, .ref 165)]) rfl rfl rfl ?_
                  refine xr_steps (pc' := 21) (L' := [(4, .int (Int32.ofInt ((400 + (i : Int)) + 1))), (2, .int (Int32.ofInt 2)), (3, .int (Int32.ofInt ((cnt : Int) + 1))), (1, .int (Int32.ofInt ((D : Int) + 1))), (6, .int (Int32.ofInt (xat n f i))), (5, .int (Int32.ofInt (400 + (n : Int)))), (0, .ref 165)]) (st' := []) 2 rfl ?_
                  refine xr_loc (L := [(1, .int (Int32.ofInt ((D : Int) + 1))), (2, .int (Int32.ofInt 2)), (3, .int (Int32.ofInt ((cnt : Int) + 1))), (4, .int (Int32.ofInt ((400 + (i : Int)) + 1))), (5, .int (Int32.ofInt (400 + (n : Int)))), (0, .ref 165)]) (show [1, 2, 3, 4, 5, 0].Nodup by decide) ⟨rfl, rfl, rfl, rfl, rfl, rfl, trivial⟩ ?_
                  rw [show 400 + (i : Int) + 1 = 400 + ((i + 1 : Nat) : Int) by omega]
                  have hv : xat n f i = 91 := by omega
                  rw [show (D : Int) + 1 = ((D + 1 : Nat) : Int) by omega, show (cnt : Int) + 1 = ((cnt + 1 : Nat) : Int) by omega, hv]
                  exact hopa (by omega) (by omega)
              · refine xr_steps (pc' := 285) (L' := [(6, .int (Int32.ofInt (xat n f i))), (1, .int (Int32.ofInt (D : Int))), (2, .int (Int32.ofInt 0)), (3, .int (Int32.ofInt (cnt : Int))), (4, .int (Int32.ofInt (400 + (i : Int)))), (5, .int (Int32.ofInt (400 + (n : Int)))), (0, .ref 165)]) (st' := [.int (Int32.ofInt (-1))]) 1 rfl ?_
                first
                  | exact xr_retI2 rfl rfl (hbe (by omega))
                  | exact xr_retI2 rfl rfl (hbo (by omega) (by omega))
                  | (exfalso; omega)
            · refine xr_steps (pc' := 276) (L' := [(6, .int (Int32.ofInt (xat n f i))), (1, .int (Int32.ofInt (D : Int))), (2, .int (Int32.ofInt 0)), (3, .int (Int32.ofInt (cnt : Int))), (4, .int (Int32.ofInt (400 + (i : Int)))), (5, .int (Int32.ofInt (400 + (n : Int)))), (0, .ref 165)]) (st' := [.int (Int32.ofInt 123), .int (Int32.ofInt (xat n f i))]) 2 rfl ?_
              refine xr_icmp_ne rfl (by omega) (by omega) (fun z42 => ?_) (fun z42 => ?_)
              · refine xr_steps (pc' := 329) (L' := [(6, .int (Int32.ofInt (xat n f i))), (1, .int (Int32.ofInt (D : Int))), (2, .int (Int32.ofInt 0)), (3, .int (Int32.ofInt (cnt : Int))), (4, .int (Int32.ofInt (400 + (i : Int)))), (5, .int (Int32.ofInt (400 + (n : Int)))), (0, .ref 165)]) (st' := [.int (Int32.ofInt (400 + (i : Int))), .ref 165]) 2 rfl ?_
                refine xr_call (q := (.invokevirtual 118, 3, 211, 2)) (av := [.ref 165, .int (Int32.ofInt (400 + (i : Int)))]) (rest := []) rfl rfl (by decide) rfl (ym_rcv hA rfl) (Nat.le_of_ble_eq_true rfl) (mo_211 hA hx (by omega)) ?_
                rintro _ _ ⟨r, ⟨rfl, eA⟩, hr⟩
                rw [eA]
                clear eA
                have hr32 : -1 ≤ r ∧ r ≤ 4000 := by
                  rcases hr with ⟨kd, ls, q, h1, h2⟩ | ⟨-, h2⟩
                  · have h3 := hpq kd ls q h1
                    omega
                  · omega
                refine xr_steps (pc' := 336) (L' := [(4, .int (Int32.ofInt r)), (6, .int (Int32.ofInt (xat n f i))), (1, .int (Int32.ofInt (D : Int))), (2, .int (Int32.ofInt 0)), (3, .int (Int32.ofInt (cnt : Int))), (5, .int (Int32.ofInt (400 + (n : Int)))), (0, .ref 165)]) (st' := [.int (Int32.ofInt r)]) 2 rfl ?_
                refine xr_if_ge rfl (by omega) (fun z43 => ?_) (fun z43 => ?_)
                · refine xr_iinc (L' := [(3, .int (Int32.ofInt ((cnt : Int) + 1))), (4, .int (Int32.ofInt r)), (6, .int (Int32.ofInt (xat n f i))), (1, .int (Int32.ofInt (D : Int))), (2, .int (Int32.ofInt 0)), (5, .int (Int32.ofInt (400 + (n : Int)))), (0, .ref 165)]) rfl rfl rfl ?_
                  refine xr_steps (pc' := 21) (L' := [(2, .int (Int32.ofInt 1)), (3, .int (Int32.ofInt ((cnt : Int) + 1))), (4, .int (Int32.ofInt r)), (6, .int (Int32.ofInt (xat n f i))), (1, .int (Int32.ofInt (D : Int))), (5, .int (Int32.ofInt (400 + (n : Int)))), (0, .ref 165)]) (st' := []) 3 rfl ?_
                  refine xr_loc (L := [(1, .int (Int32.ofInt (D : Int))), (2, .int (Int32.ofInt 1)), (3, .int (Int32.ofInt ((cnt : Int) + 1))), (4, .int (Int32.ofInt r)), (5, .int (Int32.ofInt (400 + (n : Int)))), (0, .ref 165)]) (show [1, 2, 3, 4, 5, 0].Nodup by decide) ⟨rfl, rfl, rfl, rfl, rfl, rfl, trivial⟩ ?_
                  obtain ⟨kd, ls, q, h1, h2⟩ : ∃ (kd : Nat) (ls : List Int) (q : Nat), xpl (ye n f) i = some (kd, ls, q) ∧ r = 400 + (q : Int) := by
                    rcases hr with h | ⟨-, h⟩
                    · exact h
                    · omega
                  rw [h2, show (cnt : Int) + 1 = ((cnt + 1 : Nat) : Int) by omega]
                  exact hleaf kd ls q (by omega) (by omega) h1
                · refine xr_steps (pc' := 340) (L' := [(4, .int (Int32.ofInt r)), (6, .int (Int32.ofInt (xat n f i))), (1, .int (Int32.ofInt (D : Int))), (2, .int (Int32.ofInt 0)), (3, .int (Int32.ofInt (cnt : Int))), (5, .int (Int32.ofInt (400 + (n : Int)))), (0, .ref 165)]) (st' := [.int (Int32.ofInt (-1))]) 1 rfl ?_
                  refine xr_retI2 rfl rfl (hbl (by omega) (by omega) ?_)
                  rcases hr with ⟨kd, ls, q, h1, h2⟩ | ⟨h1, -⟩
                  · omega
                  · exact h1
              · refine xr_steps (pc' := 281) (L' := [(6, .int (Int32.ofInt (xat n f i))), (1, .int (Int32.ofInt (D : Int))), (2, .int (Int32.ofInt 0)), (3, .int (Int32.ofInt (cnt : Int))), (4, .int (Int32.ofInt (400 + (i : Int)))), (5, .int (Int32.ofInt (400 + (n : Int)))), (0, .ref 165)]) (st' := [.int (Int32.ofInt 5), .int (Int32.ofInt (D : Int))]) 2 rfl ?_
                refine xr_icmp_ne rfl (by omega) (by omega) (fun z44 => ?_) (fun z44 => ?_)
                · refine xr_steps (pc' := 287) (L' := [(6, .int (Int32.ofInt (xat n f i))), (1, .int (Int32.ofInt (D : Int))), (2, .int (Int32.ofInt 0)), (3, .int (Int32.ofInt (cnt : Int))), (4, .int (Int32.ofInt (400 + (i : Int)))), (5, .int (Int32.ofInt (400 + (n : Int)))), (0, .ref 165)]) (st' := [.ref 165]) 1 rfl ?_
                  refine xr_getf (v := .ref 178) rfl (ym_165 hA) rfl ?_
                  refine xr_steps (pc' := 293) (L' := [(6, .int (Int32.ofInt (xat n f i))), (1, .int (Int32.ofInt (D : Int))), (2, .int (Int32.ofInt 0)), (3, .int (Int32.ofInt (cnt : Int))), (4, .int (Int32.ofInt (400 + (i : Int)))), (5, .int (Int32.ofInt (400 + (n : Int)))), (0, .ref 165)]) (st' := [.int (Int32.ofInt (xat n f i)), .int (Int32.ofInt (D : Int)), .ref 178]) 2 rfl ?_
                  refine ym_castore hA rfl rfl (by decide) (by omega) (by omega) (by omega) ?_
                  rw [show (D : Int).toNat = D by omega]
                  refine xr_steps (pc' := 295) (L' := [(6, .int (Int32.ofInt (xat n f i))), (1, .int (Int32.ofInt (D : Int))), (2, .int (Int32.ofInt 0)), (3, .int (Int32.ofInt (cnt : Int))), (4, .int (Int32.ofInt (400 + (i : Int)))), (5, .int (Int32.ofInt (400 + (n : Int)))), (0, .ref 165)]) (st' := [.ref 165]) 1 rfl ?_
                  refine xr_getf (v := .ref 179) rfl (ym_165 hA) rfl ?_
                  refine xr_steps (pc' := 300) (L' := [(6, .int (Int32.ofInt (xat n f i))), (1, .int (Int32.ofInt (D : Int))), (2, .int (Int32.ofInt 0)), (3, .int (Int32.ofInt (cnt : Int))), (4, .int (Int32.ofInt (400 + (i : Int)))), (5, .int (Int32.ofInt (400 + (n : Int)))), (0, .ref 165)]) (st' := [.int (Int32.ofInt 0), .int (Int32.ofInt (D : Int)), .ref 179]) 2 rfl ?_
                  refine ym_iastore hA rfl rfl (by decide) (by omega) (by omega) ?_
                  rw [show (D : Int).toNat = D by omega]
                  refine xr_iinc (L' := [(1, .int (Int32.ofInt ((D : Int) + 1))), (6, .int (Int32.ofInt (xat n f i))), (2, .int (Int32.ofInt 0)), (3, .int (Int32.ofInt (cnt : Int))), (4, .int (Int32.ofInt (400 + (i : Int)))), (5, .int (Int32.ofInt (400 + (n : Int)))), (0, .ref 165)]) rfl rfl rfl ?_
                  refine xr_iinc (L' := [(3, .int (Int32.ofInt ((cnt : Int) + 1))), (1, .int (Int32.ofInt ((D : Int) + 1))), (6, .int (Int32.ofInt (xat n f i))), (2, .int (Int32.ofInt 0)), (4, .int (Int32.ofInt (400 + (i : Int)))), (5, .int (Int32.ofInt (400 + (n : Int)))), (0, .ref 165)]) rfl rfl rfl ?_
                  refine xr_steps (pc' := 311) (L' := [(3, .int (Int32.ofInt ((cnt : Int) + 1))), (1, .int (Int32.ofInt ((D : Int) + 1))), (6, .int (Int32.ofInt (xat n f i))), (2, .int (Int32.ofInt 0)), (4, .int (Int32.ofInt (400 + (i : Int)))), (5, .int (Int32.ofInt (400 + (n : Int)))), (0, .ref 165)]) (st' := [.int (Int32.ofInt 91), .int (Int32.ofInt (xat n f i))]) 2 rfl ?_
                  refine xr_icmp_ne rfl (by omega) (by omega) (fun z45 => ?_) (fun z45 => ?_)
                  · refine xr_steps (pc' := 320) (L' := [(2, .int (Int32.ofInt 3)), (3, .int (Int32.ofInt ((cnt : Int) + 1))), (1, .int (Int32.ofInt ((D : Int) + 1))), (6, .int (Int32.ofInt (xat n f i))), (4, .int (Int32.ofInt (400 + (i : Int)))), (5, .int (Int32.ofInt (400 + (n : Int)))), (0, .ref 165)]) (st' := []) 2 rfl ?_
                    refine xr_iinc (L' := [(4, .int (Int32.ofInt ((400 + (i : Int)) + 1))), (2, .int (Int32.ofInt 3)), (3, .int (Int32.ofInt ((cnt : Int) + 1))), (1, .int (Int32.ofInt ((D : Int) + 1))), (6, .int (Int32.ofInt (xat n f i))), (5, .int (Int32.ofInt (400 + (n : Int)))), (0, .ref 165)]) rfl rfl rfl ?_
                    refine xr_steps (pc' := 21) (L' := [(4, .int (Int32.ofInt ((400 + (i : Int)) + 1))), (2, .int (Int32.ofInt 3)), (3, .int (Int32.ofInt ((cnt : Int) + 1))), (1, .int (Int32.ofInt ((D : Int) + 1))), (6, .int (Int32.ofInt (xat n f i))), (5, .int (Int32.ofInt (400 + (n : Int)))), (0, .ref 165)]) (st' := []) 2 rfl ?_
                    refine xr_loc (L := [(1, .int (Int32.ofInt ((D : Int) + 1))), (2, .int (Int32.ofInt 3)), (3, .int (Int32.ofInt ((cnt : Int) + 1))), (4, .int (Int32.ofInt ((400 + (i : Int)) + 1))), (5, .int (Int32.ofInt (400 + (n : Int)))), (0, .ref 165)]) (show [1, 2, 3, 4, 5, 0].Nodup by decide) ⟨rfl, rfl, rfl, rfl, rfl, rfl, trivial⟩ ?_
                    rw [show 400 + (i : Int) + 1 = 400 + ((i + 1 : Nat) : Int) by omega]
                    have hv : xat n f i = 123 := by omega
                    rw [show (D : Int) + 1 = ((D + 1 : Nat) : Int) by omega, show (cnt : Int) + 1 = ((cnt + 1 : Nat) : Int) by omega, hv]
                    exact hopo (by omega) (by omega)
                  · refine xr_steps (pc' := 320) (L' := [(2, .int (Int32.ofInt 2)), (3, .int (Int32.ofInt ((cnt : Int) + 1))), (1, .int (Int32.ofInt ((D : Int) + 1))), (6, .int (Int32.ofInt (xat n f i))), (4, .int (Int32.ofInt (400 + (i : Int)))), (5, .int (Int32.ofInt (400 + (n : Int)))), (0, .ref 165)]) (st' := []) 3 rfl ?_
                    refine xr_iinc (L' := [(4, .int (Int32.ofInt ((400 + (i : Int)) + 1))), (2, .int (Int32.ofInt 2)), (3, .int (Int32.ofInt ((cnt : Int) + 1))), (1, .int (Int32.ofInt ((D : Int) + 1))), (6, .int (Int32.ofInt (xat n f i))), (5, .int (Int32.ofInt (400 + (n : Int)))), (0, .ref 165)]) rfl rfl rfl ?_
                    refine xr_steps (pc' := 21) (L' := [(4, .int (Int32.ofInt ((400 + (i : Int)) + 1))), (2, .int (Int32.ofInt 2)), (3, .int (Int32.ofInt ((cnt : Int) + 1))), (1, .int (Int32.ofInt ((D : Int) + 1))), (6, .int (Int32.ofInt (xat n f i))), (5, .int (Int32.ofInt (400 + (n : Int)))), (0, .ref 165)]) (st' := []) 2 rfl ?_
                    refine xr_loc (L := [(1, .int (Int32.ofInt ((D : Int) + 1))), (2, .int (Int32.ofInt 2)), (3, .int (Int32.ofInt ((cnt : Int) + 1))), (4, .int (Int32.ofInt ((400 + (i : Int)) + 1))), (5, .int (Int32.ofInt (400 + (n : Int)))), (0, .ref 165)]) (show [1, 2, 3, 4, 5, 0].Nodup by decide) ⟨rfl, rfl, rfl, rfl, rfl, rfl, trivial⟩ ?_
                    rw [show 400 + (i : Int) + 1 = 400 + ((i + 1 : Nat) : Int) by omega]
                    have hv : xat n f i = 91 := by omega
                    rw [show (D : Int) + 1 = ((D + 1 : Nat) : Int) by omega, show (cnt : Int) + 1 = ((cnt + 1 : Nat) : Int) by omega, hv]
                    exact hopa (by omega) (by omega)
                · refine xr_steps (pc' := 285) (L' := [(6, .int (Int32.ofInt (xat n f i))), (1, .int (Int32.ofInt (D : Int))), (2, .int (Int32.ofInt 0)), (3, .int (Int32.ofInt (cnt : Int))), (4, .int (Int32.ofInt (400 + (i : Int)))), (5, .int (Int32.ofInt (400 + (n : Int)))), (0, .ref 165)]) (st' := [.int (Int32.ofInt (-1))]) 1 rfl ?_
                  first
                    | exact xr_retI2 rfl rfl (hbe (by omega))
                    | exact xr_retI2 rfl rfl (hbo (by omega) (by omega))
                    | (exfalso; omega)
          · exfalso; omega
        · exfalso; omega
      · refine xr_steps (pc' := 62) (L' := [(6, .int (Int32.ofInt (xat n f i))), (1, .int (Int32.ofInt (D : Int))), (2, .int (Int32.ofInt 0)), (3, .int (Int32.ofInt (cnt : Int))), (4, .int (Int32.ofInt (400 + (i : Int)))), (5, .int (Int32.ofInt (400 + (n : Int)))), (0, .ref 165)]) (st' := [.int (Int32.ofInt 1), .int (Int32.ofInt 0)]) 2 rfl ?_
        refine xr_icmp_eq rfl (by omega) (by omega) (fun z46 => ?_) (fun z46 => ?_)
        · exfalso; omega
        · refine xr_steps (pc' := 67) (L' := [(6, .int (Int32.ofInt (xat n f i))), (1, .int (Int32.ofInt (D : Int))), (2, .int (Int32.ofInt 0)), (3, .int (Int32.ofInt (cnt : Int))), (4, .int (Int32.ofInt (400 + (i : Int)))), (5, .int (Int32.ofInt (400 + (n : Int)))), (0, .ref 165)]) (st' := [.int (Int32.ofInt 3), .int (Int32.ofInt 0)]) 2 rfl ?_
          refine xr_icmp_ne rfl (by omega) (by omega) (fun z47 => ?_) (fun z47 => ?_)
          · refine xr_steps (pc' := 114) (L' := [(6, .int (Int32.ofInt (xat n f i))), (1, .int (Int32.ofInt (D : Int))), (2, .int (Int32.ofInt 0)), (3, .int (Int32.ofInt (cnt : Int))), (4, .int (Int32.ofInt (400 + (i : Int)))), (5, .int (Int32.ofInt (400 + (n : Int)))), (0, .ref 165)]) (st' := [.int (Int32.ofInt 1), .int (Int32.ofInt 0)]) 2 rfl ?_
            refine xr_icmp_ne rfl (by omega) (by omega) (fun z48 => ?_) (fun z48 => ?_)
            · refine xr_steps (pc' := 157) (L' := [(6, .int (Int32.ofInt (xat n f i))), (1, .int (Int32.ofInt (D : Int))), (2, .int (Int32.ofInt 0)), (3, .int (Int32.ofInt (cnt : Int))), (4, .int (Int32.ofInt (400 + (i : Int)))), (5, .int (Int32.ofInt (400 + (n : Int)))), (0, .ref 165)]) (st' := [.int (Int32.ofInt 2), .int (Int32.ofInt 0)]) 2 rfl ?_
              refine xr_icmp_le rfl (by omega) (by omega) (fun z49 => ?_) (fun z49 => ?_)
              · refine xr_steps (pc' := 269) (L' := [(6, .int (Int32.ofInt (xat n f i))), (1, .int (Int32.ofInt (D : Int))), (2, .int (Int32.ofInt 0)), (3, .int (Int32.ofInt (cnt : Int))), (4, .int (Int32.ofInt (400 + (i : Int)))), (5, .int (Int32.ofInt (400 + (n : Int)))), (0, .ref 165)]) (st' := [.int (Int32.ofInt 91), .int (Int32.ofInt (xat n f i))]) 2 rfl ?_
                refine xr_icmp_eq rfl (by omega) (by omega) (fun z50 => ?_) (fun z50 => ?_)
                · refine xr_steps (pc' := 281) (L' := [(6, .int (Int32.ofInt (xat n f i))), (1, .int (Int32.ofInt (D : Int))), (2, .int (Int32.ofInt 0)), (3, .int (Int32.ofInt (cnt : Int))), (4, .int (Int32.ofInt (400 + (i : Int)))), (5, .int (Int32.ofInt (400 + (n : Int)))), (0, .ref 165)]) (st' := [.int (Int32.ofInt 5), .int (Int32.ofInt (D : Int))]) 2 rfl ?_
                  refine xr_icmp_ne rfl (by omega) (by omega) (fun z51 => ?_) (fun z51 => ?_)
                  · refine xr_steps (pc' := 287) (L' := [(6, .int (Int32.ofInt (xat n f i))), (1, .int (Int32.ofInt (D : Int))), (2, .int (Int32.ofInt 0)), (3, .int (Int32.ofInt (cnt : Int))), (4, .int (Int32.ofInt (400 + (i : Int)))), (5, .int (Int32.ofInt (400 + (n : Int)))), (0, .ref 165)]) (st' := [.ref 165]) 1 rfl ?_
                    refine xr_getf (v := .ref 178) rfl (ym_165 hA) rfl ?_
                    refine xr_steps (pc' := 293) (L' := [(6, .int (Int32.ofInt (xat n f i))), (1, .int (Int32.ofInt (D : Int))), (2, .int (Int32.ofInt 0)), (3, .int (Int32.ofInt (cnt : Int))), (4, .int (Int32.ofInt (400 + (i : Int)))), (5, .int (Int32.ofInt (400 + (n : Int)))), (0, .ref 165)]) (st' := [.int (Int32.ofInt (xat n f i)), .int (Int32.ofInt (D : Int)), .ref 178]) 2 rfl ?_
                    refine ym_castore hA rfl rfl (by decide) (by omega) (by omega) (by omega) ?_
                    rw [show (D : Int).toNat = D by omega]
                    refine xr_steps (pc' := 295) (L' := [(6, .int (Int32.ofInt (xat n f i))), (1, .int (Int32.ofInt (D : Int))), (2, .int (Int32.ofInt 0)), (3, .int (Int32.ofInt (cnt : Int))), (4, .int (Int32.ofInt (400 + (i : Int)))), (5, .int (Int32.ofInt (400 + (n : Int)))), (0, .ref 165)]) (st' := [.ref 165]) 1 rfl ?_
                    refine xr_getf (v := .ref 179) rfl (ym_165 hA) rfl ?_
                    refine xr_steps (pc' := 300) (L' := [(6, .int (Int32.ofInt (xat n f i))), (1, .int (Int32.ofInt (D : Int))), (2, .int (Int32.ofInt 0)), (3, .int (Int32.ofInt (cnt : Int))), (4, .int (Int32.ofInt (400 + (i : Int)))), (5, .int (Int32.ofInt (400 + (n : Int)))), (0, .ref 165)]) (st' := [.int (Int32.ofInt 0), .int (Int32.ofInt (D : Int)), .ref 179]) 2 rfl ?_
                    refine ym_iastore hA rfl rfl (by decide) (by omega) (by omega) ?_
                    rw [show (D : Int).toNat = D by omega]
                    refine xr_iinc (L' := [(1, .int (Int32.ofInt ((D : Int) + 1))), (6, .int (Int32.ofInt (xat n f i))), (2, .int (Int32.ofInt 0)), (3, .int (Int32.ofInt (cnt : Int))), (4, .int (Int32.ofInt (400 + (i : Int)))), (5, .int (Int32.ofInt (400 + (n : Int)))), (0, .ref 165)]) rfl rfl rfl ?_
                    refine xr_iinc (L' := [(3, .int (Int32.ofInt ((cnt : Int) + 1))), (1, .int (Int32.ofInt ((D : Int) + 1))), (6, .int (Int32.ofInt (xat n f i))), (2, .int (Int32.ofInt 0)), (4, .int (Int32.ofInt (400 + (i : Int)))), (5, .int (Int32.ofInt (400 + (n : Int)))), (0, .ref 165)]) rfl rfl rfl ?_
                    refine xr_steps (pc' := 311) (L' := [(3, .int (Int32.ofInt ((cnt : Int) + 1))), (1, .int (Int32.ofInt ((D : Int) + 1))), (6, .int (Int32.ofInt (xat n f i))), (2, .int (Int32.ofInt 0)), (4, .int (Int32.ofInt (400 + (i : Int)))), (5, .int (Int32.ofInt (400 + (n : Int)))), (0, .ref 165)]) (st' := [.int (Int32.ofInt 91), .int (Int32.ofInt (xat n f i))]) 2 rfl ?_
                    refine xr_icmp_ne rfl (by omega) (by omega) (fun z52 => ?_) (fun z52 => ?_)
                    · refine xr_steps (pc' := 320) (L' := [(2, .int (Int32.ofInt 3)), (3, .int (Int32.ofInt ((cnt : Int) + 1))), (1, .int (Int32.ofInt ((D : Int) + 1))), (6, .int (Int32.ofInt (xat n f i))), (4, .int (Int32.ofInt (400 + (i : Int)))), (5, .int (Int32.ofInt (400 + (n : Int)))), (0, .ref 165)]) (st' := []) 2 rfl ?_
                      refine xr_iinc (L' := [(4, .int (Int32.ofInt ((400 + (i : Int)) + 1))), (2, .int (Int32.ofInt 3)), (3, .int (Int32.ofInt ((cnt : Int) + 1))), (1, .int (Int32.ofInt ((D : Int) + 1))), (6, .int (Int32.ofInt (xat n f i))), (5, .int (Int32.ofInt (400 + (n : Int)))), (0, .ref 165)]) rfl rfl rfl ?_
                      refine xr_steps (pc' := 21) (L' := [(4, .int (Int32.ofInt ((400 + (i : Int)) + 1))), (2, .int (Int32.ofInt 3)), (3, .int (Int32.ofInt ((cnt : Int) + 1))), (1, .int (Int32.ofInt ((D : Int) + 1))), (6, .int (Int32.ofInt (xat n f i))), (5, .int (Int32.ofInt (400 + (n : Int)))), (0, .ref 165)]) (st' := []) 2 rfl ?_
                      refine xr_loc (L := [(1, .int (Int32.ofInt ((D : Int) + 1))), (2, .int (Int32.ofInt 3)), (3, .int (Int32.ofInt ((cnt : Int) + 1))), (4, .int (Int32.ofInt ((400 + (i : Int)) + 1))), (5, .int (Int32.ofInt (400 + (n : Int)))), (0, .ref 165)]) (show [1, 2, 3, 4, 5, 0].Nodup by decide) ⟨rfl, rfl, rfl, rfl, rfl, rfl, trivial⟩ ?_
                      rw [show 400 + (i : Int) + 1 = 400 + ((i + 1 : Nat) : Int) by omega]
                      have hv : xat n f i = 123 := by omega
                      rw [show (D : Int) + 1 = ((D + 1 : Nat) : Int) by omega, show (cnt : Int) + 1 = ((cnt + 1 : Nat) : Int) by omega, hv]
                      exact hopo (by omega) (by omega)
                    · refine xr_steps (pc' := 320) (L' := [(2, .int (Int32.ofInt 2)), (3, .int (Int32.ofInt ((cnt : Int) + 1))), (1, .int (Int32.ofInt ((D : Int) + 1))), (6, .int (Int32.ofInt (xat n f i))), (4, .int (Int32.ofInt (400 + (i : Int)))), (5, .int (Int32.ofInt (400 + (n : Int)))), (0, .ref 165)]) (st' := []) 3 rfl ?_
                      refine xr_iinc (L' := [(4, .int (Int32.ofInt ((400 + (i : Int)) + 1))), (2, .int (Int32.ofInt 2)), (3, .int (Int32.ofInt ((cnt : Int) + 1))), (1, .int (Int32.ofInt ((D : Int) + 1))), (6, .int (Int32.ofInt (xat n f i))), (5, .int (Int32.ofInt (400 + (n : Int)))), (0, .ref 165)]) rfl rfl rfl ?_
                      refine xr_steps (pc' := 21) (L' := [(4, .int (Int32.ofInt ((400 + (i : Int)) + 1))), (2, .int (Int32.ofInt 2)), (3, .int (Int32.ofInt ((cnt : Int) + 1))), (1, .int (Int32.ofInt ((D : Int) + 1))), (6, .int (Int32.ofInt (xat n f i))), (5, .int (Int32.ofInt (400 + (n : Int)))), (0, .ref 165)]) (st' := []) 2 rfl ?_
                      refine xr_loc (L := [(1, .int (Int32.ofInt ((D : Int) + 1))), (2, .int (Int32.ofInt 2)), (3, .int (Int32.ofInt ((cnt : Int) + 1))), (4, .int (Int32.ofInt ((400 + (i : Int)) + 1))), (5, .int (Int32.ofInt (400 + (n : Int)))), (0, .ref 165)]) (show [1, 2, 3, 4, 5, 0].Nodup by decide) ⟨rfl, rfl, rfl, rfl, rfl, rfl, trivial⟩ ?_
                      rw [show 400 + (i : Int) + 1 = 400 + ((i + 1 : Nat) : Int) by omega]
                      have hv : xat n f i = 91 := by omega
                      rw [show (D : Int) + 1 = ((D + 1 : Nat) : Int) by omega, show (cnt : Int) + 1 = ((cnt + 1 : Nat) : Int) by omega, hv]
                      exact hopa (by omega) (by omega)
                  · refine xr_steps (pc' := 285) (L' := [(6, .int (Int32.ofInt (xat n f i))), (1, .int (Int32.ofInt (D : Int))), (2, .int (Int32.ofInt 0)), (3, .int (Int32.ofInt (cnt : Int))), (4, .int (Int32.ofInt (400 + (i : Int)))), (5, .int (Int32.ofInt (400 + (n : Int)))), (0, .ref 165)]) (st' := [.int (Int32.ofInt (-1))]) 1 rfl ?_
                    first
                      | exact xr_retI2 rfl rfl (hbe (by omega))
                      | exact xr_retI2 rfl rfl (hbo (by omega) (by omega))
                      | (exfalso; omega)
                · refine xr_steps (pc' := 276) (L' := [(6, .int (Int32.ofInt (xat n f i))), (1, .int (Int32.ofInt (D : Int))), (2, .int (Int32.ofInt 0)), (3, .int (Int32.ofInt (cnt : Int))), (4, .int (Int32.ofInt (400 + (i : Int)))), (5, .int (Int32.ofInt (400 + (n : Int)))), (0, .ref 165)]) (st' := [.int (Int32.ofInt 123), .int (Int32.ofInt (xat n f i))]) 2 rfl ?_
                  refine xr_icmp_ne rfl (by omega) (by omega) (fun z53 => ?_) (fun z53 => ?_)
                  · refine xr_steps (pc' := 329) (L' := [(6, .int (Int32.ofInt (xat n f i))), (1, .int (Int32.ofInt (D : Int))), (2, .int (Int32.ofInt 0)), (3, .int (Int32.ofInt (cnt : Int))), (4, .int (Int32.ofInt (400 + (i : Int)))), (5, .int (Int32.ofInt (400 + (n : Int)))), (0, .ref 165)]) (st' := [.int (Int32.ofInt (400 + (i : Int))), .ref 165]) 2 rfl ?_
                    refine xr_call (q := (.invokevirtual 118, 3, 211, 2)) (av := [.ref 165, .int (Int32.ofInt (400 + (i : Int)))]) (rest := []) rfl rfl (by decide) rfl (ym_rcv hA rfl) (Nat.le_of_ble_eq_true rfl) (mo_211 hA hx (by omega)) ?_
                    rintro _ _ ⟨r, ⟨rfl, eA⟩, hr⟩
                    rw [eA]
                    clear eA
                    have hr32 : -1 ≤ r ∧ r ≤ 4000 := by
                      rcases hr with ⟨kd, ls, q, h1, h2⟩ | ⟨-, h2⟩
                      · have h3 := hpq kd ls q h1
                        omega
                      · omega
                    refine xr_steps (pc' := 336) (L' := [(4, .int (Int32.ofInt r)), (6, .int (Int32.ofInt (xat n f i))), (1, .int (Int32.ofInt (D : Int))), (2, .int (Int32.ofInt 0)), (3, .int (Int32.ofInt (cnt : Int))), (5, .int (Int32.ofInt (400 + (n : Int)))), (0, .ref 165)]) (st' := [.int (Int32.ofInt r)]) 2 rfl ?_
                    refine xr_if_ge rfl (by omega) (fun z54 => ?_) (fun z54 => ?_)
                    · refine xr_iinc (L' := [(3, .int (Int32.ofInt ((cnt : Int) + 1))), (4, .int (Int32.ofInt r)), (6, .int (Int32.ofInt (xat n f i))), (1, .int (Int32.ofInt (D : Int))), (2, .int (Int32.ofInt 0)), (5, .int (Int32.ofInt (400 + (n : Int)))), (0, .ref 165)]) rfl rfl rfl ?_
                      refine xr_steps (pc' := 21) (L' := [(2, .int (Int32.ofInt 1)), (3, .int (Int32.ofInt ((cnt : Int) + 1))), (4, .int (Int32.ofInt r)), (6, .int (Int32.ofInt (xat n f i))), (1, .int (Int32.ofInt (D : Int))), (5, .int (Int32.ofInt (400 + (n : Int)))), (0, .ref 165)]) (st' := []) 3 rfl ?_
                      refine xr_loc (L := [(1, .int (Int32.ofInt (D : Int))), (2, .int (Int32.ofInt 1)), (3, .int (Int32.ofInt ((cnt : Int) + 1))), (4, .int (Int32.ofInt r)), (5, .int (Int32.ofInt (400 + (n : Int)))), (0, .ref 165)]) (show [1, 2, 3, 4, 5, 0].Nodup by decide) ⟨rfl, rfl, rfl, rfl, rfl, rfl, trivial⟩ ?_
                      obtain ⟨kd, ls, q, h1, h2⟩ : ∃ (kd : Nat) (ls : List Int) (q : Nat), xpl (ye n f) i = some (kd, ls, q) ∧ r = 400 + (q : Int) := by
                        rcases hr with h | ⟨-, h⟩
                        · exact h
                        · omega
                      rw [h2, show (cnt : Int) + 1 = ((cnt + 1 : Nat) : Int) by omega]
                      exact hleaf kd ls q (by omega) (by omega) h1
                    · refine xr_steps (pc' := 340) (L' := [(4, .int (Int32.ofInt r)), (6, .int (Int32.ofInt (xat n f i))), (1, .int (Int32.ofInt (D : Int))), (2, .int (Int32.ofInt 0)), (3, .int (Int32.ofInt (cnt : Int))), (5, .int (Int32.ofInt (400 + (n : Int)))), (0, .ref 165)]) (st' := [.int (Int32.ofInt (-1))]) 1 rfl ?_
                      refine xr_retI2 rfl rfl (hbl (by omega) (by omega) ?_)
                      rcases hr with ⟨kd, ls, q, h1, h2⟩ | ⟨h1, -⟩
                      · omega
                      · exact h1
                  · refine xr_steps (pc' := 281) (L' := [(6, .int (Int32.ofInt (xat n f i))), (1, .int (Int32.ofInt (D : Int))), (2, .int (Int32.ofInt 0)), (3, .int (Int32.ofInt (cnt : Int))), (4, .int (Int32.ofInt (400 + (i : Int)))), (5, .int (Int32.ofInt (400 + (n : Int)))), (0, .ref 165)]) (st' := [.int (Int32.ofInt 5), .int (Int32.ofInt (D : Int))]) 2 rfl ?_
                    refine xr_icmp_ne rfl (by omega) (by omega) (fun z55 => ?_) (fun z55 => ?_)
                    · refine xr_steps (pc' := 287) (L' := [(6, .int (Int32.ofInt (xat n f i))), (1, .int (Int32.ofInt (D : Int))), (2, .int (Int32.ofInt 0)), (3, .int (Int32.ofInt (cnt : Int))), (4, .int (Int32.ofInt (400 + (i : Int)))), (5, .int (Int32.ofInt (400 + (n : Int)))), (0, .ref 165)]) (st' := [.ref 165]) 1 rfl ?_
                      refine xr_getf (v := .ref 178) rfl (ym_165 hA) rfl ?_
                      refine xr_steps (pc' := 293) (L' := [(6, .int (Int32.ofInt (xat n f i))), (1, .int (Int32.ofInt (D : Int))), (2, .int (Int32.ofInt 0)), (3, .int (Int32.ofInt (cnt : Int))), (4, .int (Int32.ofInt (400 + (i : Int)))), (5, .int (Int32.ofInt (400 + (n : Int)))), (0, .ref 165)]) (st' := [.int (Int32.ofInt (xat n f i)), .int (Int32.ofInt (D : Int)), .ref 178]) 2 rfl ?_
                      refine ym_castore hA rfl rfl (by decide) (by omega) (by omega) (by omega) ?_
                      rw [show (D : Int).toNat = D by omega]
                      refine xr_steps (pc' := 295) (L' := [(6, .int (Int32.ofInt (xat n f i))), (1, .int (Int32.ofInt (D : Int))), (2, .int (Int32.ofInt 0)), (3, .int (Int32.ofInt (cnt : Int))), (4, .int (Int32.ofInt (400 + (i : Int)))), (5, .int (Int32.ofInt (400 + (n : Int)))), (0, .ref 165)]) (st' := [.ref 165]) 1 rfl ?_
                      refine xr_getf (v := .ref 179) rfl (ym_165 hA) rfl ?_
                      refine xr_steps (pc' := 300) (L' := [(6, .int (Int32.ofInt (xat n f i))), (1, .int (Int32.ofInt (D : Int))), (2, .int (Int32.ofInt 0)), (3, .int (Int32.ofInt (cnt : Int))), (4, .int (Int32.ofInt (400 + (i : Int)))), (5, .int (Int32.ofInt (400 + (n : Int)))), (0, .ref 165)]) (st' := [.int (Int32.ofInt 0), .int (Int32.ofInt (D : Int)), .ref 179]) 2 rfl ?_
                      refine ym_iastore hA rfl rfl (by decide) (by omega) (by omega) ?_
                      rw [show (D : Int).toNat = D by omega]
                      refine xr_iinc (L' := [(1, .int (Int32.ofInt ((D : Int) + 1))), (6, .int (Int32.ofInt (xat n f i))), (2, .int (Int32.ofInt 0)), (3, .int (Int32.ofInt (cnt : Int))), (4, .int (Int32.ofInt (400 + (i : Int)))), (5, .int (Int32.ofInt (400 + (n : Int)))), (0, .ref 165)]) rfl rfl rfl ?_
                      refine xr_iinc (L' := [(3, .int (Int32.ofInt ((cnt : Int) + 1))), (1, .int (Int32.ofInt ((D : Int) + 1))), (6, .int (Int32.ofInt (xat n f i))), (2, .int (Int32.ofInt 0)), (4, .int (Int32.ofInt (400 + (i : Int)))), (5, .int (Int32.ofInt (400 + (n : Int)))), (0, .ref 165)]) rfl rfl rfl ?_
                      refine xr_steps (pc' := 311) (L' := [(3, .int (Int32.ofInt ((cnt : Int) + 1))), (1, .int (Int32.ofInt ((D : Int) + 1))), (6, .int (Int32.ofInt (xat n f i))), (2, .int (Int32.ofInt 0)), (4, .int (Int32.ofInt (400 + (i : Int)))), (5, .int (Int32.ofInt (400 + (n : Int)))), (0, .ref 165)]) (st' := [.int (Int32.ofInt 91), .int (Int32.ofInt (xat n f i))]) 2 rfl ?_
                      refine xr_icmp_ne rfl (by omega) (by omega) (fun z56 => ?_) (fun z56 => ?_)
                      · refine xr_steps (pc' := 320) (L' := [(2, .int (Int32.ofInt 3)), (3, .int (Int32.ofInt ((cnt : Int) + 1))), (1, .int (Int32.ofInt ((D : Int) + 1))), (6, .int (Int32.ofInt (xat n f i))), (4, .int (Int32.ofInt (400 + (i : Int)))), (5, .int (Int32.ofInt (400 + (n : Int)))), (0, .ref 165)]) (st' := []) 2 rfl ?_
                        refine xr_iinc (L' := [(4, .int (Int32.ofInt ((400 + (i : Int)) + 1))), (2, .int (Int32.ofInt 3)), (3, .int (Int32.ofInt ((cnt : Int) + 1))), (1, .int (Int32.ofInt ((D : Int) + 1))), (6, .int (Int32.ofInt (xat n f i))), (5, .int (Int32.ofInt (400 + (n : Int)))), (0, .ref 165)]) rfl rfl rfl ?_
                        refine xr_steps (pc' := 21) (L' := [(4, .int (Int32.ofInt ((400 + (i : Int)) + 1))), (2, .int (Int32.ofInt 3)), (3, .int (Int32.ofInt ((cnt : Int) + 1))), (1, .int (Int32.ofInt ((D : Int) + 1))), (6, .int (Int32.ofInt (xat n f i))), (5, .int (Int32.ofInt (400 + (n : Int)))), (0, .ref 165)]) (st' := []) 2 rfl ?_
                        refine xr_loc (L := [(1, .int (Int32.ofInt ((D : Int) + 1))), (2, .int (Int32.ofInt 3)), (3, .int (Int32.ofInt ((cnt : Int) + 1))), (4, .int (Int32.ofInt ((400 + (i : Int)) + 1))), (5, .int (Int32.ofInt (400 + (n : Int)))), (0, .ref 165)]) (show [1, 2, 3, 4, 5, 0].Nodup by decide) ⟨rfl, rfl, rfl, rfl, rfl, rfl, trivial⟩ ?_
                        rw [show 400 + (i : Int) + 1 = 400 + ((i + 1 : Nat) : Int) by omega]
                        have hv : xat n f i = 123 := by omega
                        rw [show (D : Int) + 1 = ((D + 1 : Nat) : Int) by omega, show (cnt : Int) + 1 = ((cnt + 1 : Nat) : Int) by omega, hv]
                        exact hopo (by omega) (by omega)
                      · refine xr_steps (pc' := 320) (L' := [(2, .int (Int32.ofInt 2)), (3, .int (Int32.ofInt ((cnt : Int) + 1))), (1, .int (Int32.ofInt ((D : Int) + 1))), (6, .int (Int32.ofInt (xat n f i))), (4, .int (Int32.ofInt (400 + (i : Int)))), (5, .int (Int32.ofInt (400 + (n : Int)))), (0, .ref 165)]) (st' := []) 3 rfl ?_
                        refine xr_iinc (L' := [(4, .int (Int32.ofInt ((400 + (i : Int)) + 1))), (2, .int (Int32.ofInt 2)), (3, .int (Int32.ofInt ((cnt : Int) + 1))), (1, .int (Int32.ofInt ((D : Int) + 1))), (6, .int (Int32.ofInt (xat n f i))), (5, .int (Int32.ofInt (400 + (n : Int)))), (0, .ref 165)]) rfl rfl rfl ?_
                        refine xr_steps (pc' := 21) (L' := [(4, .int (Int32.ofInt ((400 + (i : Int)) + 1))), (2, .int (Int32.ofInt 2)), (3, .int (Int32.ofInt ((cnt : Int) + 1))), (1, .int (Int32.ofInt ((D : Int) + 1))), (6, .int (Int32.ofInt (xat n f i))), (5, .int (Int32.ofInt (400 + (n : Int)))), (0, .ref 165)]) (st' := []) 2 rfl ?_
                        refine xr_loc (L := [(1, .int (Int32.ofInt ((D : Int) + 1))), (2, .int (Int32.ofInt 2)), (3, .int (Int32.ofInt ((cnt : Int) + 1))), (4, .int (Int32.ofInt ((400 + (i : Int)) + 1))), (5, .int (Int32.ofInt (400 + (n : Int)))), (0, .ref 165)]) (show [1, 2, 3, 4, 5, 0].Nodup by decide) ⟨rfl, rfl, rfl, rfl, rfl, rfl, trivial⟩ ?_
                        rw [show 400 + (i : Int) + 1 = 400 + ((i + 1 : Nat) : Int) by omega]
                        have hv : xat n f i = 91 := by omega
                        rw [show (D : Int) + 1 = ((D + 1 : Nat) : Int) by omega, show (cnt : Int) + 1 = ((cnt + 1 : Nat) : Int) by omega, hv]
                        exact hopa (by omega) (by omega)
                    · refine xr_steps (pc' := 285) (L' := [(6, .int (Int32.ofInt (xat n f i))), (1, .int (Int32.ofInt (D : Int))), (2, .int (Int32.ofInt 0)), (3, .int (Int32.ofInt (cnt : Int))), (4, .int (Int32.ofInt (400 + (i : Int)))), (5, .int (Int32.ofInt (400 + (n : Int)))), (0, .ref 165)]) (st' := [.int (Int32.ofInt (-1))]) 1 rfl ?_
                      first
                        | exact xr_retI2 rfl rfl (hbe (by omega))
                        | exact xr_retI2 rfl rfl (hbo (by omega) (by omega))
                        | (exfalso; omega)
              · exfalso; omega
            · exfalso; omega
          · exfalso; omega
    · refine xr_steps (pc' := 45) (L' := [(6, .int (Int32.ofInt (xat n f i))), (1, .int (Int32.ofInt (D : Int))), (2, .int (Int32.ofInt 0)), (3, .int (Int32.ofInt (cnt : Int))), (4, .int (Int32.ofInt (400 + (i : Int)))), (5, .int (Int32.ofInt (400 + (n : Int)))), (0, .ref 165)]) (st' := [.int (Int32.ofInt 1), .int (Int32.ofInt 0)]) 2 rfl ?_
      refine xr_icmp_eq rfl (by omega) (by omega) (fun z57 => ?_) (fun z57 => ?_)
      · exfalso; omega
      · refine xr_steps (pc' := 50) (L' := [(6, .int (Int32.ofInt (xat n f i))), (1, .int (Int32.ofInt (D : Int))), (2, .int (Int32.ofInt 0)), (3, .int (Int32.ofInt (cnt : Int))), (4, .int (Int32.ofInt (400 + (i : Int)))), (5, .int (Int32.ofInt (400 + (n : Int)))), (0, .ref 165)]) (st' := [.int (Int32.ofInt 2), .int (Int32.ofInt 0)]) 2 rfl ?_
        refine xr_icmp_eq rfl (by omega) (by omega) (fun z58 => ?_) (fun z58 => ?_)
        · exfalso; omega
        · refine xr_steps (pc' := 57) (L' := [(6, .int (Int32.ofInt (xat n f i))), (1, .int (Int32.ofInt (D : Int))), (2, .int (Int32.ofInt 0)), (3, .int (Int32.ofInt (cnt : Int))), (4, .int (Int32.ofInt (400 + (i : Int)))), (5, .int (Int32.ofInt (400 + (n : Int)))), (0, .ref 165)]) (st' := [.int (Int32.ofInt 125), .int (Int32.ofInt (xat n f i))]) 2 rfl ?_
          refine xr_icmp_ne rfl (by omega) (by omega) (fun z59 => ?_) (fun z59 => ?_)
          · refine xr_steps (pc' := 114) (L' := [(6, .int (Int32.ofInt (xat n f i))), (1, .int (Int32.ofInt (D : Int))), (2, .int (Int32.ofInt 0)), (3, .int (Int32.ofInt (cnt : Int))), (4, .int (Int32.ofInt (400 + (i : Int)))), (5, .int (Int32.ofInt (400 + (n : Int)))), (0, .ref 165)]) (st' := [.int (Int32.ofInt 1), .int (Int32.ofInt 0)]) 2 rfl ?_
            refine xr_icmp_ne rfl (by omega) (by omega) (fun z60 => ?_) (fun z60 => ?_)
            · refine xr_steps (pc' := 157) (L' := [(6, .int (Int32.ofInt (xat n f i))), (1, .int (Int32.ofInt (D : Int))), (2, .int (Int32.ofInt 0)), (3, .int (Int32.ofInt (cnt : Int))), (4, .int (Int32.ofInt (400 + (i : Int)))), (5, .int (Int32.ofInt (400 + (n : Int)))), (0, .ref 165)]) (st' := [.int (Int32.ofInt 2), .int (Int32.ofInt 0)]) 2 rfl ?_
              refine xr_icmp_le rfl (by omega) (by omega) (fun z61 => ?_) (fun z61 => ?_)
              · refine xr_steps (pc' := 269) (L' := [(6, .int (Int32.ofInt (xat n f i))), (1, .int (Int32.ofInt (D : Int))), (2, .int (Int32.ofInt 0)), (3, .int (Int32.ofInt (cnt : Int))), (4, .int (Int32.ofInt (400 + (i : Int)))), (5, .int (Int32.ofInt (400 + (n : Int)))), (0, .ref 165)]) (st' := [.int (Int32.ofInt 91), .int (Int32.ofInt (xat n f i))]) 2 rfl ?_
                refine xr_icmp_eq rfl (by omega) (by omega) (fun z62 => ?_) (fun z62 => ?_)
                · refine xr_steps (pc' := 281) (L' := [(6, .int (Int32.ofInt (xat n f i))), (1, .int (Int32.ofInt (D : Int))), (2, .int (Int32.ofInt 0)), (3, .int (Int32.ofInt (cnt : Int))), (4, .int (Int32.ofInt (400 + (i : Int)))), (5, .int (Int32.ofInt (400 + (n : Int)))), (0, .ref 165)]) (st' := [.int (Int32.ofInt 5), .int (Int32.ofInt (D : Int))]) 2 rfl ?_
                  refine xr_icmp_ne rfl (by omega) (by omega) (fun z63 => ?_) (fun z63 => ?_)
                  · refine xr_steps (pc' := 287) (L' := [(6, .int (Int32.ofInt (xat n f i))), (1, .int (Int32.ofInt (D : Int))), (2, .int (Int32.ofInt 0)), (3, .int (Int32.ofInt (cnt : Int))), (4, .int (Int32.ofInt (400 + (i : Int)))), (5, .int (Int32.ofInt (400 + (n : Int)))), (0, .ref 165)]) (st' := [.ref 165]) 1 rfl ?_
                    refine xr_getf (v := .ref 178) rfl (ym_165 hA) rfl ?_
                    refine xr_steps (pc' := 293) (L' := [(6, .int (Int32.ofInt (xat n f i))), (1, .int (Int32.ofInt (D : Int))), (2, .int (Int32.ofInt 0)), (3, .int (Int32.ofInt (cnt : Int))), (4, .int (Int32.ofInt (400 + (i : Int)))), (5, .int (Int32.ofInt (400 + (n : Int)))), (0, .ref 165)]) (st' := [.int (Int32.ofInt (xat n f i)), .int (Int32.ofInt (D : Int)), .ref 178]) 2 rfl ?_
                    refine ym_castore hA rfl rfl (by decide) (by omega) (by omega) (by omega) ?_
                    rw [show (D : Int).toNat = D by omega]
                    refine xr_steps (pc' := 295) (L' := [(6, .int (Int32.ofInt (xat n f i))), (1, .int (Int32.ofInt (D : Int))), (2, .int (Int32.ofInt 0)), (3, .int (Int32.ofInt (cnt : Int))), (4, .int (Int32.ofInt (400 + (i : Int)))), (5, .int (Int32.ofInt (400 + (n : Int)))), (0, .ref 165)]) (st' := [.ref 165]) 1 rfl ?_
                    refine xr_getf (v := .ref 179) rfl (ym_165 hA) rfl ?_
                    refine xr_steps (pc' := 300) (L' := [(6, .int (Int32.ofInt (xat n f i))), (1, .int (Int32.ofInt (D : Int))), (2, .int (Int32.ofInt 0)), (3, .int (Int32.ofInt (cnt : Int))), (4, .int (Int32.ofInt (400 + (i : Int)))), (5, .int (Int32.ofInt (400 + (n : Int)))), (0, .ref 165)]) (st' := [.int (Int32.ofInt 0), .int (Int32.ofInt (D : Int)), .ref 179]) 2 rfl ?_
                    refine ym_iastore hA rfl rfl (by decide) (by omega) (by omega) ?_
                    rw [show (D : Int).toNat = D by omega]
                    refine xr_iinc (L' := [(1, .int (Int32.ofInt ((D : Int) + 1))), (6, .int (Int32.ofInt (xat n f i))), (2, .int (Int32.ofInt 0)), (3, .int (Int32.ofInt (cnt : Int))), (4, .int (Int32.ofInt (400 + (i : Int)))), (5, .int (Int32.ofInt (400 + (n : Int)))), (0, .ref 165)]) rfl rfl rfl ?_
                    refine xr_iinc (L' := [(3, .int (Int32.ofInt ((cnt : Int) + 1))), (1, .int (Int32.ofInt ((D : Int) + 1))), (6, .int (Int32.ofInt (xat n f i))), (2, .int (Int32.ofInt 0)), (4, .int (Int32.ofInt (400 + (i : Int)))), (5, .int (Int32.ofInt (400 + (n : Int)))), (0, .ref 165)]) rfl rfl rfl ?_
                    refine xr_steps (pc' := 311) (L' := [(3, .int (Int32.ofInt ((cnt : Int) + 1))), (1, .int (Int32.ofInt ((D : Int) + 1))), (6, .int (Int32.ofInt (xat n f i))), (2, .int (Int32.ofInt 0)), (4, .int (Int32.ofInt (400 + (i : Int)))), (5, .int (Int32.ofInt (400 + (n : Int)))), (0, .ref 165)]) (st' := [.int (Int32.ofInt 91), .int (Int32.ofInt (xat n f i))]) 2 rfl ?_
                    refine xr_icmp_ne rfl (by omega) (by omega) (fun z64 => ?_) (fun z64 => ?_)
                    · refine xr_steps (pc' := 320) (L' := [(2, .int (Int32.ofInt 3)), (3, .int (Int32.ofInt ((cnt : Int) + 1))), (1, .int (Int32.ofInt ((D : Int) + 1))), (6, .int (Int32.ofInt (xat n f i))), (4, .int (Int32.ofInt (400 + (i : Int)))), (5, .int (Int32.ofInt (400 + (n : Int)))), (0, .ref 165)]) (st' := []) 2 rfl ?_
                      refine xr_iinc (L' := [(4, .int (Int32.ofInt ((400 + (i : Int)) + 1))), (2, .int (Int32.ofInt 3)), (3, .int (Int32.ofInt ((cnt : Int) + 1))), (1, .int (Int32.ofInt ((D : Int) + 1))), (6, .int (Int32.ofInt (xat n f i))), (5, .int (Int32.ofInt (400 + (n : Int)))), (0, .ref 165)]) rfl rfl rfl ?_
                      refine xr_steps (pc' := 21) (L' := [(4, .int (Int32.ofInt ((400 + (i : Int)) + 1))), (2, .int (Int32.ofInt 3)), (3, .int (Int32.ofInt ((cnt : Int) + 1))), (1, .int (Int32.ofInt ((D : Int) + 1))), (6, .int (Int32.ofInt (xat n f i))), (5, .int (Int32.ofInt (400 + (n : Int)))), (0, .ref 165)]) (st' := []) 2 rfl ?_
                      refine xr_loc (L := [(1, .int (Int32.ofInt ((D : Int) + 1))), (2, .int (Int32.ofInt 3)), (3, .int (Int32.ofInt ((cnt : Int) + 1))), (4, .int (Int32.ofInt ((400 + (i : Int)) + 1))), (5, .int (Int32.ofInt (400 + (n : Int)))), (0, .ref 165)]) (show [1, 2, 3, 4, 5, 0].Nodup by decide) ⟨rfl, rfl, rfl, rfl, rfl, rfl, trivial⟩ ?_
                      rw [show 400 + (i : Int) + 1 = 400 + ((i + 1 : Nat) : Int) by omega]
                      have hv : xat n f i = 123 := by omega
                      rw [show (D : Int) + 1 = ((D + 1 : Nat) : Int) by omega, show (cnt : Int) + 1 = ((cnt + 1 : Nat) : Int) by omega, hv]
                      exact hopo (by omega) (by omega)
                    · refine xr_steps (pc' := 320) (L' := [(2, .int (Int32.ofInt 2)), (3, .int (Int32.ofInt ((cnt : Int) + 1))), (1, .int (Int32.ofInt ((D : Int) + 1))), (6, .int (Int32.ofInt (xat n f i))), (4, .int (Int32.ofInt (400 + (i : Int)))), (5, .int (Int32.ofInt (400 + (n : Int)))), (0, .ref 165)]) (st' := []) 3 rfl ?_
                      refine xr_iinc (L' := [(4, .int (Int32.ofInt ((400 + (i : Int)) + 1))), (2, .int (Int32.ofInt 2)), (3, .int (Int32.ofInt ((cnt : Int) + 1))), (1, .int (Int32.ofInt ((D : Int) + 1))), (6, .int (Int32.ofInt (xat n f i))), (5, .int (Int32.ofInt (400 + (n : Int)))), (0, .ref 165)]) rfl rfl rfl ?_
                      refine xr_steps (pc' := 21) (L' := [(4, .int (Int32.ofInt ((400 + (i : Int)) + 1))), (2, .int (Int32.ofInt 2)), (3, .int (Int32.ofInt ((cnt : Int) + 1))), (1, .int (Int32.ofInt ((D : Int) + 1))), (6, .int (Int32.ofInt (xat n f i))), (5, .int (Int32.ofInt (400 + (n : Int)))), (0, .ref 165)]) (st' := []) 2 rfl ?_
                      refine xr_loc (L := [(1, .int (Int32.ofInt ((D : Int) + 1))), (2, .int (Int32.ofInt 2)), (3, .int (Int32.ofInt ((cnt : Int) + 1))), (4, .int (Int32.ofInt ((400 + (i : Int)) + 1))), (5, .int (Int32.ofInt (400 + (n : Int)))), (0, .ref 165)]) (show [1, 2, 3, 4, 5, 0].Nodup by decide) ⟨rfl, rfl, rfl, rfl, rfl, rfl, trivial⟩ ?_
                      rw [show 400 + (i : Int) + 1 = 400 + ((i + 1 : Nat) : Int) by omega]
                      have hv : xat n f i = 91 := by omega
                      rw [show (D : Int) + 1 = ((D + 1 : Nat) : Int) by omega, show (cnt : Int) + 1 = ((cnt + 1 : Nat) : Int) by omega, hv]
                      exact hopa (by omega) (by omega)
                  · refine xr_steps (pc' := 285) (L' := [(6, .int (Int32.ofInt (xat n f i))), (1, .int (Int32.ofInt (D : Int))), (2, .int (Int32.ofInt 0)), (3, .int (Int32.ofInt (cnt : Int))), (4, .int (Int32.ofInt (400 + (i : Int)))), (5, .int (Int32.ofInt (400 + (n : Int)))), (0, .ref 165)]) (st' := [.int (Int32.ofInt (-1))]) 1 rfl ?_
                    first
                      | exact xr_retI2 rfl rfl (hbe (by omega))
                      | exact xr_retI2 rfl rfl (hbo (by omega) (by omega))
                      | (exfalso; omega)
                · refine xr_steps (pc' := 276) (L' := [(6, .int (Int32.ofInt (xat n f i))), (1, .int (Int32.ofInt (D : Int))), (2, .int (Int32.ofInt 0)), (3, .int (Int32.ofInt (cnt : Int))), (4, .int (Int32.ofInt (400 + (i : Int)))), (5, .int (Int32.ofInt (400 + (n : Int)))), (0, .ref 165)]) (st' := [.int (Int32.ofInt 123), .int (Int32.ofInt (xat n f i))]) 2 rfl ?_
                  refine xr_icmp_ne rfl (by omega) (by omega) (fun z65 => ?_) (fun z65 => ?_)
                  · refine xr_steps (pc' := 329) (L' := [(6, .int (Int32.ofInt (xat n f i))), (1, .int (Int32.ofInt (D : Int))), (2, .int (Int32.ofInt 0)), (3, .int (Int32.ofInt (cnt : Int))), (4, .int (Int32.ofInt (400 + (i : Int)))), (5, .int (Int32.ofInt (400 + (n : Int)))), (0, .ref 165)]) (st' := [.int (Int32.ofInt (400 + (i : Int))), .ref 165]) 2 rfl ?_
                    refine xr_call (q := (.invokevirtual 118, 3, 211, 2)) (av := [.ref 165, .int (Int32.ofInt (400 + (i : Int)))]) (rest := []) rfl rfl (by decide) rfl (ym_rcv hA rfl) (Nat.le_of_ble_eq_true rfl) (mo_211 hA hx (by omega)) ?_
                    rintro _ _ ⟨r, ⟨rfl, eA⟩, hr⟩
                    rw [eA]
                    clear eA
                    have hr32 : -1 ≤ r ∧ r ≤ 4000 := by
                      rcases hr with ⟨kd, ls, q, h1, h2⟩ | ⟨-, h2⟩
                      · have h3 := hpq kd ls q h1
                        omega
                      · omega
                    refine xr_steps (pc' := 336) (L' := [(4, .int (Int32.ofInt r)), (6, .int (Int32.ofInt (xat n f i))), (1, .int (Int32.ofInt (D : Int))), (2, .int (Int32.ofInt 0)), (3, .int (Int32.ofInt (cnt : Int))), (5, .int (Int32.ofInt (400 + (n : Int)))), (0, .ref 165)]) (st' := [.int (Int32.ofInt r)]) 2 rfl ?_
                    refine xr_if_ge rfl (by omega) (fun z66 => ?_) (fun z66 => ?_)
                    · refine xr_iinc (L' := [(3, .int (Int32.ofInt ((cnt : Int) + 1))), (4, .int (Int32.ofInt r)), (6, .int (Int32.ofInt (xat n f i))), (1, .int (Int32.ofInt (D : Int))), (2, .int (Int32.ofInt 0)), (5, .int (Int32.ofInt (400 + (n : Int)))), (0, .ref 165)]) rfl rfl rfl ?_
                      refine xr_steps (pc' := 21) (L' := [(2, .int (Int32.ofInt 1)), (3, .int (Int32.ofInt ((cnt : Int) + 1))), (4, .int (Int32.ofInt r)), (6, .int (Int32.ofInt (xat n f i))), (1, .int (Int32.ofInt (D : Int))), (5, .int (Int32.ofInt (400 + (n : Int)))), (0, .ref 165)]) (st' := []) 3 rfl ?_
                      refine xr_loc (L := [(1, .int (Int32.ofInt (D : Int))), (2, .int (Int32.ofInt 1)), (3, .int (Int32.ofInt ((cnt : Int) + 1))), (4, .int (Int32.ofInt r)), (5, .int (Int32.ofInt (400 + (n : Int)))), (0, .ref 165)]) (show [1, 2, 3, 4, 5, 0].Nodup by decide) ⟨rfl, rfl, rfl, rfl, rfl, rfl, trivial⟩ ?_
                      obtain ⟨kd, ls, q, h1, h2⟩ : ∃ (kd : Nat) (ls : List Int) (q : Nat), xpl (ye n f) i = some (kd, ls, q) ∧ r = 400 + (q : Int) := by
                        rcases hr with h | ⟨-, h⟩
                        · exact h
                        · omega
                      rw [h2, show (cnt : Int) + 1 = ((cnt + 1 : Nat) : Int) by omega]
                      exact hleaf kd ls q (by omega) (by omega) h1
                    · refine xr_steps (pc' := 340) (L' := [(4, .int (Int32.ofInt r)), (6, .int (Int32.ofInt (xat n f i))), (1, .int (Int32.ofInt (D : Int))), (2, .int (Int32.ofInt 0)), (3, .int (Int32.ofInt (cnt : Int))), (5, .int (Int32.ofInt (400 + (n : Int)))), (0, .ref 165)]) (st' := [.int (Int32.ofInt (-1))]) 1 rfl ?_
                      refine xr_retI2 rfl rfl (hbl (by omega) (by omega) ?_)
                      rcases hr with ⟨kd, ls, q, h1, h2⟩ | ⟨h1, -⟩
                      · omega
                      · exact h1
                  · refine xr_steps (pc' := 281) (L' := [(6, .int (Int32.ofInt (xat n f i))), (1, .int (Int32.ofInt (D : Int))), (2, .int (Int32.ofInt 0)), (3, .int (Int32.ofInt (cnt : Int))), (4, .int (Int32.ofInt (400 + (i : Int)))), (5, .int (Int32.ofInt (400 + (n : Int)))), (0, .ref 165)]) (st' := [.int (Int32.ofInt 5), .int (Int32.ofInt (D : Int))]) 2 rfl ?_
                    refine xr_icmp_ne rfl (by omega) (by omega) (fun z67 => ?_) (fun z67 => ?_)
                    · refine xr_steps (pc' := 287) (L' := [(6, .int (Int32.ofInt (xat n f i))), (1, .int (Int32.ofInt (D : Int))), (2, .int (Int32.ofInt 0)), (3, .int (Int32.ofInt (cnt : Int))), (4, .int (Int32.ofInt (400 + (i : Int)))), (5, .int (Int32.ofInt (400 + (n : Int)))), (0, .ref 165)]) (st' := [.ref 165]) 1 rfl ?_
                      refine xr_getf (v := .ref 178) rfl (ym_165 hA) rfl ?_
                      refine xr_steps (pc' := 293) (L' := [(6, .int (Int32.ofInt (xat n f i))), (1, .int (Int32.ofInt (D : Int))), (2, .int (Int32.ofInt 0)), (3, .int (Int32.ofInt (cnt : Int))), (4, .int (Int32.ofInt (400 + (i : Int)))), (5, .int (Int32.ofInt (400 + (n : Int)))), (0, .ref 165)]) (st' := [.int (Int32.ofInt (xat n f i)), .int (Int32.ofInt (D : Int)), .ref 178]) 2 rfl ?_
                      refine ym_castore hA rfl rfl (by decide) (by omega) (by omega) (by omega) ?_
                      rw [show (D : Int).toNat = D by omega]
                      refine xr_steps (pc' := 295) (L' := [(6, .int (Int32.ofInt (xat n f i))), (1, .int (Int32.ofInt (D : Int))), (2, .int (Int32.ofInt 0)), (3, .int (Int32.ofInt (cnt : Int))), (4, .int (Int32.ofInt (400 + (i : Int)))), (5, .int (Int32.ofInt (400 + (n : Int)))), (0, .ref 165)]) (st' := [.ref 165]) 1 rfl ?_
                      refine xr_getf (v := .ref 179) rfl (ym_165 hA) rfl ?_
                      refine xr_steps (pc' := 300) (L' := [(6, .int (Int32.ofInt (xat n f i))), (1, .int (Int32.ofInt (D : Int))), (2, .int (Int32.ofInt 0)), (3, .int (Int32.ofInt (cnt : Int))), (4, .int (Int32.ofInt (400 + (i : Int)))), (5, .int (Int32.ofInt (400 + (n : Int)))), (0, .ref 165)]) (st' := [.int (Int32.ofInt 0), .int (Int32.ofInt (D : Int)), .ref 179]) 2 rfl ?_
                      refine ym_iastore hA rfl rfl (by decide) (by omega) (by omega) ?_
                      rw [show (D : Int).toNat = D by omega]
                      refine xr_iinc (L' := [(1, .int (Int32.ofInt ((D : Int) + 1))), (6, .int (Int32.ofInt (xat n f i))), (2, .int (Int32.ofInt 0)), (3, .int (Int32.ofInt (cnt : Int))), (4, .int (Int32.ofInt (400 + (i : Int)))), (5, .int (Int32.ofInt (400 + (n : Int)))), (0, .ref 165)]) rfl rfl rfl ?_
                      refine xr_iinc (L' := [(3, .int (Int32.ofInt ((cnt : Int) + 1))), (1, .int (Int32.ofInt ((D : Int) + 1))), (6, .int (Int32.ofInt (xat n f i))), (2, .int (Int32.ofInt 0)), (4, .int (Int32.ofInt (400 + (i : Int)))), (5, .int (Int32.ofInt (400 + (n : Int)))), (0, .ref 165)]) rfl rfl rfl ?_
                      refine xr_steps (pc' := 311) (L' := [(3, .int (Int32.ofInt ((cnt : Int) + 1))), (1, .int (Int32.ofInt ((D : Int) + 1))), (6, .int (Int32.ofInt (xat n f i))), (2, .int (Int32.ofInt 0)), (4, .int (Int32.ofInt (400 + (i : Int)))), (5, .int (Int32.ofInt (400 + (n : Int)))), (0, .ref 165)]) (st' := [.int (Int32.ofInt 91), .int (Int32.ofInt (xat n f i))]) 2 rfl ?_
                      refine xr_icmp_ne rfl (by omega) (by omega) (fun z68 => ?_) (fun z68 => ?_)
                      · refine xr_steps (pc' := 320) (L' := [(2, .int (Int32.ofInt 3)), (3, .int (Int32.ofInt ((cnt : Int) + 1))), (1, .int (Int32.ofInt ((D : Int) + 1))), (6, .int (Int32.ofInt (xat n f i))), (4, .int (Int32.ofInt (400 + (i : Int)))), (5, .int (Int32.ofInt (400 + (n : Int)))), (0, .ref 165)]) (st' := []) 2 rfl ?_
                        refine xr_iinc (L' := [(4, .int (Int32.ofInt ((400 + (i : Int)) + 1))), (2, .int (Int32.ofInt 3)), (3, .int (Int32.ofInt ((cnt : Int) + 1))), (1, .int (Int32.ofInt ((D : Int) + 1))), (6, .int (Int32.ofInt (xat n f i))), (5, .int (Int32.ofInt (400 + (n : Int)))), (0, .ref 165)]) rfl rfl rfl ?_
                        refine xr_steps (pc' := 21) (L' := [(4, .int (Int32.ofInt ((400 + (i : Int)) + 1))), (2, .int (Int32.ofInt 3)), (3, .int (Int32.ofInt ((cnt : Int) + 1))), (1, .int (Int32.ofInt ((D : Int) + 1))), (6, .int (Int32.ofInt (xat n f i))), (5, .int (Int32.ofInt (400 + (n : Int)))), (0, .ref 165)]) (st' := []) 2 rfl ?_
                        refine xr_loc (L := [(1, .int (Int32.ofInt ((D : Int) + 1))), (2, .int (Int32.ofInt 3)), (3, .int (Int32.ofInt ((cnt : Int) + 1))), (4, .int (Int32.ofInt ((400 + (i : Int)) + 1))), (5, .int (Int32.ofInt (400 + (n : Int)))), (0, .ref 165)]) (show [1, 2, 3, 4, 5, 0].Nodup by decide) ⟨rfl, rfl, rfl, rfl, rfl, rfl, trivial⟩ ?_
                        rw [show 400 + (i : Int) + 1 = 400 + ((i + 1 : Nat) : Int) by omega]
                        have hv : xat n f i = 123 := by omega
                        rw [show (D : Int) + 1 = ((D + 1 : Nat) : Int) by omega, show (cnt : Int) + 1 = ((cnt + 1 : Nat) : Int) by omega, hv]
                        exact hopo (by omega) (by omega)
                      · refine xr_steps (pc' := 320) (L' := [(2, .int (Int32.ofInt 2)), (3, .int (Int32.ofInt ((cnt : Int) + 1))), (1, .int (Int32.ofInt ((D : Int) + 1))), (6, .int (Int32.ofInt (xat n f i))), (4, .int (Int32.ofInt (400 + (i : Int)))), (5, .int (Int32.ofInt (400 + (n : Int)))), (0, .ref 165)]) (st' := []) 3 rfl ?_
                        refine xr_iinc (L' := [(4, .int (Int32.ofInt ((400 + (i : Int)) + 1))), (2, .int (Int32.ofInt 2)), (3, .int (Int32.ofInt ((cnt : Int) + 1))), (1, .int (Int32.ofInt ((D : Int) + 1))), (6, .int (Int32.ofInt (xat n f i))), (5, .int (Int32.ofInt (400 + (n : Int)))), (0, .ref 165)]) rfl rfl rfl ?_
                        refine xr_steps (pc' := 21) (L' := [(4, .int (Int32.ofInt ((400 + (i : Int)) + 1))), (2, .int (Int32.ofInt 2)), (3, .int (Int32.ofInt ((cnt : Int) + 1))), (1, .int (Int32.ofInt ((D : Int) + 1))), (6, .int (Int32.ofInt (xat n f i))), (5, .int (Int32.ofInt (400 + (n : Int)))), (0, .ref 165)]) (st' := []) 2 rfl ?_
                        refine xr_loc (L := [(1, .int (Int32.ofInt ((D : Int) + 1))), (2, .int (Int32.ofInt 2)), (3, .int (Int32.ofInt ((cnt : Int) + 1))), (4, .int (Int32.ofInt ((400 + (i : Int)) + 1))), (5, .int (Int32.ofInt (400 + (n : Int)))), (0, .ref 165)]) (show [1, 2, 3, 4, 5, 0].Nodup by decide) ⟨rfl, rfl, rfl, rfl, rfl, rfl, trivial⟩ ?_
                        rw [show 400 + (i : Int) + 1 = 400 + ((i + 1 : Nat) : Int) by omega]
                        have hv : xat n f i = 91 := by omega
                        rw [show (D : Int) + 1 = ((D + 1 : Nat) : Int) by omega, show (cnt : Int) + 1 = ((cnt + 1 : Nat) : Int) by omega, hv]
                        exact hopa (by omega) (by omega)
                    · refine xr_steps (pc' := 285) (L' := [(6, .int (Int32.ofInt (xat n f i))), (1, .int (Int32.ofInt (D : Int))), (2, .int (Int32.ofInt 0)), (3, .int (Int32.ofInt (cnt : Int))), (4, .int (Int32.ofInt (400 + (i : Int)))), (5, .int (Int32.ofInt (400 + (n : Int)))), (0, .ref 165)]) (st' := [.int (Int32.ofInt (-1))]) 1 rfl ?_
                      first
                        | exact xr_retI2 rfl rfl (hbe (by omega))
                        | exact xr_retI2 rfl rfl (hbo (by omega) (by omega))
                        | (exfalso; omega)
              · exfalso; omega
            · exfalso; omega
          · refine xr_steps (pc' := 62) (L' := [(6, .int (Int32.ofInt (xat n f i))), (1, .int (Int32.ofInt (D : Int))), (2, .int (Int32.ofInt 0)), (3, .int (Int32.ofInt (cnt : Int))), (4, .int (Int32.ofInt (400 + (i : Int)))), (5, .int (Int32.ofInt (400 + (n : Int)))), (0, .ref 165)]) (st' := [.int (Int32.ofInt 1), .int (Int32.ofInt 0)]) 2 rfl ?_
            refine xr_icmp_eq rfl (by omega) (by omega) (fun z69 => ?_) (fun z69 => ?_)
            · exfalso; omega
            · refine xr_steps (pc' := 67) (L' := [(6, .int (Int32.ofInt (xat n f i))), (1, .int (Int32.ofInt (D : Int))), (2, .int (Int32.ofInt 0)), (3, .int (Int32.ofInt (cnt : Int))), (4, .int (Int32.ofInt (400 + (i : Int)))), (5, .int (Int32.ofInt (400 + (n : Int)))), (0, .ref 165)]) (st' := [.int (Int32.ofInt 3), .int (Int32.ofInt 0)]) 2 rfl ?_
              refine xr_icmp_ne rfl (by omega) (by omega) (fun z70 => ?_) (fun z70 => ?_)
              · refine xr_steps (pc' := 114) (L' := [(6, .int (Int32.ofInt (xat n f i))), (1, .int (Int32.ofInt (D : Int))), (2, .int (Int32.ofInt 0)), (3, .int (Int32.ofInt (cnt : Int))), (4, .int (Int32.ofInt (400 + (i : Int)))), (5, .int (Int32.ofInt (400 + (n : Int)))), (0, .ref 165)]) (st' := [.int (Int32.ofInt 1), .int (Int32.ofInt 0)]) 2 rfl ?_
                refine xr_icmp_ne rfl (by omega) (by omega) (fun z71 => ?_) (fun z71 => ?_)
                · refine xr_steps (pc' := 157) (L' := [(6, .int (Int32.ofInt (xat n f i))), (1, .int (Int32.ofInt (D : Int))), (2, .int (Int32.ofInt 0)), (3, .int (Int32.ofInt (cnt : Int))), (4, .int (Int32.ofInt (400 + (i : Int)))), (5, .int (Int32.ofInt (400 + (n : Int)))), (0, .ref 165)]) (st' := [.int (Int32.ofInt 2), .int (Int32.ofInt 0)]) 2 rfl ?_
                  refine xr_icmp_le rfl (by omega) (by omega) (fun z72 => ?_) (fun z72 => ?_)
                  · refine xr_steps (pc' := 269) (L' := [(6, .int (Int32.ofInt (xat n f i))), (1, .int (Int32.ofInt (D : Int))), (2, .int (Int32.ofInt 0)), (3, .int (Int32.ofInt (cnt : Int))), (4, .int (Int32.ofInt (400 + (i : Int)))), (5, .int (Int32.ofInt (400 + (n : Int)))), (0, .ref 165)]) (st' := [.int (Int32.ofInt 91), .int (Int32.ofInt (xat n f i))]) 2 rfl ?_
                    refine xr_icmp_eq rfl (by omega) (by omega) (fun z73 => ?_) (fun z73 => ?_)
                    · refine xr_steps (pc' := 281) (L' := [(6, .int (Int32.ofInt (xat n f i))), (1, .int (Int32.ofInt (D : Int))), (2, .int (Int32.ofInt 0)), (3, .int (Int32.ofInt (cnt : Int))), (4, .int (Int32.ofInt (400 + (i : Int)))), (5, .int (Int32.ofInt (400 + (n : Int)))), (0, .ref 165)]) (st' := [.int (Int32.ofInt 5), .int (Int32.ofInt (D : Int))]) 2 rfl ?_
                      refine xr_icmp_ne rfl (by omega) (by omega) (fun z74 => ?_) (fun z74 => ?_)
                      · refine xr_steps (pc' := 287) (L' := [(6, .int (Int32.ofInt (xat n f i))), (1, .int (Int32.ofInt (D : Int))), (2, .int (Int32.ofInt 0)), (3, .int (Int32.ofInt (cnt : Int))), (4, .int (Int32.ofInt (400 + (i : Int)))), (5, .int (Int32.ofInt (400 + (n : Int)))), (0, .ref 165)]) (st' := [.ref 165]) 1 rfl ?_
                        refine xr_getf (v := .ref 178) rfl (ym_165 hA) rfl ?_
                        refine xr_steps (pc' := 293) (L' := [(6, .int (Int32.ofInt (xat n f i))), (1, .int (Int32.ofInt (D : Int))), (2, .int (Int32.ofInt 0)), (3, .int (Int32.ofInt (cnt : Int))), (4, .int (Int32.ofInt (400 + (i : Int)))), (5, .int (Int32.ofInt (400 + (n : Int)))), (0, .ref 165)]) (st' := [.int (Int32.ofInt (xat n f i)), .int (Int32.ofInt (D : Int)), .ref 178]) 2 rfl ?_
                        refine ym_castore hA rfl rfl (by decide) (by omega) (by omega) (by omega) ?_
                        rw [show (D : Int).toNat = D by omega]
                        refine xr_steps (pc' := 295) (L' := [(6, .int (Int32.ofInt (xat n f i))), (1, .int (Int32.ofInt (D : Int))), (2, .int (Int32.ofInt 0)), (3, .int (Int32.ofInt (cnt : Int))), (4, .int (Int32.ofInt (400 + (i : Int)))), (5, .int (Int32.ofInt (400 + (n : Int)))), (0, .ref 165)]) (st' := [.ref 165]) 1 rfl ?_
                        refine xr_getf (v := .ref 179) rfl (ym_165 hA) rfl ?_
                        refine xr_steps (pc' := 300) (L' := [(6, .int (Int32.ofInt (xat n f i))), (1, .int (Int32.ofInt (D : Int))), (2, .int (Int32.ofInt 0)), (3, .int (Int32.ofInt (cnt : Int))), (4, .int (Int32.ofInt (400 + (i : Int)))), (5, .int (Int32.ofInt (400 + (n : Int)))), (0, .ref 165)]) (st' := [.int (Int32.ofInt 0), .int (Int32.ofInt (D : Int)), .ref 179]) 2 rfl ?_
                        refine ym_iastore hA rfl rfl (by decide) (by omega) (by omega) ?_
                        rw [show (D : Int).toNat = D by omega]
                        refine xr_iinc (L' := [(1, .int (Int32.ofInt ((D : Int) + 1))), (6, .int (Int32.ofInt (xat n f i))), (2, .int (Int32.ofInt 0)), (3, .int (Int32.ofInt (cnt : Int))), (4, .int (Int32.ofInt (400 + (i : Int)))), (5, .int (Int32.ofInt (400 + (n : Int)))), (0, .ref 165)]) rfl rfl rfl ?_
                        refine xr_iinc (L' := [(3, .int (Int32.ofInt ((cnt : Int) + 1))), (1, .int (Int32.ofInt ((D : Int) + 1))), (6, .int (Int32.ofInt (xat n f i))), (2, .int (Int32.ofInt 0)), (4, .int (Int32.ofInt (400 + (i : Int)))), (5, .int (Int32.ofInt (400 + (n : Int)))), (0, .ref 165)]) rfl rfl rfl ?_
                        refine xr_steps (pc' := 311) (L' := [(3, .int (Int32.ofInt ((cnt : Int) + 1))), (1, .int (Int32.ofInt ((D : Int) + 1))), (6, .int (Int32.ofInt (xat n f i))), (2, .int (Int32.ofInt 0)), (4, .int (Int32.ofInt (400 + (i : Int)))), (5, .int (Int32.ofInt (400 + (n : Int)))), (0, .ref 165)]) (st' := [.int (Int32.ofInt 91), .int (Int32.ofInt (xat n f i))]) 2 rfl ?_
                        refine xr_icmp_ne rfl (by omega) (by omega) (fun z75 => ?_) (fun z75 => ?_)
                        · refine xr_steps (pc' := 320) (L' := [(2, .int (Int32.ofInt 3)), (3, .int (Int32.ofInt ((cnt : Int) + 1))), (1, .int (Int32.ofInt ((D : Int) + 1))), (6, .int (Int32.ofInt (xat n f i))), (4, .int (Int32.ofInt (400 + (i : Int)))), (5, .int (Int32.ofInt (400 + (n : Int)))), (0, .ref 165)]) (st' := []) 2 rfl ?_
                          refine xr_iinc (L' := [(4, .int (Int32.ofInt ((400 + (i : Int)) + 1))), (2, .int (Int32.ofInt 3)), (3, .int (Int32.ofInt ((cnt : Int) + 1))), (1, .int (Int32.ofInt ((D : Int) + 1))), (6, .int (Int32.ofInt (xat n f i))), (5, .int (Int32.ofInt (400 + (n : Int)))), (0, .ref 165)]) rfl rfl rfl ?_
                          refine xr_steps (pc' := 21) (L' := [(4, .int (Int32.ofInt ((400 + (i : Int)) + 1))), (2, .int (Int32.ofInt 3)), (3, .int (Int32.ofInt ((cnt : Int) + 1))), (1, .int (Int32.ofInt ((D : Int) + 1))), (6, .int (Int32.ofInt (xat n f i))), (5, .int (Int32.ofInt (400 + (n : Int)))), (0, .ref 165)]) (st' := []) 2 rfl ?_
                          refine xr_loc (L := [(1, .int (Int32.ofInt ((D : Int) + 1))), (2, .int (Int32.ofInt 3)), (3, .int (Int32.ofInt ((cnt : Int) + 1))), (4, .int (Int32.ofInt ((400 + (i : Int)) + 1))), (5, .int (Int32.ofInt (400 + (n : Int)))), (0, .ref 165)]) (show [1, 2, 3, 4, 5, 0].Nodup by decide) ⟨rfl, rfl, rfl, rfl, rfl, rfl, trivial⟩ ?_
                          rw [show 400 + (i : Int) + 1 = 400 + ((i + 1 : Nat) : Int) by omega]
                          have hv : xat n f i = 123 := by omega
                          rw [show (D : Int) + 1 = ((D + 1 : Nat) : Int) by omega, show (cnt : Int) + 1 = ((cnt + 1 : Nat) : Int) by omega, hv]
                          exact hopo (by omega) (by omega)
                        · refine xr_steps (pc' := 320) (L' := [(2, .int (Int32.ofInt 2)), (3, .int (Int32.ofInt ((cnt : Int) + 1))), (1, .int (Int32.ofInt ((D : Int) + 1))), (6, .int (Int32.ofInt (xat n f i))), (4, .int (Int32.ofInt (400 + (i : Int)))), (5, .int (Int32.ofInt (400 + (n : Int)))), (0, .ref 165)]) (st' := []) 3 rfl ?_
                          refine xr_iinc (L' := [(4, .int (Int32.ofInt ((400 + (i : Int)) + 1))), (2, .int (Int32.ofInt 2)), (3, .int (Int32.ofInt ((cnt : Int) + 1))), (1, .int (Int32.ofInt ((D : Int) + 1))), (6, .int (Int32.ofInt (xat n f i))), (5, .int (Int32.ofInt (400 + (n : Int)))), (0, .ref 165)]) rfl rfl rfl ?_
                          refine xr_steps (pc' := 21) (L' := [(4, .int (Int32.ofInt ((400 + (i : Int)) + 1))), (2, .int (Int32.ofInt 2)), (3, .int (Int32.ofInt ((cnt : Int) + 1))), (1, .int (Int32.ofInt ((D : Int) + 1))), (6, .int (Int32.ofInt (xat n f i))), (5, .int (Int32.ofInt (400 + (n : Int)))), (0, .ref 165)]) (st' := []) 2 rfl ?_
                          refine xr_loc (L := [(1, .int (Int32.ofInt ((D : Int) + 1))), (2, .int (Int32.ofInt 2)), (3, .int (Int32.ofInt ((cnt : Int) + 1))), (4, .int (Int32.ofInt ((400 + (i : Int)) + 1))), (5, .int (Int32.ofInt (400 + (n : Int)))), (0, .ref 165)]) (show [1, 2, 3, 4, 5, 0].Nodup by decide) ⟨rfl, rfl, rfl, rfl, rfl, rfl, trivial⟩ ?_
                          rw [show 400 + (i : Int) + 1 = 400 + ((i + 1 : Nat) : Int) by omega]
                          have hv : xat n f i = 91 := by omega
                          rw [show (D : Int) + 1 = ((D + 1 : Nat) : Int) by omega, show (cnt : Int) + 1 = ((cnt + 1 : Nat) : Int) by omega, hv]
                          exact hopa (by omega) (by omega)
                      · refine xr_steps (pc' := 285) (L' := [(6, .int (Int32.ofInt (xat n f i))), (1, .int (Int32.ofInt (D : Int))), (2, .int (Int32.ofInt 0)), (3, .int (Int32.ofInt (cnt : Int))), (4, .int (Int32.ofInt (400 + (i : Int)))), (5, .int (Int32.ofInt (400 + (n : Int)))), (0, .ref 165)]) (st' := [.int (Int32.ofInt (-1))]) 1 rfl ?_
                        first
                          | exact xr_retI2 rfl rfl (hbe (by omega))
                          | exact xr_retI2 rfl rfl (hbo (by omega) (by omega))
                          | (exfalso; omega)
                    · refine xr_steps (pc' := 276) (L' := [(6, .int (Int32.ofInt (xat n f i))), (1, .int (Int32.ofInt (D : Int))), (2, .int (Int32.ofInt 0)), (3, .int (Int32.ofInt (cnt : Int))), (4, .int (Int32.ofInt (400 + (i : Int)))), (5, .int (Int32.ofInt (400 + (n : Int)))), (0, .ref 165)]) (st' := [.int (Int32.ofInt 123), .int (Int32.ofInt (xat n f i))]) 2 rfl ?_
                      refine xr_icmp_ne rfl (by omega) (by omega) (fun z76 => ?_) (fun z76 => ?_)
                      · refine xr_steps (pc' := 329) (L' := [(6, .int (Int32.ofInt (xat n f i))), (1, .int (Int32.ofInt (D : Int))), (2, .int (Int32.ofInt 0)), (3, .int (Int32.ofInt (cnt : Int))), (4, .int (Int32.ofInt (400 + (i : Int)))), (5, .int (Int32.ofInt (400 + (n : Int)))), (0, .ref 165)]) (st' := [.int (Int32.ofInt (400 + (i : Int))), .ref 165]) 2 rfl ?_
                        refine xr_call (q := (.invokevirtual 118, 3, 211, 2)) (av := [.ref 165, .int (Int32.ofInt (400 + (i : Int)))]) (rest := []) rfl rfl (by decide) rfl (ym_rcv hA rfl) (Nat.le_of_ble_eq_true rfl) (mo_211 hA hx (by omega)) ?_
                        rintro _ _ ⟨r, ⟨rfl, eA⟩, hr⟩
                        rw [eA]
                        clear eA
                        have hr32 : -1 ≤ r ∧ r ≤ 4000 := by
                          rcases hr with ⟨kd, ls, q, h1, h2⟩ | ⟨-, h2⟩
                          · have h3 := hpq kd ls q h1
                            omega
                          · omega
                        refine xr_steps (pc' := 336) (L' := [(4, .int (Int32.ofInt r)), (6, .int (Int32.ofInt (xat n f i))), (1, .int (Int32.ofInt (D : Int))), (2, .int (Int32.ofInt 0)), (3, .int (Int32.ofInt (cnt : Int))), (5, .int (Int32.ofInt (400 + (n : Int)))), (0, .ref 165)]) (st' := [.int (Int32.ofInt r)]) 2 rfl ?_
                        refine xr_if_ge rfl (by omega) (fun z77 => ?_) (fun z77 => ?_)
                        · refine xr_iinc (L' := [(3, .int (Int32.ofInt ((cnt : Int) + 1))), (4, .int (Int32.ofInt r)), (6, .int (Int32.ofInt (xat n f i))), (1, .int (Int32.ofInt (D : Int))), (2, .int (Int32.ofInt 0)), (5, .int (Int32.ofInt (400 + (n : Int)))), (0, .ref 165)]) rfl rfl rfl ?_
                          refine xr_steps (pc' := 21) (L' := [(2, .int (Int32.ofInt 1)), (3, .int (Int32.ofInt ((cnt : Int) + 1))), (4, .int (Int32.ofInt r)), (6, .int (Int32.ofInt (xat n f i))), (1, .int (Int32.ofInt (D : Int))), (5, .int (Int32.ofInt (400 + (n : Int)))), (0, .ref 165)]) (st' := []) 3 rfl ?_
                          refine xr_loc (L := [(1, .int (Int32.ofInt (D : Int))), (2, .int (Int32.ofInt 1)), (3, .int (Int32.ofInt ((cnt : Int) + 1))), (4, .int (Int32.ofInt r)), (5, .int (Int32.ofInt (400 + (n : Int)))), (0, .ref 165)]) (show [1, 2, 3, 4, 5, 0].Nodup by decide) ⟨rfl, rfl, rfl, rfl, rfl, rfl, trivial⟩ ?_
                          obtain ⟨kd, ls, q, h1, h2⟩ : ∃ (kd : Nat) (ls : List Int) (q : Nat), xpl (ye n f) i = some (kd, ls, q) ∧ r = 400 + (q : Int) := by
                            rcases hr with h | ⟨-, h⟩
                            · exact h
                            · omega
                          rw [h2, show (cnt : Int) + 1 = ((cnt + 1 : Nat) : Int) by omega]
                          exact hleaf kd ls q (by omega) (by omega) h1
                        · refine xr_steps (pc' := 340) (L' := [(4, .int (Int32.ofInt r)), (6, .int (Int32.ofInt (xat n f i))), (1, .int (Int32.ofInt (D : Int))), (2, .int (Int32.ofInt 0)), (3, .int (Int32.ofInt (cnt : Int))), (5, .int (Int32.ofInt (400 + (n : Int)))), (0, .ref 165)]) (st' := [.int (Int32.ofInt (-1))]) 1 rfl ?_
                          refine xr_retI2 rfl rfl (hbl (by omega) (by omega) ?_)
                          rcases hr with ⟨kd, ls, q, h1, h2⟩ | ⟨h1, -⟩
                          · omega
                          · exact h1
                      · refine xr_steps (pc' := 281) (L' := [(6, .int (Int32.ofInt (xat n f i))), (1, .int (Int32.ofInt (D : Int))), (2, .int (Int32.ofInt 0)), (3, .int (Int32.ofInt (cnt : Int))), (4, .int (Int32.ofInt (400 + (i : Int)))), (5, .int (Int32.ofInt (400 + (n : Int)))), (0, .ref 165)]) (st' := [.int (Int32.ofInt 5), .int (Int32.ofInt (D : Int))]) 2 rfl ?_
                        refine xr_icmp_ne rfl (by omega) (by omega) (fun z78 => ?_) (fun z78 => ?_)
                        · refine xr_steps (pc' := 287) (L' := [(6, .int (Int32.ofInt (xat n f i))), (1, .int (Int32.ofInt (D : Int))), (2, .int (Int32.ofInt 0)), (3, .int (Int32.ofInt (cnt : Int))), (4, .int (Int32.ofInt (400 + (i : Int)))), (5, .int (Int32.ofInt (400 + (n : Int)))), (0, .ref 165)]) (st' := [.ref 165]) 1 rfl ?_
                          refine xr_getf (v := .ref 178) rfl (ym_165 hA) rfl ?_
                          refine xr_steps (pc' := 293) (L' := [(6, .int (Int32.ofInt (xat n f i))), (1, .int (Int32.ofInt (D : Int))), (2, .int (Int32.ofInt 0)), (3, .int (Int32.ofInt (cnt : Int))), (4, .int (Int32.ofInt (400 + (i : Int)))), (5, .int (Int32.ofInt (400 + (n : Int)))), (0, .ref 165)]) (st' := [.int (Int32.ofInt (xat n f i)), .int (Int32.ofInt (D : Int)), .ref 178]) 2 rfl ?_
                          refine ym_castore hA rfl rfl (by decide) (by omega) (by omega) (by omega) ?_
                          rw [show (D : Int).toNat = D by omega]
                          refine xr_steps (pc' := 295) (L' := [(6, .int (Int32.ofInt (xat n f i))), (1, .int (Int32.ofInt (D : Int))), (2, .int (Int32.ofInt 0)), (3, .int (Int32.ofInt (cnt : Int))), (4, .int (Int32.ofInt (400 + (i : Int)))), (5, .int (Int32.ofInt (400 + (n : Int)))), (0, .ref 165)]) (st' := [.ref 165]) 1 rfl ?_
                          refine xr_getf (v := .ref 179) rfl (ym_165 hA) rfl ?_
                          refine xr_steps (pc' := 300) (L' := [(6, .int (Int32.ofInt (xat n f i))), (1, .int (Int32.ofInt (D : Int))), (2, .int (Int32.ofInt 0)), (3, .int (Int32.ofInt (cnt : Int))), (4, .int (Int32.ofInt (400 + (i : Int)))), (5, .int (Int32.ofInt (400 + (n : Int)))), (0, .ref 165)]) (st' := [.int (Int32.ofInt 0), .int (Int32.ofInt (D : Int)), .ref 179]) 2 rfl ?_
                          refine ym_iastore hA rfl rfl (by decide) (by omega) (by omega) ?_
                          rw [show (D : Int).toNat = D by omega]
                          refine xr_iinc (L' := [(1, .int (Int32.ofInt ((D : Int) + 1))), (6, .int (Int32.ofInt (xat n f i))), (2, .int (Int32.ofInt 0)), (3, .int (Int32.ofInt (cnt : Int))), (4, .int (Int32.ofInt (400 + (i : Int)))), (5, .int (Int32.ofInt (400 + (n : Int)))), (0, .ref 165)]) rfl rfl rfl ?_
                          refine xr_iinc (L' := [(3, .int (Int32.ofInt ((cnt : Int) + 1))), (1, .int (Int32.ofInt ((D : Int) + 1))), (6, .int (Int32.ofInt (xat n f i))), (2, .int (Int32.ofInt 0)), (4, .int (Int32.ofInt (400 + (i : Int)))), (5, .int (Int32.ofInt (400 + (n : Int)))), (0, .ref 165)]) rfl rfl rfl ?_
                          refine xr_steps (pc' := 311) (L' := [(3, .int (Int32.ofInt ((cnt : Int) + 1))), (1, .int (Int32.ofInt ((D : Int) + 1))), (6, .int (Int32.ofInt (xat n f i))), (2, .int (Int32.ofInt 0)), (4, .int (Int32.ofInt (400 + (i : Int)))), (5, .int (Int32.ofInt (400 + (n : Int)))), (0, .ref 165)]) (st' := [.int (Int32.ofInt 91), .int (Int32.ofInt (xat n f i))]) 2 rfl ?_
                          refine xr_icmp_ne rfl (by omega) (by omega) (fun z79 => ?_) (fun z79 => ?_)
                          · refine xr_steps (pc' := 320) (L' := [(2, .int (Int32.ofInt 3)), (3, .int (Int32.ofInt ((cnt : Int) + 1))), (1, .int (Int32.ofInt ((D : Int) + 1))), (6, .int (Int32.ofInt (xat n f i))), (4, .int (Int32.ofInt (400 + (i : Int)))), (5, .int (Int32.ofInt (400 + (n : Int)))), (0, .ref 165)]) (st' := []) 2 rfl ?_
                            refine xr_iinc (L' := [(4, .int (Int32.ofInt ((400 + (i : Int)) + 1))), (2, .int (Int32.ofInt 3)), (3, .int (Int32.ofInt ((cnt : Int) + 1))), (1, .int (Int32.ofInt ((D : Int) + 1))), (6, .int (Int32.ofInt (xat n f i))), (5, .int (Int32.ofInt (400 + (n : Int)))), (0, .ref 165)]) rfl rfl rfl ?_
                            refine xr_steps (pc' := 21) (L' := [(4, .int (Int32.ofInt ((400 + (i : Int)) + 1))), (2, .int (Int32.ofInt 3)), (3, .int (Int32.ofInt ((cnt : Int) + 1))), (1, .int (Int32.ofInt ((D : Int) + 1))), (6, .int (Int32.ofInt (xat n f i))), (5, .int (Int32.ofInt (400 + (n : Int)))), (0, .ref 165)]) (st' := []) 2 rfl ?_
                            refine xr_loc (L := [(1, .int (Int32.ofInt ((D : Int) + 1))), (2, .int (Int32.ofInt 3)), (3, .int (Int32.ofInt ((cnt : Int) + 1))), (4, .int (Int32.ofInt ((400 + (i : Int)) + 1))), (5, .int (Int32.ofInt (400 + (n : Int)))), (0, .ref 165)]) (show [1, 2, 3, 4, 5, 0].Nodup by decide) ⟨rfl, rfl, rfl, rfl, rfl, rfl, trivial⟩ ?_
                            rw [show 400 + (i : Int) + 1 = 400 + ((i + 1 : Nat) : Int) by omega]
                            have hv : xat n f i = 123 := by omega
                            rw [show (D : Int) + 1 = ((D + 1 : Nat) : Int) by omega, show (cnt : Int) + 1 = ((cnt + 1 : Nat) : Int) by omega, hv]
                            exact hopo (by omega) (by omega)
                          · refine xr_steps (pc' := 320) (L' := [(2, .int (Int32.ofInt 2)), (3, .int (Int32.ofInt ((cnt : Int) + 1))), (1, .int (Int32.ofInt ((D : Int) + 1))), (6, .int (Int32.ofInt (xat n f i))), (4, .int (Int32.ofInt (400 + (i : Int)))), (5, .int (Int32.ofInt (400 + (n : Int)))), (0, .ref 165)]) (st' := []) 3 rfl ?_
                            refine xr_iinc (L' := [(4, .int (Int32.ofInt ((400 + (i : Int)) + 1))), (2, .int (Int32.ofInt 2)), (3, .int (Int32.ofInt ((cnt : Int) + 1))), (1, .int (Int32.ofInt ((D : Int) + 1))), (6, .int (Int32.ofInt (xat n f i))), (5, .int (Int32.ofInt (400 + (n : Int)))), (0, .ref 165)]) rfl rfl rfl ?_
                            refine xr_steps (pc' := 21) (L' := [(4, .int (Int32.ofInt ((400 + (i : Int)) + 1))), (2, .int (Int32.ofInt 2)), (3, .int (Int32.ofInt ((cnt : Int) + 1))), (1, .int (Int32.ofInt ((D : Int) + 1))), (6, .int (Int32.ofInt (xat n f i))), (5, .int (Int32.ofInt (400 + (n : Int)))), (0, .ref 165)]) (st' := []) 2 rfl ?_
                            refine xr_loc (L := [(1, .int (Int32.ofInt ((D : Int) + 1))), (2, .int (Int32.ofInt 2)), (3, .int (Int32.ofInt ((cnt : Int) + 1))), (4, .int (Int32.ofInt ((400 + (i : Int)) + 1))), (5, .int (Int32.ofInt (400 + (n : Int)))), (0, .ref 165)]) (show [1, 2, 3, 4, 5, 0].Nodup by decide) ⟨rfl, rfl, rfl, rfl, rfl, rfl, trivial⟩ ?_
                            rw [show 400 + (i : Int) + 1 = 400 + ((i + 1 : Nat) : Int) by omega]
                            have hv : xat n f i = 91 := by omega
                            rw [show (D : Int) + 1 = ((D + 1 : Nat) : Int) by omega, show (cnt : Int) + 1 = ((cnt + 1 : Nat) : Int) by omega, hv]
                            exact hopa (by omega) (by omega)
                        · refine xr_steps (pc' := 285) (L' := [(6, .int (Int32.ofInt (xat n f i))), (1, .int (Int32.ofInt (D : Int))), (2, .int (Int32.ofInt 0)), (3, .int (Int32.ofInt (cnt : Int))), (4, .int (Int32.ofInt (400 + (i : Int)))), (5, .int (Int32.ofInt (400 + (n : Int)))), (0, .ref 165)]) (st' := [.int (Int32.ofInt (-1))]) 1 rfl ?_
                          first
                            | exact xr_retI2 rfl rfl (hbe (by omega))
                            | exact xr_retI2 rfl rfl (hbo (by omega) (by omega))
                            | (exfalso; omega)
                  · exfalso; omega
                · exfalso; omega
              · exfalso; omega
theorem mo_208v2 (hA : 194 ≤ A.1) (hx : xtx s T n f) (hcn : cnt ≤ 1000) (hi : i ≤ 1000) (hD : D ≤ 5) (h93 : ¬ ye n f i = 93) (hpq : ∀ (kd : Nat) (ls : List Int) (q : Nat), xpl (ye n f) i = some (kd, ls, q) → q ≤ 100) (hleaf : ∀ (kd : Nat) (ls : List Int) (q : Nat), ¬ ye n f i = 91 → ¬ ye n f i = 123 → xpl (ye n f) i = some (kd, ls, q) → xr_ok (xt_G w) (d + 1 + 1 + 1) 208 21 [(1, .int (Int32.ofInt (D : Int))), (2, .int (Int32.ofInt 1)), (3, .int (Int32.ofInt ((cnt + 1 : Nat) : Int))), (4, .int (Int32.ofInt (400 + (q : Int)))), (5, .int (Int32.ofInt (400 + (n : Int)))), (0, .ref 165)] [] (ym A s T) Q) (hbl : ¬ ye n f i = 91 → ¬ ye n f i = 123 → xpl (ye n f) i = none → Q (.inl (some (.int (Int32.ofInt (-1))))) (ym A s T)) (hbe : n ≤ i → Q (.inl (some (.int (Int32.ofInt (-1))))) (ym A s T)) (hbo : (ye n f i = 91 ∨ ye n f i = 123) → D = 5 → Q (.inl (some (.int (Int32.ofInt (-1))))) (ym A s T)) (hopa : ye n f i = 91 → D < 5 → xr_ok (xt_G w) (d + 1 + 1 + 1) 208 21 [(1, .int (Int32.ofInt ((D + 1 : Nat) : Int))), (2, .int (Int32.ofInt 2)), (3, .int (Int32.ofInt ((cnt + 1 : Nat) : Int))), (4, .int (Int32.ofInt (400 + ((i + 1 : Nat) : Int)))), (5, .int (Int32.ofInt (400 + (n : Int)))), (0, .ref 165)] [] (ym A s (va_up (va_up T 178 (va_up (T 178) D 91)) 179 (va_up ((va_up T 178 (va_up (T 178) D 91)) 179) D 0))) Q) (hopo : ye n f i = 123 → D < 5 → xr_ok (xt_G w) (d + 1 + 1 + 1) 208 21 [(1, .int (Int32.ofInt ((D + 1 : Nat) : Int))), (2, .int (Int32.ofInt 3)), (3, .int (Int32.ofInt ((cnt + 1 : Nat) : Int))), (4, .int (Int32.ofInt (400 + ((i + 1 : Nat) : Int)))), (5, .int (Int32.ofInt (400 + (n : Int)))), (0, .ref 165)] [] (ym A s (va_up (va_up T 178 (va_up (T 178) D 123)) 179 (va_up ((va_up T 178 (va_up (T 178) D 123)) 179) D 0))) Q) : xr_ok (xt_G w) (d + 1 + 1 + 1) 208 21 [(1, .int (Int32.ofInt (D : Int))), (2, .int (Int32.ofInt 2)), (3, .int (Int32.ofInt (cnt : Int))), (4, .int (Int32.ofInt (400 + (i : Int)))), (5, .int (Int32.ofInt (400 + (n : Int)))), (0, .ref 165)] [] (ym A s T) Q := by
  have hn := hx.2.1
  have hye := xtx_ye hx i
  refine xr_steps (pc' := 25) (L' := [(1, .int (Int32.ofInt (D : Int))), (2, .int (Int32.ofInt 2)), (3, .int (Int32.ofInt (cnt : Int))), (4, .int (Int32.ofInt (400 + (i : Int)))), (5, .int (Int32.ofInt (400 + (n : Int)))), (0, .ref 165)]) (st' := [.int (Int32.ofInt (400 + (n : Int))), .int (Int32.ofInt (400 + (i : Int)))]) 2 rfl ?_
  refine xr_icmp_ge rfl (by omega) (by omega) (fun z31 => ?_) (fun z31 => ?_)
  · refine xr_steps (pc' := 350) (L' := [(1, .int (Int32.ofInt (D : Int))), (2, .int (Int32.ofInt 2)), (3, .int (Int32.ofInt (cnt : Int))), (4, .int (Int32.ofInt (400 + (i : Int)))), (5, .int (Int32.ofInt (400 + (n : Int)))), (0, .ref 165)]) (st' := [.int (Int32.ofInt (D : Int))]) 1 rfl ?_
    refine xr_if_ne rfl (by omega) (fun z32 => ?_) (fun z32 => ?_)
    · refine xr_steps (pc' := 363) (L' := [(1, .int (Int32.ofInt (D : Int))), (2, .int (Int32.ofInt 2)), (3, .int (Int32.ofInt (cnt : Int))), (4, .int (Int32.ofInt (400 + (i : Int)))), (5, .int (Int32.ofInt (400 + (n : Int)))), (0, .ref 165)]) (st' := [.int (Int32.ofInt (-1))]) 1 rfl ?_
      first
        | exact xr_retI2 rfl rfl (hbe (by omega))
        | exact xr_retI2 rfl rfl (hbo (by omega) (by omega))
        | (exfalso; omega)
    · refine xr_steps (pc' := 355) (L' := [(1, .int (Int32.ofInt (D : Int))), (2, .int (Int32.ofInt 2)), (3, .int (Int32.ofInt (cnt : Int))), (4, .int (Int32.ofInt (400 + (i : Int)))), (5, .int (Int32.ofInt (400 + (n : Int)))), (0, .ref 165)]) (st' := [.int (Int32.ofInt 1), .int (Int32.ofInt 2)]) 2 rfl ?_
      refine xr_icmp_ne rfl (by omega) (by omega) (fun z33 => ?_) (fun z33 => ?_)
      · refine xr_steps (pc' := 363) (L' := [(1, .int (Int32.ofInt (D : Int))), (2, .int (Int32.ofInt 2)), (3, .int (Int32.ofInt (cnt : Int))), (4, .int (Int32.ofInt (400 + (i : Int)))), (5, .int (Int32.ofInt (400 + (n : Int)))), (0, .ref 165)]) (st' := [.int (Int32.ofInt (-1))]) 1 rfl ?_
        first
          | exact xr_retI2 rfl rfl (hbe (by omega))
          | exact xr_retI2 rfl rfl (hbo (by omega) (by omega))
          | (exfalso; omega)
      · exfalso; omega
  · refine xr_steps (pc' := 31) (L' := [(1, .int (Int32.ofInt (D : Int))), (2, .int (Int32.ofInt 2)), (3, .int (Int32.ofInt (cnt : Int))), (4, .int (Int32.ofInt (400 + (i : Int)))), (5, .int (Int32.ofInt (400 + (n : Int)))), (0, .ref 165)]) (st' := [.int (Int32.ofInt (400 + (i : Int))), .ref 165]) 2 rfl ?_
    refine xr_call (q := (.invokevirtual 103, 3, 209, 2)) (av := [.ref 165, .int (Int32.ofInt (400 + (i : Int)))]) (rest := []) rfl rfl (by decide) rfl (ym_rcv hA rfl) (Nat.le_of_ble_eq_true rfl) (mo_209t (i := i) hA hx (by omega) (by omega)) ?_
    rintro _ _ ⟨rfl, eA⟩
    rw [eA]
    clear eA
    have hx34 := xtx_ye hx i
    refine xr_steps (pc' := 40) (L' := [(6, .int (Int32.ofInt (xat n f i))), (1, .int (Int32.ofInt (D : Int))), (2, .int (Int32.ofInt 2)), (3, .int (Int32.ofInt (cnt : Int))), (4, .int (Int32.ofInt (400 + (i : Int)))), (5, .int (Int32.ofInt (400 + (n : Int)))), (0, .ref 165)]) (st' := [.int (Int32.ofInt 93), .int (Int32.ofInt (xat n f i))]) 3 rfl ?_
    refine xr_icmp_ne rfl (by omega) (by omega) (fun z35 => ?_) (fun z35 => ?_)
    · refine xr_steps (pc' := 57) (L' := [(6, .int (Int32.ofInt (xat n f i))), (1, .int (Int32.ofInt (D : Int))), (2, .int (Int32.ofInt 2)), (3, .int (Int32.ofInt (cnt : Int))), (4, .int (Int32.ofInt (400 + (i : Int)))), (5, .int (Int32.ofInt (400 + (n : Int)))), (0, .ref 165)]) (st' := [.int (Int32.ofInt 125), .int (Int32.ofInt (xat n f i))]) 2 rfl ?_
      refine xr_icmp_ne rfl (by omega) (by omega) (fun z36 => ?_) (fun z36 => ?_)
      · refine xr_steps (pc' := 114) (L' := [(6, .int (Int32.ofInt (xat n f i))), (1, .int (Int32.ofInt (D : Int))), (2, .int (Int32.ofInt 2)), (3, .int (Int32.ofInt (cnt : Int))), (4, .int (Int32.ofInt (400 + (i : Int)))), (5, .int (Int32.ofInt (400 + (n : Int)))), (0, .ref 165)]) (st' := [.int (Int32.ofInt 1), .int (Int32.ofInt 2)]) 2 rfl ?_
        refine xr_icmp_ne rfl (by omega) (by omega) (fun z37 => ?_) (fun z37 => ?_)
        · refine xr_steps (pc' := 157) (L' := [(6, .int (Int32.ofInt (xat n f i))), (1, .int (Int32.ofInt (D : Int))), (2, .int (Int32.ofInt 2)), (3, .int (Int32.ofInt (cnt : Int))), (4, .int (Int32.ofInt (400 + (i : Int)))), (5, .int (Int32.ofInt (400 + (n : Int)))), (0, .ref 165)]) (st' := [.int (Int32.ofInt 2), .int (Int32.ofInt 2)]) 2 rfl ?_
          refine xr_icmp_le rfl (by omega) (by omega) (fun z38 => ?_) (fun z38 => ?_)
          · refine xr_steps (pc' := 269) (L' := [(6, .int (Int32.ofInt (xat n f i))), (1, .int (Int32.ofInt (D : Int))), (2, .int (Int32.ofInt 2)), (3, .int (Int32.ofInt (cnt : Int))), (4, .int (Int32.ofInt (400 + (i : Int)))), (5, .int (Int32.ofInt (400 + (n : Int)))), (0, .ref 165)]) (st' := [.int (Int32.ofInt 91), .int (Int32.ofInt (xat n f i))]) 2 rfl ?_
            refine xr_icmp_eq rfl (by omega) (by omega) (fun z39 => ?_) (fun z39 => ?_)
            · refine xr_steps (pc' := 281) (L' := [(6, .int (Int32.ofInt (xat n f i))), (1, .int (Int32.ofInt (D : Int))), (2, .int (Int32.ofInt 2)), (3, .int (Int32.ofInt (cnt : Int))), (4, .int (Int32.ofInt (400 + (i : Int)))), (5, .int (Int32.ofInt (400 + (n : Int)))), (0, .ref 165)]) (st' := [.int (Int32.ofInt 5), .int (Int32.ofInt (D : Int))]) 2 rfl ?_
              refine xr_icmp_ne rfl (by omega) (by omega) (fun z40 => ?_) (fun z40 => ?_)
              · refine xr_steps (pc' := 287) (L' := [(6, .int (Int32.ofInt (xat n f i))), (1, .int (Int32.ofInt (D : Int))), (2, .int (Int32.ofInt 2)), (3, .int (Int32.ofInt (cnt : Int))), (4, .int (Int32.ofInt (400 + (i : Int)))), (5, .int (Int32.ofInt (400 + (n : Int)))), (0, .ref 165)]) (st' := [.ref 165]) 1 rfl ?_
                refine xr_getf (v := .ref 178) rfl (ym_165 hA) rfl ?_
                refine xr_steps (pc' := 293) (L' := [(6, .int (Int32.ofInt (xat n f i))), (1, .int (Int32.ofInt (D : Int))), (2, .int (Int32.ofInt 2)), (3, .int (Int32.ofInt (cnt : Int))), (4, .int (Int32.ofInt (400 + (i : Int)))), (5, .int (Int32.ofInt (400 + (n : Int)))), (0, .ref 165)]) (st' := [.int (Int32.ofInt (xat n f i)), .int (Int32.ofInt (D : Int)), .ref 178]) 2 rfl ?_
                refine ym_castore hA rfl rfl (by decide) (by omega) (by omega) (by omega) ?_
                rw [show (D : Int).toNat = D by omega]
                refine xr_steps (pc' := 295) (L' := [(6, .int (Int32.ofInt (xat n f i))), (1, .int (Int32.ofInt (D : Int))), (2, .int (Int32.ofInt 2)), (3, .int (Int32.ofInt (cnt : Int))), (4, .int (Int32.ofInt (400 + (i : Int)))), (5, .int (Int32.ofInt (400 + (n : Int)))), (0, .ref 165)]) (st' := [.ref 165]) 1 rfl ?_
                refine xr_getf (v := .ref 179) rfl (ym_165 hA) rfl ?_
                refine xr_steps (pc' := 300) (L' := [(6, .int (Int32.ofInt (xat n f i))), (1, .int (Int32.ofInt (D : Int))), (2, .int (Int32.ofInt 2)), (3, .int (Int32.ofInt (cnt : Int))), (4, .int (Int32.ofInt (400 + (i : Int)))), (5, .int (Int32.ofInt (400 + (n : Int)))), (0, .ref 165)]) (st' := [.int (Int32.ofInt 0), .int (Int32.ofInt (D : Int)), .ref 179]) 2 rfl ?_
                refine ym_iastore hA rfl rfl (by decide) (by omega) (by omega) ?_
                rw [show (D : Int).toNat = D by omega]
                refine xr_iinc (L' := [(1, .int (Int32.ofInt ((D : Int) + 1))), (6, .int (Int32.ofInt (xat n f i))), (2, .int (Int32.ofInt 2)), (3, .int (Int32.ofInt (cnt : Int))), (4, .int (Int32.ofInt (400 + (i : Int)))), (5, .int (Int32.ofInt (400 + (n : Int)))), (0, .ref 165)]) rfl rfl rfl ?_
                refine xr_iinc (L' := [(3, .int (Int32.ofInt ((cnt : Int) + 1))), (1, .int (Int32.ofInt ((D : Int) + 1))), (6, .int (Int32.ofInt (xat n f i))), (2, .int (Int32.ofInt 2)), (4, .int (Int32.ofInt (400 + (i : Int)))), (5, .int (Int32.ofInt (400 + (n : Int)))), (0, .ref 165)]) rfl rfl rfl ?_
                refine xr_steps (pc' := 311) (L' := [(3, .int (Int32.ofInt ((cnt : Int) + 1))), (1, .int (Int32.ofInt ((D : Int) + 1))), (6, .int (Int32.ofInt (xat n f i))), (2, .int (Int32.ofInt 2)), (4, .int (Int32.ofInt (400 + (i : Int)))), (5, .int (Int32.ofInt (400 + (n : Int)))), (0, .ref 165)]) (st' := [.int (Int32.ofInt 91), .int (Int32.ofInt (xat n f i))]) 2 rfl ?_
                refine xr_icmp_ne rfl (by omega) (by omega) (fun z41 => ?_) (fun z41 => ?_)
                · refine xr_steps (pc' := 320) (L' := [(2, .int (Int32.ofInt 3)), (3, .int (Int32.ofInt ((cnt : Int) + 1))), (1, .int (Int32.ofInt ((D : Int) + 1))), (6, .int (Int32.ofInt (xat n f i))), (4, .int (Int32.ofInt (400 + (i : Int)))), (5, .int (Int32.ofInt (400 + (n : Int)))), (0, .ref 165)]) (st' := []) 2 rfl ?_
                  refine xr_iinc (L' := [(4, .int (Int32.ofInt ((400 + (i : Int)) + 1))), (2, .int (Int32.ofInt 3)), (3, .int (Int32.ofInt ((cnt : Int) + 1))), (1, .int (Int32.ofInt ((D : Int) + 1))), (6, .int (Int32.ofInt (xat n f i))), (5, .int (Int32.ofInt (400 + (n : Int)))), (0, .ref 165)]) rfl rfl rfl ?_
                  refine xr_steps (pc' := 21) (L' := [(4, .int (Int32.ofInt ((400 + (i : Int)) + 1))), (2, .int (Int32.ofInt 3)), (3, .int (Int32.ofInt ((cnt : Int) + 1))), (1, .int (Int32.ofInt ((D : Int) + 1))), (6, .int (Int32.ofInt (xat n f i))), (5, .int (Int32.ofInt (400 + (n : Int)))), (0, .ref 165)]) (st' := []) 2 rfl ?_
                  refine xr_loc (L := [(1, .int (Int32.ofInt ((D : Int) + 1))), (2, .int (Int32.ofInt 3)), (3, .int (Int32.ofInt ((cnt : Int) + 1))), (4, .int (Int32.ofInt ((400 + (i : Int)) + 1))), (5, .int (Int32.ofInt (400 + (n : Int)))), (0, .ref 165)]) (show [1, 2, 3, 4, 5, 0].Nodup by decide) ⟨rfl, rfl, rfl, rfl, rfl, rfl, trivial⟩ ?_
                  rw [show 400 + (i : Int) + 1 = 400 + ((i + 1 : Nat) : Int) by omega]
                  have hv : xat n f i = 123 := by omega
                  rw [show (D : Int) + 1 = ((D + 1 : Nat) : Int) by omega, show (cnt : Int) + 1 = ((cnt + 1 : Nat) : Int) by omega, hv]
                  exact hopo (by omega) (by omega)
                · refine xr_steps (pc' := 320) (L' := [(2, .int (Int32.ofInt 2)), (3, .int (Int32.ofInt ((cnt : Int) + 1))), (1, .int (Int32.ofInt ((D : Int) + 1))), (6, .int (Int32.ofInt (xat n f i))), (4, .int (Int32.ofInt (400 + (i : Int)))), (5, .int (Int32.ofInt (400 + (n : Int)))), (0, .ref 165)]) (st' := []) 3 rfl ?_
                  refine xr_iinc (L' := [(4, .int (Int32.ofInt ((400 + (i : Int)) + 1))), (2, .int (Int32.ofInt 2)), (3, .int (Int32.ofInt ((cnt : Int) + 1))), (1, .int (Int32.ofInt ((D : Int) + 1))), (6, .int (Int32.ofInt (xat n f i))), (5, .int (Int32.ofInt (400 + (n : Int)))), (0, .ref 165)]) rfl rfl rfl ?_
                  refine xr_steps (pc' := 21) (L' := [(4, .int (Int32.ofInt ((400 + (i : Int)) + 1))), (2, .int (Int32.ofInt 2)), (3, .int (Int32.ofInt ((cnt : Int) + 1))), (1, .int (Int32.ofInt ((D : Int) + 1))), (6, .int (Int32.ofInt (xat n f i))), (5, .int (Int32.ofInt (400 + (n : Int)))), (0, .ref 165)]) (st' := []) 2 rfl ?_
                  refine xr_loc (L := [(1, .int (Int32.ofInt ((D : Int) + 1))), (2, .int (Int32.ofInt 2)), (3, .int (Int32.ofInt ((cnt : Int) + 1))), (4, .int (Int32.ofInt ((400 + (i : Int)) + 1))), (5, .int (Int32.ofInt (400 + (n : Int)))), (0, .ref 165)]) (show [1, 2, 3, 4, 5, 0].Nodup by decide) ⟨rfl, rfl, rfl, rfl, rfl, rfl, trivial⟩ ?_
                  rw [show 400 + (i : Int) + 1 = 400 + ((i + 1 : Nat) : Int) by omega]
                  have hv : xat n f i = 91 := by omega
                  rw [show (D : Int) + 1 = ((D + 1 : Nat) : Int) by omega, show (cnt : Int) + 1 = ((cnt + 1 : Nat) : Int) by omega, hv]
                  exact hopa (by omega) (by omega)
              · refine xr_steps (pc' := 285) (L' := [(6, .int (Int32.ofInt (xat n f i))), (1, .int (Int32.ofInt (D : Int))), (2, .int (Int32.ofInt 2)), (3, .int (Int32.ofInt (cnt : Int))), (4, .int (Int32.ofInt (400 + (i : Int)))), (5, .int (Int32.ofInt (400 + (n : Int)))), (0, .ref 165)]) (st' := [.int (Int32.ofInt (-1))]) 1 rfl ?_
                first
                  | exact xr_retI2 rfl rfl (hbe (by omega))
                  | exact xr_retI2 rfl rfl (hbo (by omega) (by omega))
                  | (exfalso; omega)
            · refine xr_steps (pc' := 276) (L' := [(6, .int (Int32.ofInt (xat n f i))), (1, .int (Int32.ofInt (D : Int))), (2, .int (Int32.ofInt 2)), (3, .int (Int32.ofInt (cnt : Int))), (4, .int (Int32.ofInt (400 + (i : Int)))), (5, .int (Int32.ofInt (400 + (n : Int)))), (0, .ref 165)]) (st' := [.int (Int32.ofInt 123), .int (Int32.ofInt (xat n f i))]) 2 rfl ?_
              refine xr_icmp_ne rfl (by omega) (by omega) (fun z42 => ?_) (fun z42 => ?_)
              · refine xr_steps (pc' := 329) (L' := [(6, .int (Int32.ofInt (xat n f i))), (1, .int (Int32.ofInt (D : Int))), (2, .int (Int32.ofInt 2)), (3, .int (Int32.ofInt (cnt : Int))), (4, .int (Int32.ofInt (400 + (i : Int)))), (5, .int (Int32.ofInt (400 + (n : Int)))), (0, .ref 165)]) (st' := [.int (Int32.ofInt (400 + (i : Int))), .ref 165]) 2 rfl ?_
                refine xr_call (q := (.invokevirtual 118, 3, 211, 2)) (av := [.ref 165, .int (Int32.ofInt (400 + (i : Int)))]) (rest := []) rfl rfl (by decide) rfl (ym_rcv hA rfl) (Nat.le_of_ble_eq_true rfl) (mo_211 hA hx (by omega)) ?_
                rintro _ _ ⟨r, ⟨rfl, eA⟩, hr⟩
                rw [eA]
                clear eA
                have hr32 : -1 ≤ r ∧ r ≤ 4000 := by
                  rcases hr with ⟨kd, ls, q, h1, h2⟩ | ⟨-, h2⟩
                  · have h3 := hpq kd ls q h1
                    omega
                  · omega
                refine xr_steps (pc' := 336) (L' := [(4, .int (Int32.ofInt r)), (6, .int (Int32.ofInt (xat n f i))), (1, .int (Int32.ofInt (D : Int))), (2, .int (Int32.ofInt 2)), (3, .int (Int32.ofInt (cnt : Int))), (5, .int (Int32.ofInt (400 + (n : Int)))), (0, .ref 165)]) (st' := [.int (Int32.ofInt r)]) 2 rfl ?_
                refine xr_if_ge rfl (by omega) (fun z43 => ?_) (fun z43 => ?_)
                · refine xr_iinc (L' := [(3, .int (Int32.ofInt ((cnt : Int) + 1))), (4, .int (Int32.ofInt r)), (6, .int (Int32.ofInt (xat n f i))), (1, .int (Int32.ofInt (D : Int))), (2, .int (Int32.ofInt 2)), (5, .int (Int32.ofInt (400 + (n : Int)))), (0, .ref 165)]) rfl rfl rfl ?_
                  refine xr_steps (pc' := 21) (L' := [(2, .int (Int32.ofInt 1)), (3, .int (Int32.ofInt ((cnt : Int) + 1))), (4, .int (Int32.ofInt r)), (6, .int (Int32.ofInt (xat n f i))), (1, .int (Int32.ofInt (D : Int))), (5, .int (Int32.ofInt (400 + (n : Int)))), (0, .ref 165)]) (st' := []) 3 rfl ?_
                  refine xr_loc (L := [(1, .int (Int32.ofInt (D : Int))), (2, .int (Int32.ofInt 1)), (3, .int (Int32.ofInt ((cnt : Int) + 1))), (4, .int (Int32.ofInt r)), (5, .int (Int32.ofInt (400 + (n : Int)))), (0, .ref 165)]) (show [1, 2, 3, 4, 5, 0].Nodup by decide) ⟨rfl, rfl, rfl, rfl, rfl, rfl, trivial⟩ ?_
                  obtain ⟨kd, ls, q, h1, h2⟩ : ∃ (kd : Nat) (ls : List Int) (q : Nat), xpl (ye n f) i = some (kd, ls, q) ∧ r = 400 + (q : Int) := by
                    rcases hr with h | ⟨-, h⟩
                    · exact h
                    · omega
                  rw [h2, show (cnt : Int) + 1 = ((cnt + 1 : Nat) : Int) by omega]
                  exact hleaf kd ls q (by omega) (by omega) h1
                · refine xr_steps (pc' := 340) (L' := [(4, .int (Int32.ofInt r)), (6, .int (Int32.ofInt (xat n f i))), (1, .int (Int32.ofInt (D : Int))), (2, .int (Int32.ofInt 2)), (3, .int (Int32.ofInt (cnt : Int))), (5, .int (Int32.ofInt (400 + (n : Int)))), (0, .ref 165)]) (st' := [.int (Int32.ofInt (-1))]) 1 rfl ?_
                  refine xr_retI2 rfl rfl (hbl (by omega) (by omega) ?_)
                  rcases hr with ⟨kd, ls, q, h1, h2⟩ | ⟨h1, -⟩
                  · omega
                  · exact h1
              · refine xr_steps (pc' := 281) (L' := [(6, .int (Int32.ofInt (xat n f i))), (1, .int (Int32.ofInt (D : Int))), (2, .int (Int32.ofInt 2)), (3, .int (Int32.ofInt (cnt : Int))), (4, .int (Int32.ofInt (400 + (i : Int)))), (5, .int (Int32.ofInt (400 + (n : Int)))), (0, .ref 165)]) (st' := [.int (Int32.ofInt 5), .int (Int32.ofInt (D : Int))]) 2 rfl ?_
                refine xr_icmp_ne rfl (by omega) (by omega) (fun z44 => ?_) (fun z44 => ?_)
                · refine xr_steps (pc' := 287) (L' := [(6, .int (Int32.ofInt (xat n f i))), (1, .int (Int32.ofInt (D : Int))), (2, .int (Int32.ofInt 2)), (3, .int (Int32.ofInt (cnt : Int))), (4, .int (Int32.ofInt (400 + (i : Int)))), (5, .int (Int32.ofInt (400 + (n : Int)))), (0, .ref 165)]) (st' := [.ref 165]) 1 rfl ?_
                  refine xr_getf (v := .ref 178) rfl (ym_165 hA) rfl ?_
                  refine xr_steps (pc' := 293) (L' := [(6, .int (Int32.ofInt (xat n f i))), (1, .int (Int32.ofInt (D : Int))), (2, .int (Int32.ofInt 2)), (3, .int (Int32.ofInt (cnt : Int))), (4, .int (Int32.ofInt (400 + (i : Int)))), (5, .int (Int32.ofInt (400 + (n : Int)))), (0, .ref 165)]) (st' := [.int (Int32.ofInt (xat n f i)), .int (Int32.ofInt (D : Int)), .ref 178]) 2 rfl ?_
                  refine ym_castore hA rfl rfl (by decide) (by omega) (by omega) (by omega) ?_
                  rw [show (D : Int).toNat = D by omega]
                  refine xr_steps (pc' := 295) (L' := [(6, .int (Int32.ofInt (xat n f i))), (1, .int (Int32.ofInt (D : Int))), (2, .int (Int32.ofInt 2)), (3, .int (Int32.ofInt (cnt : Int))), (4, .int (Int32.ofInt (400 + (i : Int)))), (5, .int (Int32.ofInt (400 + (n : Int)))), (0, .ref 165)]) (st' := [.ref 165]) 1 rfl ?_
                  refine xr_getf (v := .ref 179) rfl (ym_165 hA) rfl ?_
                  refine xr_steps (pc' := 300) (L' := [(6, .int (Int32.ofInt (xat n f i))), (1, .int (Int32.ofInt (D : Int))), (2, .int (Int32.ofInt 2)), (3, .int (Int32.ofInt (cnt : Int))), (4, .int (Int32.ofInt (400 + (i : Int)))), (5, .int (Int32.ofInt (400 + (n : Int)))), (0, .ref 165)]) (st' := [.int (Int32.ofInt 0), .int (Int32.ofInt (D : Int)), .ref 179]) 2 rfl ?_
                  refine ym_iastore hA rfl rfl (by decide) (by omega) (by omega) ?_
                  rw [show (D : Int).toNat = D by omega]
                  refine xr_iinc (L' := [(1, .int (Int32.ofInt ((D : Int) + 1))), (6, .int (Int32.ofInt (xat n f i))), (2, .int (Int32.ofInt 2)), (3, .int (Int32.ofInt (cnt : Int))), (4, .int (Int32.ofInt (400 + (i : Int)))), (5, .int (Int32.ofInt (400 + (n : Int)))), (0, .ref 165)]) rfl rfl rfl ?_
                  refine xr_iinc (L' := [(3, .int (Int32.ofInt ((cnt : Int) + 1))), (1, .int (Int32.ofInt ((D : Int) + 1))), (6, .int (Int32.ofInt (xat n f i))), (2, .int (Int32.ofInt 2)), (4, .int (Int32.ofInt (400 + (i : Int)))), (5, .int (Int32.ofInt (400 + (n : Int)))), (0, .ref 165)]) rfl rfl rfl ?_
                  refine xr_steps (pc' := 311) (L' := [(3, .int (Int32.ofInt ((cnt : Int) + 1))), (1, .int (Int32.ofInt ((D : Int) + 1))), (6, .int (Int32.ofInt (xat n f i))), (2, .int (Int32.ofInt 2)), (4, .int (Int32.ofInt (400 + (i : Int)))), (5, .int (Int32.ofInt (400 + (n : Int)))), (0, .ref 165)]) (st' := [.int (Int32.ofInt 91), .int (Int32.ofInt (xat n f i))]) 2 rfl ?_
                  refine xr_icmp_ne rfl (by omega) (by omega) (fun z45 => ?_) (fun z45 => ?_)
                  · refine xr_steps (pc' := 320) (L' := [(2, .int (Int32.ofInt 3)), (3, .int (Int32.ofInt ((cnt : Int) + 1))), (1, .int (Int32.ofInt ((D : Int) + 1))), (6, .int (Int32.ofInt (xat n f i))), (4, .int (Int32.ofInt (400 + (i : Int)))), (5, .int (Int32.ofInt (400 + (n : Int)))), (0, .ref 165)]) (st' := []) 2 rfl ?_
                    refine xr_iinc (L' := [(4, .int (Int32.ofInt ((400 + (i : Int)) + 1))), (2, .int (Int32.ofInt 3)), (3, .int (Int32.ofInt ((cnt : Int) + 1))), (1, .int (Int32.ofInt ((D : Int) + 1))), (6, .int (Int32.ofInt (xat n f i))), (5, .int (Int32.ofInt (400 + (n : Int)))), (0, .ref 165)]) rfl rfl rfl ?_
                    refine xr_steps (pc' := 21) (L' := [(4, .int (Int32.ofInt ((400 + (i : Int)) + 1))), (2, .int (Int32.ofInt 3)), (3, .int (Int32.ofInt ((cnt : Int) + 1))), (1, .int (Int32.ofInt ((D : Int) + 1))), (6, .int (Int32.ofInt (xat n f i))), (5, .int (Int32.ofInt (400 + (n : Int)))), (0, .ref 165)]) (st' := []) 2 rfl ?_
                    refine xr_loc (L := [(1, .int (Int32.ofInt ((D : Int) + 1))), (2, .int (Int32.ofInt 3)), (3, .int (Int32.ofInt ((cnt : Int) + 1))), (4, .int (Int32.ofInt ((400 + (i : Int)) + 1))), (5, .int (Int32.ofInt (400 + (n : Int)))), (0, .ref 165)]) (show [1, 2, 3, 4, 5, 0].Nodup by decide) ⟨rfl, rfl, rfl, rfl, rfl, rfl, trivial⟩ ?_
                    rw [show 400 + (i : Int) + 1 = 400 + ((i + 1 : Nat) : Int) by omega]
                    have hv : xat n f i = 123 := by omega
                    rw [show (D : Int) + 1 = ((D + 1 : Nat) : Int) by omega, show (cnt : Int) + 1 = ((cnt + 1 : Nat) : Int) by omega, hv]
                    exact hopo (by omega) (by omega)
                  · refine xr_steps (pc' := 320) (L' := [(2, .int (Int32.ofInt 2)), (3, .int (Int32.ofInt ((cnt : Int) + 1))), (1, .int (Int32.ofInt ((D : Int) + 1))), (6, .int (Int32.ofInt (xat n f i))), (4, .int (Int32.ofInt (400 + (i : Int)))), (5, .int (Int32.ofInt (400 + (n : Int)))), (0, .ref 165)]) (st' := []) 3 rfl ?_
                    refine xr_iinc (L' := [(4, .int (Int32.ofInt ((400 + (i : Int)) + 1))), (2, .int (Int32.ofInt 2)), (3, .int (Int32.ofInt ((cnt : Int) + 1))), (1, .int (Int32.ofInt ((D : Int) + 1))), (6, .int (Int32.ofInt (xat n f i))), (5, .int (Int32.ofInt (400 + (n : Int)))), (0, .ref 165)]) rfl rfl rfl ?_
                    refine xr_steps (pc' := 21) (L' := [(4, .int (Int32.ofInt ((400 + (i : Int)) + 1))), (2, .int (Int32.ofInt 2)), (3, .int (Int32.ofInt ((cnt : Int) + 1))), (1, .int (Int32.ofInt ((D : Int) + 1))), (6, .int (Int32.ofInt (xat n f i))), (5, .int (Int32.ofInt (400 + (n : Int)))), (0, .ref 165)]) (st' := []) 2 rfl ?_
                    refine xr_loc (L := [(1, .int (Int32.ofInt ((D : Int) + 1))), (2, .int (Int32.ofInt 2)), (3, .int (Int32.ofInt ((cnt : Int) + 1))), (4, .int (Int32.ofInt ((400 + (i : Int)) + 1))), (5, .int (Int32.ofInt (400 + (n : Int)))), (0, .ref 165)]) (show [1, 2, 3, 4, 5, 0].Nodup by decide) ⟨rfl, rfl, rfl, rfl, rfl, rfl, trivial⟩ ?_
                    rw [show 400 + (i : Int) + 1 = 400 + ((i + 1 : Nat) : Int) by omega]
                    have hv : xat n f i = 91 := by omega
                    rw [show (D : Int) + 1 = ((D + 1 : Nat) : Int) by omega, show (cnt : Int) + 1 = ((cnt + 1 : Nat) : Int) by omega, hv]
                    exact hopa (by omega) (by omega)
                · refine xr_steps (pc' := 285) (L' := [(6, .int (Int32.ofInt (xat n f i))), (1, .int (Int32.ofInt (D : Int))), (2, .int (Int32.ofInt 2)), (3, .int (Int32.ofInt (cnt : Int))), (4, .int (Int32.ofInt (400 + (i : Int)))), (5, .int (Int32.ofInt (400 + (n : Int)))), (0, .ref 165)]) (st' := [.int (Int32.ofInt (-1))]) 1 rfl ?_
                  first
                    | exact xr_retI2 rfl rfl (hbe (by omega))
                    | exact xr_retI2 rfl rfl (hbo (by omega) (by omega))
                    | (exfalso; omega)
          · exfalso; omega
        · exfalso; omega
      · refine xr_steps (pc' := 62) (L' := [(6, .int (Int32.ofInt (xat n f i))), (1, .int (Int32.ofInt (D : Int))), (2, .int (Int32.ofInt 2)), (3, .int (Int32.ofInt (cnt : Int))), (4, .int (Int32.ofInt (400 + (i : Int)))), (5, .int (Int32.ofInt (400 + (n : Int)))), (0, .ref 165)]) (st' := [.int (Int32.ofInt 1), .int (Int32.ofInt 2)]) 2 rfl ?_
        refine xr_icmp_eq rfl (by omega) (by omega) (fun z46 => ?_) (fun z46 => ?_)
        · exfalso; omega
        · refine xr_steps (pc' := 67) (L' := [(6, .int (Int32.ofInt (xat n f i))), (1, .int (Int32.ofInt (D : Int))), (2, .int (Int32.ofInt 2)), (3, .int (Int32.ofInt (cnt : Int))), (4, .int (Int32.ofInt (400 + (i : Int)))), (5, .int (Int32.ofInt (400 + (n : Int)))), (0, .ref 165)]) (st' := [.int (Int32.ofInt 3), .int (Int32.ofInt 2)]) 2 rfl ?_
          refine xr_icmp_ne rfl (by omega) (by omega) (fun z47 => ?_) (fun z47 => ?_)
          · refine xr_steps (pc' := 114) (L' := [(6, .int (Int32.ofInt (xat n f i))), (1, .int (Int32.ofInt (D : Int))), (2, .int (Int32.ofInt 2)), (3, .int (Int32.ofInt (cnt : Int))), (4, .int (Int32.ofInt (400 + (i : Int)))), (5, .int (Int32.ofInt (400 + (n : Int)))), (0, .ref 165)]) (st' := [.int (Int32.ofInt 1), .int (Int32.ofInt 2)]) 2 rfl ?_
            refine xr_icmp_ne rfl (by omega) (by omega) (fun z48 => ?_) (fun z48 => ?_)
            · refine xr_steps (pc' := 157) (L' := [(6, .int (Int32.ofInt (xat n f i))), (1, .int (Int32.ofInt (D : Int))), (2, .int (Int32.ofInt 2)), (3, .int (Int32.ofInt (cnt : Int))), (4, .int (Int32.ofInt (400 + (i : Int)))), (5, .int (Int32.ofInt (400 + (n : Int)))), (0, .ref 165)]) (st' := [.int (Int32.ofInt 2), .int (Int32.ofInt 2)]) 2 rfl ?_
              refine xr_icmp_le rfl (by omega) (by omega) (fun z49 => ?_) (fun z49 => ?_)
              · refine xr_steps (pc' := 269) (L' := [(6, .int (Int32.ofInt (xat n f i))), (1, .int (Int32.ofInt (D : Int))), (2, .int (Int32.ofInt 2)), (3, .int (Int32.ofInt (cnt : Int))), (4, .int (Int32.ofInt (400 + (i : Int)))), (5, .int (Int32.ofInt (400 + (n : Int)))), (0, .ref 165)]) (st' := [.int (Int32.ofInt 91), .int (Int32.ofInt (xat n f i))]) 2 rfl ?_
                refine xr_icmp_eq rfl (by omega) (by omega) (fun z50 => ?_) (fun z50 => ?_)
                · refine xr_steps (pc' := 281) (L' := [(6, .int (Int32.ofInt (xat n f i))), (1, .int (Int32.ofInt (D : Int))), (2, .int (Int32.ofInt 2)), (3, .int (Int32.ofInt (cnt : Int))), (4, .int (Int32.ofInt (400 + (i : Int)))), (5, .int (Int32.ofInt (400 + (n : Int)))), (0, .ref 165)]) (st' := [.int (Int32.ofInt 5), .int (Int32.ofInt (D : Int))]) 2 rfl ?_
                  refine xr_icmp_ne rfl (by omega) (by omega) (fun z51 => ?_) (fun z51 => ?_)
                  · refine xr_steps (pc' := 287) (L' := [(6, .int (Int32.ofInt (xat n f i))), (1, .int (Int32.ofInt (D : Int))), (2, .int (Int32.ofInt 2)), (3, .int (Int32.ofInt (cnt : Int))), (4, .int (Int32.ofInt (400 + (i : Int)))), (5, .int (Int32.ofInt (400 + (n : Int)))), (0, .ref 165)]) (st' := [.ref 165]) 1 rfl ?_
                    refine xr_getf (v := .ref 178) rfl (ym_165 hA) rfl ?_
                    refine xr_steps (pc' := 293) (L' := [(6, .int (Int32.ofInt (xat n f i))), (1, .int (Int32.ofInt (D : Int))), (2, .int (Int32.ofInt 2)), (3, .int (Int32.ofInt (cnt : Int))), (4, .int (Int32.ofInt (400 + (i : Int)))), (5, .int (Int32.ofInt (400 + (n : Int)))), (0, .ref 165)]) (st' := [.int (Int32.ofInt (xat n f i)), .int (Int32.ofInt (D : Int)), .ref 178]) 2 rfl ?_
                    refine ym_castore hA rfl rfl (by decide) (by omega) (by omega) (by omega) ?_
                    rw [show (D : Int).toNat = D by omega]
                    refine xr_steps (pc' := 295) (L' := [(6, .int (Int32.ofInt (xat n f i))), (1, .int (Int32.ofInt (D : Int))), (2, .int (Int32.ofInt 2)), (3, .int (Int32.ofInt (cnt : Int))), (4, .int (Int32.ofInt (400 + (i : Int)))), (5, .int (Int32.ofInt (400 + (n : Int)))), (0, .ref 165)]) (st' := [.ref 165]) 1 rfl ?_
                    refine xr_getf (v := .ref 179) rfl (ym_165 hA) rfl ?_
                    refine xr_steps (pc' := 300) (L' := [(6, .int (Int32.ofInt (xat n f i))), (1, .int (Int32.ofInt (D : Int))), (2, .int (Int32.ofInt 2)), (3, .int (Int32.ofInt (cnt : Int))), (4, .int (Int32.ofInt (400 + (i : Int)))), (5, .int (Int32.ofInt (400 + (n : Int)))), (0, .ref 165)]) (st' := [.int (Int32.ofInt 0), .int (Int32.ofInt (D : Int)), .ref 179]) 2 rfl ?_
                    refine ym_iastore hA rfl rfl (by decide) (by omega) (by omega) ?_
                    rw [show (D : Int).toNat = D by omega]
                    refine xr_iinc (L' := [(1, .int (Int32.ofInt ((D : Int) + 1))), (6, .int (Int32.ofInt (xat n f i))), (2, .int (Int32.ofInt 2)), (3, .int (Int32.ofInt (cnt : Int))), (4, .int (Int32.ofInt (400 + (i : Int)))), (5, .int (Int32.ofInt (400 + (n : Int)))), (0, .ref 165)]) rfl rfl rfl ?_
                    refine xr_iinc (L' := [(3, .int (Int32.ofInt ((cnt : Int) + 1))), (1, .int (Int32.ofInt ((D : Int) + 1))), (6, .int (Int32.ofInt (xat n f i))), (2, .int (Int32.ofInt 2)), (4, .int (Int32.ofInt (400 + (i : Int)))), (5, .int (Int32.ofInt (400 + (n : Int)))), (0, .ref 165)]) rfl rfl rfl ?_
                    refine xr_steps (pc' := 311) (L' := [(3, .int (Int32.ofInt ((cnt : Int) + 1))), (1, .int (Int32.ofInt ((D : Int) + 1))), (6, .int (Int32.ofInt (xat n f i))), (2, .int (Int32.ofInt 2)), (4, .int (Int32.ofInt (400 + (i : Int)))), (5, .int (Int32.ofInt (400 + (n : Int)))), (0, .ref 165)]) (st' := [.int (Int32.ofInt 91), .int (Int32.ofInt (xat n f i))]) 2 rfl ?_
                    refine xr_icmp_ne rfl (by omega) (by omega) (fun z52 => ?_) (fun z52 => ?_)
                    · refine xr_steps (pc' := 320) (L' := [(2, .int (Int32.ofInt 3)), (3, .int (Int32.ofInt ((cnt : Int) + 1))), (1, .int (Int32.ofInt ((D : Int) + 1))), (6, .int (Int32.ofInt (xat n f i))), (4, .int (Int32.ofInt (400 + (i : Int)))), (5, .int (Int32.ofInt (400 + (n : Int)))), (0, .ref 165)]) (st' := []) 2 rfl ?_
                      refine xr_iinc (L' := [(4, .int (Int32.ofInt ((400 + (i : Int)) + 1))), (2, .int (Int32.ofInt 3)), (3, .int (Int32.ofInt ((cnt : Int) + 1))), (1, .int (Int32.ofInt ((D : Int) + 1))), (6, .int (Int32.ofInt (xat n f i))), (5, .int (Int32.ofInt (400 + (n : Int)))), (0, .ref 165)]) rfl rfl rfl ?_
                      refine xr_steps (pc' := 21) (L' := [(4, .int (Int32.ofInt ((400 + (i : Int)) + 1))), (2, .int (Int32.ofInt 3)), (3, .int (Int32.ofInt ((cnt : Int) + 1))), (1, .int (Int32.ofInt ((D : Int) + 1))), (6, .int (Int32.ofInt (xat n f i))), (5, .int (Int32.ofInt (400 + (n : Int)))), (0, .ref 165)]) (st' := []) 2 rfl ?_
                      refine xr_loc (L := [(1, .int (Int32.ofInt ((D : Int) + 1))), (2, .int (Int32.ofInt 3)), (3, .int (Int32.ofInt ((cnt : Int) + 1))), (4, .int (Int32.ofInt ((400 + (i : Int)) + 1))), (5, .int (Int32.ofInt (400 + (n : Int)))), (0, .ref 165)]) (show [1, 2, 3, 4, 5, 0].Nodup by decide) ⟨rfl, rfl, rfl, rfl, rfl, rfl, trivial⟩ ?_
                      rw [show 400 + (i : Int) + 1 = 400 + ((i + 1 : Nat) : Int) by omega]
                      have hv : xat n f i = 123 := by omega
                      rw [show (D : Int) + 1 = ((D + 1 : Nat) : Int) by omega, show (cnt : Int) + 1 = ((cnt + 1 : Nat) : Int) by omega, hv]
                      exact hopo (by omega) (by omega)
                    · refine xr_steps (pc' := 320) (L' := [(2, .int (Int32.ofInt 2)), (3, .int (Int32.ofInt ((cnt : Int) + 1))), (1, .int (Int32.ofInt ((D : Int) + 1))), (6, .int (Int32.ofInt (xat n f i))), (4, .int (Int32.ofInt (400 + (i : Int)))), (5, .int (Int32.ofInt (400 + (n : Int)))), (0, .ref 165)]) (st' := []) 3 rfl ?_
                      refine xr_iinc (L' := [(4, .int (Int32.ofInt ((400 + (i : Int)) + 1))), (2, .int (Int32.ofInt 2)), (3, .int (Int32.ofInt ((cnt : Int) + 1))), (1, .int (Int32.ofInt ((D : Int) + 1))), (6, .int (Int32.ofInt (xat n f i))), (5, .int (Int32.ofInt (400 + (n : Int)))), (0, .ref 165)]) rfl rfl rfl ?_
                      refine xr_steps (pc' := 21) (L' := [(4, .int (Int32.ofInt ((400 + (i : Int)) + 1))), (2, .int (Int32.ofInt 2)), (3, .int (Int32.ofInt ((cnt : Int) + 1))), (1, .int (Int32.ofInt ((D : Int) + 1))), (6, .int (Int32.ofInt (xat n f i))), (5, .int (Int32.ofInt (400 + (n : Int)))), (0, .ref 165)]) (st' := []) 2 rfl ?_
                      refine xr_loc (L := [(1, .int (Int32.ofInt ((D : Int) + 1))), (2, .int (Int32.ofInt 2)), (3, .int (Int32.ofInt ((cnt : Int) + 1))), (4, .int (Int32.ofInt ((400 + (i : Int)) + 1))), (5, .int (Int32.ofInt (400 + (n : Int)))), (0, .ref 165)]) (show [1, 2, 3, 4, 5, 0].Nodup by decide) ⟨rfl, rfl, rfl, rfl, rfl, rfl, trivial⟩ ?_
                      rw [show 400 + (i : Int) + 1 = 400 + ((i + 1 : Nat) : Int) by omega]
                      have hv : xat n f i = 91 := by omega
                      rw [show (D : Int) + 1 = ((D + 1 : Nat) : Int) by omega, show (cnt : Int) + 1 = ((cnt + 1 : Nat) : Int) by omega, hv]
                      exact hopa (by omega) (by omega)
                  · refine xr_steps (pc' := 285) (L' := [(6, .int (Int32.ofInt (xat n f i))), (1, .int (Int32.ofInt (D : Int))), (2, .int (Int32.ofInt 2)), (3, .int (Int32.ofInt (cnt : Int))), (4, .int (Int32.ofInt (400 + (i : Int)))), (5, .int (Int32.ofInt (400 + (n : Int)))), (0, .ref 165)]) (st' := [.int (Int32.ofInt (-1))]) 1 rfl ?_
                    first
                      | exact xr_retI2 rfl rfl (hbe (by omega))
                      | exact xr_retI2 rfl rfl (hbo (by omega) (by omega))
                      | (exfalso; omega)
                · refine xr_steps (pc' := 276) (L' := [(6, .int (Int32.ofInt (xat n f i))), (1, .int (Int32.ofInt (D : Int))), (2, .int (Int32.ofInt 2)), (3, .int (Int32.ofInt (cnt : Int))), (4, .int (Int32.ofInt (400 + (i : Int)))), (5, .int (Int32.ofInt (400 + (n : Int)))), (0, .ref 165)]) (st' := [.int (Int32.ofInt 123), .int (Int32.ofInt (xat n f i))]) 2 rfl ?_
                  refine xr_icmp_ne rfl (by omega) (by omega) (fun z53 => ?_) (fun z53 => ?_)
                  · refine xr_steps (pc' := 329) (L' := [(6, .int (Int32.ofInt (xat n f i))), (1, .int (Int32.ofInt (D : Int))), (2, .int (Int32.ofInt 2)), (3, .int (Int32.ofInt (cnt : Int))), (4, .int (Int32.ofInt (400 + (i : Int)))), (5, .int (Int32.ofInt (400 + (n : Int)))), (0, .ref 165)]) (st' := [.int (Int32.ofInt (400 + (i : Int))), .ref 165]) 2 rfl ?_
                    refine xr_call (q := (.invokevirtual 118, 3, 211, 2)) (av := [.ref 165, .int (Int32.ofInt (400 + (i : Int)))]) (rest := []) rfl rfl (by decide) rfl (ym_rcv hA rfl) (Nat.le_of_ble_eq_true rfl) (mo_211 hA hx (by omega)) ?_
                    rintro _ _ ⟨r, ⟨rfl, eA⟩, hr⟩
                    rw [eA]
                    clear eA
                    have hr32 : -1 ≤ r ∧ r ≤ 4000 := by
                      rcases hr with ⟨kd, ls, q, h1, h2⟩ | ⟨-, h2⟩
                      · have h3 := hpq kd ls q h1
                        omega
                      · omega
                    refine xr_steps (pc' := 336) (L' := [(4, .int (Int32.ofInt r)), (6, .int (Int32.ofInt (xat n f i))), (1, .int (Int32.ofInt (D : Int))), (2, .int (Int32.ofInt 2)), (3, .int (Int32.ofInt (cnt : Int))), (5, .int (Int32.ofInt (400 + (n : Int)))), (0, .ref 165)]) (st' := [.int (Int32.ofInt r)]) 2 rfl ?_
                    refine xr_if_ge rfl (by omega) (fun z54 => ?_) (fun z54 => ?_)
                    · refine xr_iinc (L' := [(3, .int (Int32.ofInt ((cnt : Int) + 1))), (4, .int (Int32.ofInt r)), (6, .int (Int32.ofInt (xat n f i))), (1, .int (Int32.ofInt (D : Int))), (2, .int (Int32.ofInt 2)), (5, .int (Int32.ofInt (400 + (n : Int)))), (0, .ref 165)]) rfl rfl rfl ?_
                      refine xr_steps (pc' := 21) (L' := [(2, .int (Int32.ofInt 1)), (3, .int (Int32.ofInt ((cnt : Int) + 1))), (4, .int (Int32.ofInt r)), (6, .int (Int32.ofInt (xat n f i))), (1, .int (Int32.ofInt (D : Int))), (5, .int (Int32.ofInt (400 + (n : Int)))), (0, .ref 165)]) (st' := []) 3 rfl ?_
                      refine xr_loc (L := [(1, .int (Int32.ofInt (D : Int))), (2, .int (Int32.ofInt 1)), (3, .int (Int32.ofInt ((cnt : Int) + 1))), (4, .int (Int32.ofInt r)), (5, .int (Int32.ofInt (400 + (n : Int)))), (0, .ref 165)]) (show [1, 2, 3, 4, 5, 0].Nodup by decide) ⟨rfl, rfl, rfl, rfl, rfl, rfl, trivial⟩ ?_
                      obtain ⟨kd, ls, q, h1, h2⟩ : ∃ (kd : Nat) (ls : List Int) (q : Nat), xpl (ye n f) i = some (kd, ls, q) ∧ r = 400 + (q : Int) := by
                        rcases hr with h | ⟨-, h⟩
                        · exact h
                        · omega
                      rw [h2, show (cnt : Int) + 1 = ((cnt + 1 : Nat) : Int) by omega]
                      exact hleaf kd ls q (by omega) (by omega) h1
                    · refine xr_steps (pc' := 340) (L' := [(4, .int (Int32.ofInt r)), (6, .int (Int32.ofInt (xat n f i))), (1, .int (Int32.ofInt (D : Int))), (2, .int (Int32.ofInt 2)), (3, .int (Int32.ofInt (cnt : Int))), (5, .int (Int32.ofInt (400 + (n : Int)))), (0, .ref 165)]) (st' := [.int (Int32.ofInt (-1))]) 1 rfl ?_
                      refine xr_retI2 rfl rfl (hbl (by omega) (by omega) ?_)
                      rcases hr with ⟨kd, ls, q, h1, h2⟩ | ⟨h1, -⟩
                      · omega
                      · exact h1
                  · refine xr_steps (pc' := 281) (L' := [(6, .int (Int32.ofInt (xat n f i))), (1, .int (Int32.ofInt (D : Int))), (2, .int (Int32.ofInt 2)), (3, .int (Int32.ofInt (cnt : Int))), (4, .int (Int32.ofInt (400 + (i : Int)))), (5, .int (Int32.ofInt (400 + (n : Int)))), (0, .ref 165)]) (st' := [.int (Int32.ofInt 5), .int (Int32.ofInt (D : Int))]) 2 rfl ?_
                    refine xr_icmp_ne rfl (by omega) (by omega) (fun z55 => ?_) (fun z55 => ?_)
                    · refine xr_steps (pc' := 287) (L' := [(6, .int (Int32.ofInt (xat n f i))), (1, .int (Int32.ofInt (D : Int))), (2, .int (Int32.ofInt 2)), (3, .int (Int32.ofInt (cnt : Int))), (4, .int (Int32.ofInt (400 + (i : Int)))), (5, .int (Int32.ofInt (400 + (n : Int)))), (0, .ref 165)]) (st' := [.ref 165]) 1 rfl ?_
                      refine xr_getf (v := .ref 178) rfl (ym_165 hA) rfl ?_
                      refine xr_steps (pc' := 293) (L' := [(6, .int (Int32.ofInt (xat n f i))), (1, .int (Int32.ofInt (D : Int))), (2, .int (Int32.ofInt 2)), (3, .int (Int32.ofInt (cnt : Int))), (4, .int (Int32.ofInt (400 + (i : Int)))), (5, .int (Int32.ofInt (400 + (n : Int)))), (0, .ref 165)]) (st' := [.int (Int32.ofInt (xat n f i)), .int (Int32.ofInt (D : Int)), .ref 178]) 2 rfl ?_
                      refine ym_castore hA rfl rfl (by decide) (by omega) (by omega) (by omega) ?_
                      rw [show (D : Int).toNat = D by omega]
                      refine xr_steps (pc' := 295) (L' := [(6, .int (Int32.ofInt (xat n f i))), (1, .int (Int32.ofInt (D : Int))), (2, .int (Int32.ofInt 2)), (3, .int (Int32.ofInt (cnt : Int))), (4, .int (Int32.ofInt (400 + (i : Int)))), (5, .int (Int32.ofInt (400 + (n : Int)))), (0, .ref 165)]) (st' := [.ref 165]) 1 rfl ?_
                      refine xr_getf (v := .ref 179) rfl (ym_165 hA) rfl ?_
                      refine xr_steps (pc' := 300) (L' := [(6, .int (Int32.ofInt (xat n f i))), (1, .int (Int32.ofInt (D : Int))), (2, .int (Int32.ofInt 2)), (3, .int (Int32.ofInt (cnt : Int))), (4, .int (Int32.ofInt (400 + (i : Int)))), (5, .int (Int32.ofInt (400 + (n : Int)))), (0, .ref 165)]) (st' := [.int (Int32.ofInt 0), .int (Int32.ofInt (D : Int)), .ref 179]) 2 rfl ?_
                      refine ym_iastore hA rfl rfl (by decide) (by omega) (by omega) ?_
                      rw [show (D : Int).toNat = D by omega]
                      refine xr_iinc (L' := [(1, .int (Int32.ofInt ((D : Int) + 1))), (6, .int (Int32.ofInt (xat n f i))), (2, .int (Int32.ofInt 2)), (3, .int (Int32.ofInt (cnt : Int))), (4, .int (Int32.ofInt (400 + (i : Int)))), (5, .int (Int32.ofInt (400 + (n : Int)))), (0, .ref 165)]) rfl rfl rfl ?_
                      refine xr_iinc (L' := [(3, .int (Int32.ofInt ((cnt : Int) + 1))), (1, .int (Int32.ofInt ((D : Int) + 1))), (6, .int (Int32.ofInt (xat n f i))), (2, .int (Int32.ofInt 2)), (4, .int (Int32.ofInt (400 + (i : Int)))), (5, .int (Int32.ofInt (400 + (n : Int)))), (0, .ref 165)]) rfl rfl rfl ?_
                      refine xr_steps (pc' := 311) (L' := [(3, .int (Int32.ofInt ((cnt : Int) + 1))), (1, .int (Int32.ofInt ((D : Int) + 1))), (6, .int (Int32.ofInt (xat n f i))), (2, .int (Int32.ofInt 2)), (4, .int (Int32.ofInt (400 + (i : Int)))), (5, .int (Int32.ofInt (400 + (n : Int)))), (0, .ref 165)]) (st' := [.int (Int32.ofInt 91), .int (Int32.ofInt (xat n f i))]) 2 rfl ?_
                      refine xr_icmp_ne rfl (by omega) (by omega) (fun z56 => ?_) (fun z56 => ?_)
                      · refine xr_steps (pc' := 320) (L' := [(2, .int (Int32.ofInt 3)), (3, .int (Int32.ofInt ((cnt : Int) + 1))), (1, .int (Int32.ofInt ((D : Int) + 1))), (6, .int (Int32.ofInt (xat n f i))), (4, .int (Int32.ofInt (400 + (i : Int)))), (5, .int (Int32.ofInt (400 + (n : Int)))), (0, .ref 165)]) (st' := []) 2 rfl ?_
                        refine xr_iinc (L' := [(4, .int (Int32.ofInt ((400 + (i : Int)) + 1))), (2, .int (Int32.ofInt 3)), (3, .int (Int32.ofInt ((cnt : Int) + 1))), (1, .int (Int32.ofInt ((D : Int) + 1))), (6, .int (Int32.ofInt (xat n f i))), (5, .int (Int32.ofInt (400 + (n : Int)))), (0, .ref 165)]) rfl rfl rfl ?_
                        refine xr_steps (pc' := 21) (L' := [(4, .int (Int32.ofInt ((400 + (i : Int)) + 1))), (2, .int (Int32.ofInt 3)), (3, .int (Int32.ofInt ((cnt : Int) + 1))), (1, .int (Int32.ofInt ((D : Int) + 1))), (6, .int (Int32.ofInt (xat n f i))), (5, .int (Int32.ofInt (400 + (n : Int)))), (0, .ref 165)]) (st' := []) 2 rfl ?_
                        refine xr_loc (L := [(1, .int (Int32.ofInt ((D : Int) + 1))), (2, .int (Int32.ofInt 3)), (3, .int (Int32.ofInt ((cnt : Int) + 1))), (4, .int (Int32.ofInt ((400 + (i : Int)) + 1))), (5, .int (Int32.ofInt (400 + (n : Int)))), (0, .ref 165)]) (show [1, 2, 3, 4, 5, 0].Nodup by decide) ⟨rfl, rfl, rfl, rfl, rfl, rfl, trivial⟩ ?_
                        rw [show 400 + (i : Int) + 1 = 400 + ((i + 1 : Nat) : Int) by omega]
                        have hv : xat n f i = 123 := by omega
                        rw [show (D : Int) + 1 = ((D + 1 : Nat) : Int) by omega, show (cnt : Int) + 1 = ((cnt + 1 : Nat) : Int) by omega, hv]
                        exact hopo (by omega) (by omega)
                      · refine xr_steps (pc' := 320) (L' := [(2, .int (Int32.ofInt 2)), (3, .int (Int32.ofInt ((cnt : Int) + 1))), (1, .int (Int32.ofInt ((D : Int) + 1))), (6, .int (Int32.ofInt (xat n f i))), (4, .int (Int32.ofInt (400 + (i : Int)))), (5, .int (Int32.ofInt (400 + (n : Int)))), (0, .ref 165)]) (st' := []) 3 rfl ?_
                        refine xr_iinc (L' := [(4, .int (Int32.ofInt ((400 + (i : Int)) + 1))), (2, .int (Int32.ofInt 2)), (3, .int (Int32.ofInt ((cnt : Int) + 1))), (1, .int (Int32.ofInt ((D : Int) + 1))), (6, .int (Int32.ofInt (xat n f i))), (5, .int (Int32.ofInt (400 + (n : Int)))), (0, .ref 165)]) rfl rfl rfl ?_
                        refine xr_steps (pc' := 21) (L' := [(4, .int (Int32.ofInt ((400 + (i : Int)) + 1))), (2, .int (Int32.ofInt 2)), (3, .int (Int32.ofInt ((cnt : Int) + 1))), (1, .int (Int32.ofInt ((D : Int) + 1))), (6, .int (Int32.ofInt (xat n f i))), (5, .int (Int32.ofInt (400 + (n : Int)))), (0, .ref 165)]) (st' := []) 2 rfl ?_
                        refine xr_loc (L := [(1, .int (Int32.ofInt ((D : Int) + 1))), (2, .int (Int32.ofInt 2)), (3, .int (Int32.ofInt ((cnt : Int) + 1))), (4, .int (Int32.ofInt ((400 + (i : Int)) + 1))), (5, .int (Int32.ofInt (400 + (n : Int)))), (0, .ref 165)]) (show [1, 2, 3, 4, 5, 0].Nodup by decide) ⟨rfl, rfl, rfl, rfl, rfl, rfl, trivial⟩ ?_
                        rw [show 400 + (i : Int) + 1 = 400 + ((i + 1 : Nat) : Int) by omega]
                        have hv : xat n f i = 91 := by omega
                        rw [show (D : Int) + 1 = ((D + 1 : Nat) : Int) by omega, show (cnt : Int) + 1 = ((cnt + 1 : Nat) : Int) by omega, hv]
                        exact hopa (by omega) (by omega)
                    · refine xr_steps (pc' := 285) (L' := [(6, .int (Int32.ofInt (xat n f i))), (1, .int (Int32.ofInt (D : Int))), (2, .int (Int32.ofInt 2)), (3, .int (Int32.ofInt (cnt : Int))), (4, .int (Int32.ofInt (400 + (i : Int)))), (5, .int (Int32.ofInt (400 + (n : Int)))), (0, .ref 165)]) (st' := [.int (Int32.ofInt (-1))]) 1 rfl ?_
                      first
                        | exact xr_retI2 rfl rfl (hbe (by omega))
                        | exact xr_retI2 rfl rfl (hbo (by omega) (by omega))
                        | (exfalso; omega)
              · exfalso; omega
            · exfalso; omega
          · exfalso; omega
    · refine xr_steps (pc' := 45) (L' := [(6, .int (Int32.ofInt (xat n f i))), (1, .int (Int32.ofInt (D : Int))), (2, .int (Int32.ofInt 2)), (3, .int (Int32.ofInt (cnt : Int))), (4, .int (Int32.ofInt (400 + (i : Int)))), (5, .int (Int32.ofInt (400 + (n : Int)))), (0, .ref 165)]) (st' := [.int (Int32.ofInt 1), .int (Int32.ofInt 2)]) 2 rfl ?_
      refine xr_icmp_eq rfl (by omega) (by omega) (fun z57 => ?_) (fun z57 => ?_)
      · exfalso; omega
      · refine xr_steps (pc' := 50) (L' := [(6, .int (Int32.ofInt (xat n f i))), (1, .int (Int32.ofInt (D : Int))), (2, .int (Int32.ofInt 2)), (3, .int (Int32.ofInt (cnt : Int))), (4, .int (Int32.ofInt (400 + (i : Int)))), (5, .int (Int32.ofInt (400 + (n : Int)))), (0, .ref 165)]) (st' := [.int (Int32.ofInt 2), .int (Int32.ofInt 2)]) 2 rfl ?_
        refine xr_icmp_eq rfl (by omega) (by omega) (fun z58 => ?_) (fun z58 => ?_)
        · exfalso; omega
        · exfalso; omega
theorem mo_208e2 (hA : 194 ≤ A.1) (hx : xtx s T n f) (hcn : cnt ≤ 1000) (hi : i ≤ 1000) (hD : D ≤ 5) (hop : T 178 D = 91) (hc0 : ye n f i = 93) (hcl : xr_ok (xt_G w) (d + 1 + 1 + 1) 208 21 [(1, .int (Int32.ofInt (D : Int))), (2, .int (Int32.ofInt 1)), (3, .int (Int32.ofInt (cnt : Int))), (4, .int (Int32.ofInt (400 + ((i + 1 : Nat) : Int)))), (5, .int (Int32.ofInt (400 + (n : Int)))), (0, .ref 165)] [] (ym A s T) Q) : xr_ok (xt_G w) (d + 1 + 1 + 1) 208 21 [(1, .int (Int32.ofInt ((D + 1 : Nat) : Int))), (2, .int (Int32.ofInt 2)), (3, .int (Int32.ofInt (cnt : Int))), (4, .int (Int32.ofInt (400 + (i : Int)))), (5, .int (Int32.ofInt (400 + (n : Int)))), (0, .ref 165)] [] (ym A s T) Q := by
  have hn := hx.2.1
  have hye := xtx_ye hx i
  have hpq : ∀ (kd : Nat) (ls : List Int) (q : Nat), xpl (ye n f) i = some (kd, ls, q) → q ≤ 100 := fun kd ls q h => by
    exfalso
    unfold xpl at h
    rw [if_neg (by omega), if_neg (by omega), if_neg (by omega), if_neg (by omega)] at h
    unfold xpn at h
    rw [if_neg (by omega), if_neg (by rw [if_neg (show ¬ ye n f i = 45 by omega), Nat.add_zero, yn, if_neg (by omega)]; omega)] at h
    cases h
  refine xr_steps (pc' := 25) (L' := [(1, .int (Int32.ofInt ((D + 1 : Nat) : Int))), (2, .int (Int32.ofInt 2)), (3, .int (Int32.ofInt (cnt : Int))), (4, .int (Int32.ofInt (400 + (i : Int)))), (5, .int (Int32.ofInt (400 + (n : Int)))), (0, .ref 165)]) (st' := [.int (Int32.ofInt (400 + (n : Int))), .int (Int32.ofInt (400 + (i : Int)))]) 2 rfl ?_
  refine xr_icmp_ge rfl (by omega) (by omega) (fun z31 => ?_) (fun z31 => ?_)
  · refine xr_steps (pc' := 350) (L' := [(1, .int (Int32.ofInt ((D + 1 : Nat) : Int))), (2, .int (Int32.ofInt 2)), (3, .int (Int32.ofInt (cnt : Int))), (4, .int (Int32.ofInt (400 + (i : Int)))), (5, .int (Int32.ofInt (400 + (n : Int)))), (0, .ref 165)]) (st' := [.int (Int32.ofInt ((D + 1 : Nat) : Int))]) 1 rfl ?_
    refine xr_if_ne rfl (by omega) (fun z32 => ?_) (fun z32 => ?_)
    · refine xr_steps (pc' := 363) (L' := [(1, .int (Int32.ofInt ((D + 1 : Nat) : Int))), (2, .int (Int32.ofInt 2)), (3, .int (Int32.ofInt (cnt : Int))), (4, .int (Int32.ofInt (400 + (i : Int)))), (5, .int (Int32.ofInt (400 + (n : Int)))), (0, .ref 165)]) (st' := [.int (Int32.ofInt (-1))]) 1 rfl ?_
      exfalso; omega
    · refine xr_steps (pc' := 355) (L' := [(1, .int (Int32.ofInt ((D + 1 : Nat) : Int))), (2, .int (Int32.ofInt 2)), (3, .int (Int32.ofInt (cnt : Int))), (4, .int (Int32.ofInt (400 + (i : Int)))), (5, .int (Int32.ofInt (400 + (n : Int)))), (0, .ref 165)]) (st' := [.int (Int32.ofInt 1), .int (Int32.ofInt 2)]) 2 rfl ?_
      refine xr_icmp_ne rfl (by omega) (by omega) (fun z33 => ?_) (fun z33 => ?_)
      · refine xr_steps (pc' := 363) (L' := [(1, .int (Int32.ofInt ((D + 1 : Nat) : Int))), (2, .int (Int32.ofInt 2)), (3, .int (Int32.ofInt (cnt : Int))), (4, .int (Int32.ofInt (400 + (i : Int)))), (5, .int (Int32.ofInt (400 + (n : Int)))), (0, .ref 165)]) (st' := [.int (Int32.ofInt (-1))]) 1 rfl ?_
        exfalso; omega
      · exfalso; omega
  · refine xr_steps (pc' := 31) (L' := [(1, .int (Int32.ofInt ((D + 1 : Nat) : Int))), (2, .int (Int32.ofInt 2)), (3, .int (Int32.ofInt (cnt : Int))), (4, .int (Int32.ofInt (400 + (i : Int)))), (5, .int (Int32.ofInt (400 + (n : Int)))), (0, .ref 165)]) (st' := [.int (Int32.ofInt (400 + (i : Int))), .ref 165]) 2 rfl ?_
    refine xr_call (q := (.invokevirtual 103, 3, 209, 2)) (av := [.ref 165, .int (Int32.ofInt (400 + (i : Int)))]) (rest := []) rfl rfl (by decide) rfl (ym_rcv hA rfl) (Nat.le_of_ble_eq_true rfl) (mo_209t (i := i) hA hx (by omega) (by omega)) ?_
    rintro _ _ ⟨rfl, eA⟩
    rw [eA]
    clear eA
    have hx34 := xtx_ye hx i
    refine xr_steps (pc' := 40) (L' := [(6, .int (Int32.ofInt (xat n f i))), (1, .int (Int32.ofInt ((D + 1 : Nat) : Int))), (2, .int (Int32.ofInt 2)), (3, .int (Int32.ofInt (cnt : Int))), (4, .int (Int32.ofInt (400 + (i : Int)))), (5, .int (Int32.ofInt (400 + (n : Int)))), (0, .ref 165)]) (st' := [.int (Int32.ofInt 93), .int (Int32.ofInt (xat n f i))]) 3 rfl ?_
    refine xr_icmp_ne rfl (by omega) (by omega) (fun z35 => ?_) (fun z35 => ?_)
    · refine xr_steps (pc' := 57) (L' := [(6, .int (Int32.ofInt (xat n f i))), (1, .int (Int32.ofInt ((D + 1 : Nat) : Int))), (2, .int (Int32.ofInt 2)), (3, .int (Int32.ofInt (cnt : Int))), (4, .int (Int32.ofInt (400 + (i : Int)))), (5, .int (Int32.ofInt (400 + (n : Int)))), (0, .ref 165)]) (st' := [.int (Int32.ofInt 125), .int (Int32.ofInt (xat n f i))]) 2 rfl ?_
      refine xr_icmp_ne rfl (by omega) (by omega) (fun z36 => ?_) (fun z36 => ?_)
      · refine xr_steps (pc' := 114) (L' := [(6, .int (Int32.ofInt (xat n f i))), (1, .int (Int32.ofInt ((D + 1 : Nat) : Int))), (2, .int (Int32.ofInt 2)), (3, .int (Int32.ofInt (cnt : Int))), (4, .int (Int32.ofInt (400 + (i : Int)))), (5, .int (Int32.ofInt (400 + (n : Int)))), (0, .ref 165)]) (st' := [.int (Int32.ofInt 1), .int (Int32.ofInt 2)]) 2 rfl ?_
        refine xr_icmp_ne rfl (by omega) (by omega) (fun z37 => ?_) (fun z37 => ?_)
        · refine xr_steps (pc' := 157) (L' := [(6, .int (Int32.ofInt (xat n f i))), (1, .int (Int32.ofInt ((D + 1 : Nat) : Int))), (2, .int (Int32.ofInt 2)), (3, .int (Int32.ofInt (cnt : Int))), (4, .int (Int32.ofInt (400 + (i : Int)))), (5, .int (Int32.ofInt (400 + (n : Int)))), (0, .ref 165)]) (st' := [.int (Int32.ofInt 2), .int (Int32.ofInt 2)]) 2 rfl ?_
          refine xr_icmp_le rfl (by omega) (by omega) (fun z38 => ?_) (fun z38 => ?_)
          · refine xr_steps (pc' := 269) (L' := [(6, .int (Int32.ofInt (xat n f i))), (1, .int (Int32.ofInt ((D + 1 : Nat) : Int))), (2, .int (Int32.ofInt 2)), (3, .int (Int32.ofInt (cnt : Int))), (4, .int (Int32.ofInt (400 + (i : Int)))), (5, .int (Int32.ofInt (400 + (n : Int)))), (0, .ref 165)]) (st' := [.int (Int32.ofInt 91), .int (Int32.ofInt (xat n f i))]) 2 rfl ?_
            refine xr_icmp_eq rfl (by omega) (by omega) (fun z39 => ?_) (fun z39 => ?_)
            · refine xr_steps (pc' := 281) (L' := [(6, .int (Int32.ofInt (xat n f i))), (1, .int (Int32.ofInt ((D + 1 : Nat) : Int))), (2, .int (Int32.ofInt 2)), (3, .int (Int32.ofInt (cnt : Int))), (4, .int (Int32.ofInt (400 + (i : Int)))), (5, .int (Int32.ofInt (400 + (n : Int)))), (0, .ref 165)]) (st' := [.int (Int32.ofInt 5), .int (Int32.ofInt ((D + 1 : Nat) : Int))]) 2 rfl ?_
              refine xr_icmp_ne rfl (by omega) (by omega) (fun z40 => ?_) (fun z40 => ?_)
              · refine xr_steps (pc' := 287) (L' := [(6, .int (Int32.ofInt (xat n f i))), (1, .int (Int32.ofInt ((D + 1 : Nat) : Int))), (2, .int (Int32.ofInt 2)), (3, .int (Int32.ofInt (cnt : Int))), (4, .int (Int32.ofInt (400 + (i : Int)))), (5, .int (Int32.ofInt (400 + (n : Int)))), (0, .ref 165)]) (st' := [.ref 165]) 1 rfl ?_
                refine xr_getf (v := .ref 178) rfl (ym_165 hA) rfl ?_
                refine xr_steps (pc' := 293) (L' := [(6, .int (Int32.ofInt (xat n f i))), (1, .int (Int32.ofInt ((D + 1 : Nat) : Int))), (2, .int (Int32.ofInt 2)), (3, .int (Int32.ofInt (cnt : Int))), (4, .int (Int32.ofInt (400 + (i : Int)))), (5, .int (Int32.ofInt (400 + (n : Int)))), (0, .ref 165)]) (st' := [.int (Int32.ofInt (xat n f i)), .int (Int32.ofInt ((D + 1 : Nat) : Int)), .ref 178]) 2 rfl ?_
                refine ym_castore hA rfl rfl (by decide) (by omega) (by omega) (by omega) ?_
                refine xr_steps (pc' := 295) (L' := [(6, .int (Int32.ofInt (xat n f i))), (1, .int (Int32.ofInt ((D + 1 : Nat) : Int))), (2, .int (Int32.ofInt 2)), (3, .int (Int32.ofInt (cnt : Int))), (4, .int (Int32.ofInt (400 + (i : Int)))), (5, .int (Int32.ofInt (400 + (n : Int)))), (0, .ref 165)]) (st' := [.ref 165]) 1 rfl ?_
                refine xr_getf (v := .ref 179) rfl (ym_165 hA) rfl ?_
                refine xr_steps (pc' := 300) (L' := [(6, .int (Int32.ofInt (xat n f i))), (1, .int (Int32.ofInt ((D + 1 : Nat) : Int))), (2, .int (Int32.ofInt 2)), (3, .int (Int32.ofInt (cnt : Int))), (4, .int (Int32.ofInt (400 + (i : Int)))), (5, .int (Int32.ofInt (400 + (n : Int)))), (0, .ref 165)]) (st' := [.int (Int32.ofInt 0), .int (Int32.ofInt ((D + 1 : Nat) : Int)), .ref 179]) 2 rfl ?_
                refine ym_iastore hA rfl rfl (by decide) (by omega) (by omega) ?_
                refine xr_iinc (L' := [(1, .int (Int32.ofInt (((D + 1 : Nat) : Int) + 1))), (6, .int (Int32.ofInt (xat n f i))), (2, .int (Int32.ofInt 2)), (3, .int (Int32.ofInt (cnt : Int))), (4, .int (Int32.ofInt (400 + (i : Int)))), (5, .int (Int32.ofInt (400 + (n : Int)))), (0, .ref 165)]) rfl rfl rfl ?_
                refine xr_iinc (L' := [(3, .int (Int32.ofInt ((cnt : Int) + 1))), (1, .int (Int32.ofInt (((D + 1 : Nat) : Int) + 1))), (6, .int (Int32.ofInt (xat n f i))), (2, .int (Int32.ofInt 2)), (4, .int (Int32.ofInt (400 + (i : Int)))), (5, .int (Int32.ofInt (400 + (n : Int)))), (0, .ref 165)]) rfl rfl rfl ?_
                refine xr_steps (pc' := 311) (L' := [(3, .int (Int32.ofInt ((cnt : Int) + 1))), (1, .int (Int32.ofInt (((D + 1 : Nat) : Int) + 1))), (6, .int (Int32.ofInt (xat n f i))), (2, .int (Int32.ofInt 2)), (4, .int (Int32.ofInt (400 + (i : Int)))), (5, .int (Int32.ofInt (400 + (n : Int)))), (0, .ref 165)]) (st' := [.int (Int32.ofInt 91), .int (Int32.ofInt (xat n f i))]) 2 rfl ?_
                refine xr_icmp_ne rfl (by omega) (by omega) (fun z41 => ?_) (fun z41 => ?_)
                · refine xr_steps (pc' := 320) (L' := [(2, .int (Int32.ofInt 3)), (3, .int (Int32.ofInt ((cnt : Int) + 1))), (1, .int (Int32.ofInt (((D + 1 : Nat) : Int) + 1))), (6, .int (Int32.ofInt (xat n f i))), (4, .int (Int32.ofInt (400 + (i : Int)))), (5, .int (Int32.ofInt (400 + (n : Int)))), (0, .ref 165)]) (st' := []) 2 rfl ?_
                  refine xr_iinc (L' := [(4, .int (Int32.ofInt ((400 + (i : Int)) + 1))), (2, .int (Int32.ofInt 3)), (3, .int (Int32.ofInt ((cnt : Int) + 1))), (1, .int (Int32.ofInt (((D + 1 : Nat) : Int) + 1))), (6, .int (Int32.ofInt (xat n f i))), (5, .int (Int32.ofInt (400 + (n : Int)))), (0, .ref 165)]) rfl rfl rfl ?_
                  refine xr_steps (pc' := 21) (L' := [(4, .int (Int32.ofInt ((400 + (i : Int)) + 1))), (2, .int (Int32.ofInt 3)), (3, .int (Int32.ofInt ((cnt : Int) + 1))), (1, .int (Int32.ofInt (((D + 1 : Nat) : Int) + 1))), (6, .int (Int32.ofInt (xat n f i))), (5, .int (Int32.ofInt (400 + (n : Int)))), (0, .ref 165)]) (st' := []) 2 rfl ?_
                  refine xr_loc (L := [(1, .int (Int32.ofInt (((D + 1 : Nat) : Int) + 1))), (2, .int (Int32.ofInt 3)), (3, .int (Int32.ofInt ((cnt : Int) + 1))), (4, .int (Int32.ofInt ((400 + (i : Int)) + 1))), (5, .int (Int32.ofInt (400 + (n : Int)))), (0, .ref 165)]) (show [1, 2, 3, 4, 5, 0].Nodup by decide) ⟨rfl, rfl, rfl, rfl, rfl, rfl, trivial⟩ ?_
                  exfalso; omega
                · refine xr_steps (pc' := 320) (L' := [(2, .int (Int32.ofInt 2)), (3, .int (Int32.ofInt ((cnt : Int) + 1))), (1, .int (Int32.ofInt (((D + 1 : Nat) : Int) + 1))), (6, .int (Int32.ofInt (xat n f i))), (4, .int (Int32.ofInt (400 + (i : Int)))), (5, .int (Int32.ofInt (400 + (n : Int)))), (0, .ref 165)]) (st' := []) 3 rfl ?_
                  refine xr_iinc (L' := [(4, .int (Int32.ofInt ((400 + (i : Int)) + 1))), (2, .int (Int32.ofInt 2)), (3, .int (Int32.ofInt ((cnt : Int) + 1))), (1, .int (Int32.ofInt (((D + 1 : Nat) : Int) + 1))), (6, .int (Int32.ofInt (xat n f i))), (5, .int (Int32.ofInt (400 + (n : Int)))), (0, .ref 165)]) rfl rfl rfl ?_
                  refine xr_steps (pc' := 21) (L' := [(4, .int (Int32.ofInt ((400 + (i : Int)) + 1))), (2, .int (Int32.ofInt 2)), (3, .int (Int32.ofInt ((cnt : Int) + 1))), (1, .int (Int32.ofInt (((D + 1 : Nat) : Int) + 1))), (6, .int (Int32.ofInt (xat n f i))), (5, .int (Int32.ofInt (400 + (n : Int)))), (0, .ref 165)]) (st' := []) 2 rfl ?_
                  refine xr_loc (L := [(1, .int (Int32.ofInt (((D + 1 : Nat) : Int) + 1))), (2, .int (Int32.ofInt 2)), (3, .int (Int32.ofInt ((cnt : Int) + 1))), (4, .int (Int32.ofInt ((400 + (i : Int)) + 1))), (5, .int (Int32.ofInt (400 + (n : Int)))), (0, .ref 165)]) (show [1, 2, 3, 4, 5, 0].Nodup by decide) ⟨rfl, rfl, rfl, rfl, rfl, rfl, trivial⟩ ?_
                  exfalso; omega
              · refine xr_steps (pc' := 285) (L' := [(6, .int (Int32.ofInt (xat n f i))), (1, .int (Int32.ofInt ((D + 1 : Nat) : Int))), (2, .int (Int32.ofInt 2)), (3, .int (Int32.ofInt (cnt : Int))), (4, .int (Int32.ofInt (400 + (i : Int)))), (5, .int (Int32.ofInt (400 + (n : Int)))), (0, .ref 165)]) (st' := [.int (Int32.ofInt (-1))]) 1 rfl ?_
                exfalso; omega
            · refine xr_steps (pc' := 276) (L' := [(6, .int (Int32.ofInt (xat n f i))), (1, .int (Int32.ofInt ((D + 1 : Nat) : Int))), (2, .int (Int32.ofInt 2)), (3, .int (Int32.ofInt (cnt : Int))), (4, .int (Int32.ofInt (400 + (i : Int)))), (5, .int (Int32.ofInt (400 + (n : Int)))), (0, .ref 165)]) (st' := [.int (Int32.ofInt 123), .int (Int32.ofInt (xat n f i))]) 2 rfl ?_
              refine xr_icmp_ne rfl (by omega) (by omega) (fun z42 => ?_) (fun z42 => ?_)
              · refine xr_steps (pc' := 329) (L' := [(6, .int (Int32.ofInt (xat n f i))), (1, .int (Int32.ofInt ((D + 1 : Nat) : Int))), (2, .int (Int32.ofInt 2)), (3, .int (Int32.ofInt (cnt : Int))), (4, .int (Int32.ofInt (400 + (i : Int)))), (5, .int (Int32.ofInt (400 + (n : Int)))), (0, .ref 165)]) (st' := [.int (Int32.ofInt (400 + (i : Int))), .ref 165]) 2 rfl ?_
                refine xr_call (q := (.invokevirtual 118, 3, 211, 2)) (av := [.ref 165, .int (Int32.ofInt (400 + (i : Int)))]) (rest := []) rfl rfl (by decide) rfl (ym_rcv hA rfl) (Nat.le_of_ble_eq_true rfl) (mo_211 hA hx (by omega)) ?_
                rintro _ _ ⟨r, ⟨rfl, eA⟩, hr⟩
                rw [eA]
                clear eA
                have hr32 : -1 ≤ r ∧ r ≤ 4000 := by
                  rcases hr with ⟨kd, ls, q, h1, h2⟩ | ⟨-, h2⟩
                  · have h3 := hpq kd ls q h1
                    omega
                  · omega
                refine xr_steps (pc' := 336) (L' := [(4, .int (Int32.ofInt r)), (6, .int (Int32.ofInt (xat n f i))), (1, .int (Int32.ofInt ((D + 1 : Nat) : Int))), (2, .int (Int32.ofInt 2)), (3, .int (Int32.ofInt (cnt : Int))), (5, .int (Int32.ofInt (400 + (n : Int)))), (0, .ref 165)]) (st' := [.int (Int32.ofInt r)]) 2 rfl ?_
                refine xr_if_ge rfl (by omega) (fun z43 => ?_) (fun z43 => ?_)
                · refine xr_iinc (L' := [(3, .int (Int32.ofInt ((cnt : Int) + 1))), (4, .int (Int32.ofInt r)), (6, .int (Int32.ofInt (xat n f i))), (1, .int (Int32.ofInt ((D + 1 : Nat) : Int))), (2, .int (Int32.ofInt 2)), (5, .int (Int32.ofInt (400 + (n : Int)))), (0, .ref 165)]) rfl rfl rfl ?_
                  refine xr_steps (pc' := 21) (L' := [(2, .int (Int32.ofInt 1)), (3, .int (Int32.ofInt ((cnt : Int) + 1))), (4, .int (Int32.ofInt r)), (6, .int (Int32.ofInt (xat n f i))), (1, .int (Int32.ofInt ((D + 1 : Nat) : Int))), (5, .int (Int32.ofInt (400 + (n : Int)))), (0, .ref 165)]) (st' := []) 3 rfl ?_
                  refine xr_loc (L := [(1, .int (Int32.ofInt ((D + 1 : Nat) : Int))), (2, .int (Int32.ofInt 1)), (3, .int (Int32.ofInt ((cnt : Int) + 1))), (4, .int (Int32.ofInt r)), (5, .int (Int32.ofInt (400 + (n : Int)))), (0, .ref 165)]) (show [1, 2, 3, 4, 5, 0].Nodup by decide) ⟨rfl, rfl, rfl, rfl, rfl, rfl, trivial⟩ ?_
                  exfalso; omega
                · refine xr_steps (pc' := 340) (L' := [(4, .int (Int32.ofInt r)), (6, .int (Int32.ofInt (xat n f i))), (1, .int (Int32.ofInt ((D + 1 : Nat) : Int))), (2, .int (Int32.ofInt 2)), (3, .int (Int32.ofInt (cnt : Int))), (5, .int (Int32.ofInt (400 + (n : Int)))), (0, .ref 165)]) (st' := [.int (Int32.ofInt (-1))]) 1 rfl ?_
                  exfalso; omega
              · refine xr_steps (pc' := 281) (L' := [(6, .int (Int32.ofInt (xat n f i))), (1, .int (Int32.ofInt ((D + 1 : Nat) : Int))), (2, .int (Int32.ofInt 2)), (3, .int (Int32.ofInt (cnt : Int))), (4, .int (Int32.ofInt (400 + (i : Int)))), (5, .int (Int32.ofInt (400 + (n : Int)))), (0, .ref 165)]) (st' := [.int (Int32.ofInt 5), .int (Int32.ofInt ((D + 1 : Nat) : Int))]) 2 rfl ?_
                refine xr_icmp_ne rfl (by omega) (by omega) (fun z44 => ?_) (fun z44 => ?_)
                · refine xr_steps (pc' := 287) (L' := [(6, .int (Int32.ofInt (xat n f i))), (1, .int (Int32.ofInt ((D + 1 : Nat) : Int))), (2, .int (Int32.ofInt 2)), (3, .int (Int32.ofInt (cnt : Int))), (4, .int (Int32.ofInt (400 + (i : Int)))), (5, .int (Int32.ofInt (400 + (n : Int)))), (0, .ref 165)]) (st' := [.ref 165]) 1 rfl ?_
                  refine xr_getf (v := .ref 178) rfl (ym_165 hA) rfl ?_
                  refine xr_steps (pc' := 293) (L' := [(6, .int (Int32.ofInt (xat n f i))), (1, .int (Int32.ofInt ((D + 1 : Nat) : Int))), (2, .int (Int32.ofInt 2)), (3, .int (Int32.ofInt (cnt : Int))), (4, .int (Int32.ofInt (400 + (i : Int)))), (5, .int (Int32.ofInt (400 + (n : Int)))), (0, .ref 165)]) (st' := [.int (Int32.ofInt (xat n f i)), .int (Int32.ofInt ((D + 1 : Nat) : Int)), .ref 178]) 2 rfl ?_
                  refine ym_castore hA rfl rfl (by decide) (by omega) (by omega) (by omega) ?_
                  refine xr_steps (pc' := 295) (L' := [(6, .int (Int32.ofInt (xat n f i))), (1, .int (Int32.ofInt ((D + 1 : Nat) : Int))), (2, .int (Int32.ofInt 2)), (3, .int (Int32.ofInt (cnt : Int))), (4, .int (Int32.ofInt (400 + (i : Int)))), (5, .int (Int32.ofInt (400 + (n : Int)))), (0, .ref 165)]) (st' := [.ref 165]) 1 rfl ?_
                  refine xr_getf (v := .ref 179) rfl (ym_165 hA) rfl ?_
                  refine xr_steps (pc' := 300) (L' := [(6, .int (Int32.ofInt (xat n f i))), (1, .int (Int32.ofInt ((D + 1 : Nat) : Int))), (2, .int (Int32.ofInt 2)), (3, .int (Int32.ofInt (cnt : Int))), (4, .int (Int32.ofInt (400 + (i : Int)))), (5, .int (Int32.ofInt (400 + (n : Int)))), (0, .ref 165)]) (st' := [.int (Int32.ofInt 0), .int (Int32.ofInt ((D + 1 : Nat) : Int)), .ref 179]) 2 rfl ?_
                  refine ym_iastore hA rfl rfl (by decide) (by omega) (by omega) ?_
                  refine xr_iinc (L' := [(1, .int (Int32.ofInt (((D + 1 : Nat) : Int) + 1))), (6, .int (Int32.ofInt (xat n f i))), (2, .int (Int32.ofInt 2)), (3, .int (Int32.ofInt (cnt : Int))), (4, .int (Int32.ofInt (400 + (i : Int)))), (5, .int (Int32.ofInt (400 + (n : Int)))), (0, .ref 165)]) rfl rfl rfl ?_
                  refine xr_iinc (L' := [(3, .int (Int32.ofInt ((cnt : Int) + 1))), (1, .int (Int32.ofInt (((D + 1 : Nat) : Int) + 1))), (6, .int (Int32.ofInt (xat n f i))), (2, .int (Int32.ofInt 2)), (4, .int (Int32.ofInt (400 + (i : Int)))), (5, .int (Int32.ofInt (400 + (n : Int)))), (0, .ref 165)]) rfl rfl rfl ?_
                  refine xr_steps (pc' := 311) (L' := [(3, .int (Int32.ofInt ((cnt : Int) + 1))), (1, .int (Int32.ofInt (((D + 1 : Nat) : Int) + 1))), (6, .int (Int32.ofInt (xat n f i))), (2, .int (Int32.ofInt 2)), (4, .int (Int32.ofInt (400 + (i : Int)))), (5, .int (Int32.ofInt (400 + (n : Int)))), (0, .ref 165)]) (st' := [.int (Int32.ofInt 91), .int (Int32.ofInt (xat n f i))]) 2 rfl ?_
                  refine xr_icmp_ne rfl (by omega) (by omega) (fun z45 => ?_) (fun z45 => ?_)
                  · refine xr_steps (pc' := 320) (L' := [(2, .int (Int32.ofInt 3)), (3, .int (Int32.ofInt ((cnt : Int) + 1))), (1, .int (Int32.ofInt (((D + 1 : Nat) : Int) + 1))), (6, .int (Int32.ofInt (xat n f i))), (4, .int (Int32.ofInt (400 + (i : Int)))), (5, .int (Int32.ofInt (400 + (n : Int)))), (0, .ref 165)]) (st' := []) 2 rfl ?_
                    refine xr_iinc (L' := [(4, .int (Int32.ofInt ((400 + (i : Int)) + 1))), (2, .int (Int32.ofInt 3)), (3, .int (Int32.ofInt ((cnt : Int) + 1))), (1, .int (Int32.ofInt (((D + 1 : Nat) : Int) + 1))), (6, .int (Int32.ofInt (xat n f i))), (5, .int (Int32.ofInt (400 + (n : Int)))), (0, .ref 165)]) rfl rfl rfl ?_
                    refine xr_steps (pc' := 21) (L' := [(4, .int (Int32.ofInt ((400 + (i : Int)) + 1))), (2, .int (Int32.ofInt 3)), (3, .int (Int32.ofInt ((cnt : Int) + 1))), (1, .int (Int32.ofInt (((D + 1 : Nat) : Int) + 1))), (6, .int (Int32.ofInt (xat n f i))), (5, .int (Int32.ofInt (400 + (n : Int)))), (0, .ref 165)]) (st' := []) 2 rfl ?_
                    refine xr_loc (L := [(1, .int (Int32.ofInt (((D + 1 : Nat) : Int) + 1))), (2, .int (Int32.ofInt 3)), (3, .int (Int32.ofInt ((cnt : Int) + 1))), (4, .int (Int32.ofInt ((400 + (i : Int)) + 1))), (5, .int (Int32.ofInt (400 + (n : Int)))), (0, .ref 165)]) (show [1, 2, 3, 4, 5, 0].Nodup by decide) ⟨rfl, rfl, rfl, rfl, rfl, rfl, trivial⟩ ?_
                    exfalso; omega
                  · refine xr_steps (pc' := 320) (L' := [(2, .int (Int32.ofInt 2)), (3, .int (Int32.ofInt ((cnt : Int) + 1))), (1, .int (Int32.ofInt (((D + 1 : Nat) : Int) + 1))), (6, .int (Int32.ofInt (xat n f i))), (4, .int (Int32.ofInt (400 + (i : Int)))), (5, .int (Int32.ofInt (400 + (n : Int)))), (0, .ref 165)]) (st' := []) 3 rfl ?_
                    refine xr_iinc (L' := [(4, .int (Int32.ofInt ((400 + (i : Int)) + 1))), (2, .int (Int32.ofInt 2)), (3, .int (Int32.ofInt ((cnt : Int) + 1))), (1, .int (Int32.ofInt (((D + 1 : Nat) : Int) + 1))), (6, .int (Int32.ofInt (xat n f i))), (5, .int (Int32.ofInt (400 + (n : Int)))), (0, .ref 165)]) rfl rfl rfl ?_
                    refine xr_steps (pc' := 21) (L' := [(4, .int (Int32.ofInt ((400 + (i : Int)) + 1))), (2, .int (Int32.ofInt 2)), (3, .int (Int32.ofInt ((cnt : Int) + 1))), (1, .int (Int32.ofInt (((D + 1 : Nat) : Int) + 1))), (6, .int (Int32.ofInt (xat n f i))), (5, .int (Int32.ofInt (400 + (n : Int)))), (0, .ref 165)]) (st' := []) 2 rfl ?_
                    refine xr_loc (L := [(1, .int (Int32.ofInt (((D + 1 : Nat) : Int) + 1))), (2, .int (Int32.ofInt 2)), (3, .int (Int32.ofInt ((cnt : Int) + 1))), (4, .int (Int32.ofInt ((400 + (i : Int)) + 1))), (5, .int (Int32.ofInt (400 + (n : Int)))), (0, .ref 165)]) (show [1, 2, 3, 4, 5, 0].Nodup by decide) ⟨rfl, rfl, rfl, rfl, rfl, rfl, trivial⟩ ?_
                    exfalso; omega
                · refine xr_steps (pc' := 285) (L' := [(6, .int (Int32.ofInt (xat n f i))), (1, .int (Int32.ofInt ((D + 1 : Nat) : Int))), (2, .int (Int32.ofInt 2)), (3, .int (Int32.ofInt (cnt : Int))), (4, .int (Int32.ofInt (400 + (i : Int)))), (5, .int (Int32.ofInt (400 + (n : Int)))), (0, .ref 165)]) (st' := [.int (Int32.ofInt (-1))]) 1 rfl ?_
                  exfalso; omega
          · exfalso; omega
        · exfalso; omega
      · refine xr_steps (pc' := 62) (L' := [(6, .int (Int32.ofInt (xat n f i))), (1, .int (Int32.ofInt ((D + 1 : Nat) : Int))), (2, .int (Int32.ofInt 2)), (3, .int (Int32.ofInt (cnt : Int))), (4, .int (Int32.ofInt (400 + (i : Int)))), (5, .int (Int32.ofInt (400 + (n : Int)))), (0, .ref 165)]) (st' := [.int (Int32.ofInt 1), .int (Int32.ofInt 2)]) 2 rfl ?_
        refine xr_icmp_eq rfl (by omega) (by omega) (fun z46 => ?_) (fun z46 => ?_)
        · exfalso; omega
        · refine xr_steps (pc' := 67) (L' := [(6, .int (Int32.ofInt (xat n f i))), (1, .int (Int32.ofInt ((D + 1 : Nat) : Int))), (2, .int (Int32.ofInt 2)), (3, .int (Int32.ofInt (cnt : Int))), (4, .int (Int32.ofInt (400 + (i : Int)))), (5, .int (Int32.ofInt (400 + (n : Int)))), (0, .ref 165)]) (st' := [.int (Int32.ofInt 3), .int (Int32.ofInt 2)]) 2 rfl ?_
          refine xr_icmp_ne rfl (by omega) (by omega) (fun z47 => ?_) (fun z47 => ?_)
          · refine xr_steps (pc' := 114) (L' := [(6, .int (Int32.ofInt (xat n f i))), (1, .int (Int32.ofInt ((D + 1 : Nat) : Int))), (2, .int (Int32.ofInt 2)), (3, .int (Int32.ofInt (cnt : Int))), (4, .int (Int32.ofInt (400 + (i : Int)))), (5, .int (Int32.ofInt (400 + (n : Int)))), (0, .ref 165)]) (st' := [.int (Int32.ofInt 1), .int (Int32.ofInt 2)]) 2 rfl ?_
            refine xr_icmp_ne rfl (by omega) (by omega) (fun z48 => ?_) (fun z48 => ?_)
            · refine xr_steps (pc' := 157) (L' := [(6, .int (Int32.ofInt (xat n f i))), (1, .int (Int32.ofInt ((D + 1 : Nat) : Int))), (2, .int (Int32.ofInt 2)), (3, .int (Int32.ofInt (cnt : Int))), (4, .int (Int32.ofInt (400 + (i : Int)))), (5, .int (Int32.ofInt (400 + (n : Int)))), (0, .ref 165)]) (st' := [.int (Int32.ofInt 2), .int (Int32.ofInt 2)]) 2 rfl ?_
              refine xr_icmp_le rfl (by omega) (by omega) (fun z49 => ?_) (fun z49 => ?_)
              · refine xr_steps (pc' := 269) (L' := [(6, .int (Int32.ofInt (xat n f i))), (1, .int (Int32.ofInt ((D + 1 : Nat) : Int))), (2, .int (Int32.ofInt 2)), (3, .int (Int32.ofInt (cnt : Int))), (4, .int (Int32.ofInt (400 + (i : Int)))), (5, .int (Int32.ofInt (400 + (n : Int)))), (0, .ref 165)]) (st' := [.int (Int32.ofInt 91), .int (Int32.ofInt (xat n f i))]) 2 rfl ?_
                refine xr_icmp_eq rfl (by omega) (by omega) (fun z50 => ?_) (fun z50 => ?_)
                · refine xr_steps (pc' := 281) (L' := [(6, .int (Int32.ofInt (xat n f i))), (1, .int (Int32.ofInt ((D + 1 : Nat) : Int))), (2, .int (Int32.ofInt 2)), (3, .int (Int32.ofInt (cnt : Int))), (4, .int (Int32.ofInt (400 + (i : Int)))), (5, .int (Int32.ofInt (400 + (n : Int)))), (0, .ref 165)]) (st' := [.int (Int32.ofInt 5), .int (Int32.ofInt ((D + 1 : Nat) : Int))]) 2 rfl ?_
                  refine xr_icmp_ne rfl (by omega) (by omega) (fun z51 => ?_) (fun z51 => ?_)
                  · refine xr_steps (pc' := 287) (L' := [(6, .int (Int32.ofInt (xat n f i))), (1, .int (Int32.ofInt ((D + 1 : Nat) : Int))), (2, .int (Int32.ofInt 2)), (3, .int (Int32.ofInt (cnt : Int))), (4, .int (Int32.ofInt (400 + (i : Int)))), (5, .int (Int32.ofInt (400 + (n : Int)))), (0, .ref 165)]) (st' := [.ref 165]) 1 rfl ?_
                    refine xr_getf (v := .ref 178) rfl (ym_165 hA) rfl ?_
                    refine xr_steps (pc' := 293) (L' := [(6, .int (Int32.ofInt (xat n f i))), (1, .int (Int32.ofInt ((D + 1 : Nat) : Int))), (2, .int (Int32.ofInt 2)), (3, .int (Int32.ofInt (cnt : Int))), (4, .int (Int32.ofInt (400 + (i : Int)))), (5, .int (Int32.ofInt (400 + (n : Int)))), (0, .ref 165)]) (st' := [.int (Int32.ofInt (xat n f i)), .int (Int32.ofInt ((D + 1 : Nat) : Int)), .ref 178]) 2 rfl ?_
                    refine ym_castore hA rfl rfl (by decide) (by omega) (by omega) (by omega) ?_
                    refine xr_steps (pc' := 295) (L' := [(6, .int (Int32.ofInt (xat n f i))), (1, .int (Int32.ofInt ((D + 1 : Nat) : Int))), (2, .int (Int32.ofInt 2)), (3, .int (Int32.ofInt (cnt : Int))), (4, .int (Int32.ofInt (400 + (i : Int)))), (5, .int (Int32.ofInt (400 + (n : Int)))), (0, .ref 165)]) (st' := [.ref 165]) 1 rfl ?_
                    refine xr_getf (v := .ref 179) rfl (ym_165 hA) rfl ?_
                    refine xr_steps (pc' := 300) (L' := [(6, .int (Int32.ofInt (xat n f i))), (1, .int (Int32.ofInt ((D + 1 : Nat) : Int))), (2, .int (Int32.ofInt 2)), (3, .int (Int32.ofInt (cnt : Int))), (4, .int (Int32.ofInt (400 + (i : Int)))), (5, .int (Int32.ofInt (400 + (n : Int)))), (0, .ref 165)]) (st' := [.int (Int32.ofInt 0), .int (Int32.ofInt ((D + 1 : Nat) : Int)), .ref 179]) 2 rfl ?_
                    refine ym_iastore hA rfl rfl (by decide) (by omega) (by omega) ?_
                    refine xr_iinc (L' := [(1, .int (Int32.ofInt (((D + 1 : Nat) : Int) + 1))), (6, .int (Int32.ofInt (xat n f i))), (2, .int (Int32.ofInt 2)), (3, .int (Int32.ofInt (cnt : Int))), (4, .int (Int32.ofInt (400 + (i : Int)))), (5, .int (Int32.ofInt (400 + (n : Int)))), (0, .ref 165)]) rfl rfl rfl ?_
                    refine xr_iinc (L' := [(3, .int (Int32.ofInt ((cnt : Int) + 1))), (1, .int (Int32.ofInt (((D + 1 : Nat) : Int) + 1))), (6, .int (Int32.ofInt (xat n f i))), (2, .int (Int32.ofInt 2)), (4, .int (Int32.ofInt (400 + (i : Int)))), (5, .int (Int32.ofInt (400 + (n : Int)))), (0, .ref 165)]) rfl rfl rfl ?_
                    refine xr_steps (pc' := 311) (L' := [(3, .int (Int32.ofInt ((cnt : Int) + 1))), (1, .int (Int32.ofInt (((D + 1 : Nat) : Int) + 1))), (6, .int (Int32.ofInt (xat n f i))), (2, .int (Int32.ofInt 2)), (4, .int (Int32.ofInt (400 + (i : Int)))), (5, .int (Int32.ofInt (400 + (n : Int)))), (0, .ref 165)]) (st' := [.int (Int32.ofInt 91), .int (Int32.ofInt (xat n f i))]) 2 rfl ?_
                    refine xr_icmp_ne rfl (by omega) (by omega) (fun z52 => ?_) (fun z52 => ?_)
                    · refine xr_steps (pc' := 320) (L' := [(2, .int (Int32.ofInt 3)), (3, .int (Int32.ofInt ((cnt : Int) + 1))), (1, .int (Int32.ofInt (((D + 1 : Nat) : Int) + 1))), (6, .int (Int32.ofInt (xat n f i))), (4, .int (Int32.ofInt (400 + (i : Int)))), (5, .int (Int32.ofInt (400 + (n : Int)))), (0, .ref 165)]) (st' := []) 2 rfl ?_
                      refine xr_iinc (L' := [(4, .int (Int32.ofInt ((400 + (i : Int)) + 1))), (2, .int (Int32.ofInt 3)), (3, .int (Int32.ofInt ((cnt : Int) + 1))), (1, .int (Int32.ofInt (((D + 1 : Nat) : Int) + 1))), (6, .int (Int32.ofInt (xat n f i))), (5, .int (Int32.ofInt (400 + (n : Int)))), (0, .ref 165)]) rfl rfl rfl ?_
                      refine xr_steps (pc' := 21) (L' := [(4, .int (Int32.ofInt ((400 + (i : Int)) + 1))), (2, .int (Int32.ofInt 3)), (3, .int (Int32.ofInt ((cnt : Int) + 1))), (1, .int (Int32.ofInt (((D + 1 : Nat) : Int) + 1))), (6, .int (Int32.ofInt (xat n f i))), (5, .int (Int32.ofInt (400 + (n : Int)))), (0, .ref 165)]) (st' := []) 2 rfl ?_
                      refine xr_loc (L := [(1, .int (Int32.ofInt (((D + 1 : Nat) : Int) + 1))), (2, .int (Int32.ofInt 3)), (3, .int (Int32.ofInt ((cnt : Int) + 1))), (4, .int (Int32.ofInt ((400 + (i : Int)) + 1))), (5, .int (Int32.ofInt (400 + (n : Int)))), (0, .ref 165)]) (show [1, 2, 3, 4, 5, 0].Nodup by decide) ⟨rfl, rfl, rfl, rfl, rfl, rfl, trivial⟩ ?_
                      exfalso; omega
                    · refine xr_steps (pc' := 320) (L' := [(2, .int (Int32.ofInt 2)), (3, .int (Int32.ofInt ((cnt : Int) + 1))), (1, .int (Int32.ofInt (((D + 1 : Nat) : Int) + 1))), (6, .int (Int32.ofInt (xat n f i))), (4, .int (Int32.ofInt (400 + (i : Int)))), (5, .int (Int32.ofInt (400 + (n : Int)))), (0, .ref 165)]) (st' := []) 3 rfl ?_
                      refine xr_iinc (L' := [(4, .int (Int32.ofInt ((400 + (i : Int)) + 1))), (2, .int (Int32.ofInt 2)), (3, .int (Int32.ofInt ((cnt : Int) + 1))), (1, .int (Int32.ofInt (((D + 1 : Nat) : Int) + 1))), (6, .int (Int32.ofInt (xat n f i))), (5, .int (Int32.ofInt (400 + (n : Int)))), (0, .ref 165)]) rfl rfl rfl ?_
                      refine xr_steps (pc' := 21) (L' := [(4, .int (Int32.ofInt ((400 + (i : Int)) + 1))), (2, .int (Int32.ofInt 2)), (3, .int (Int32.ofInt ((cnt : Int) + 1))), (1, .int (Int32.ofInt (((D + 1 : Nat) : Int) + 1))), (6, .int (Int32.ofInt (xat n f i))), (5, .int (Int32.ofInt (400 + (n : Int)))), (0, .ref 165)]) (st' := []) 2 rfl ?_
                      refine xr_loc (L := [(1, .int (Int32.ofInt (((D + 1 : Nat) : Int) + 1))), (2, .int (Int32.ofInt 2)), (3, .int (Int32.ofInt ((cnt : Int) + 1))), (4, .int (Int32.ofInt ((400 + (i : Int)) + 1))), (5, .int (Int32.ofInt (400 + (n : Int)))), (0, .ref 165)]) (show [1, 2, 3, 4, 5, 0].Nodup by decide) ⟨rfl, rfl, rfl, rfl, rfl, rfl, trivial⟩ ?_
                      exfalso; omega
                  · refine xr_steps (pc' := 285) (L' := [(6, .int (Int32.ofInt (xat n f i))), (1, .int (Int32.ofInt ((D + 1 : Nat) : Int))), (2, .int (Int32.ofInt 2)), (3, .int (Int32.ofInt (cnt : Int))), (4, .int (Int32.ofInt (400 + (i : Int)))), (5, .int (Int32.ofInt (400 + (n : Int)))), (0, .ref 165)]) (st' := [.int (Int32.ofInt (-1))]) 1 rfl ?_
                    exfalso; omega
                · refine xr_steps (pc' := 276) (L' := [(6, .int (Int32.ofInt (xat n f i))), (1, .int (Int32.ofInt ((D + 1 : Nat) : Int))), (2, .int (Int32.ofInt 2)), (3, .int (Int32.ofInt (cnt : Int))), (4, .int (Int32.ofInt (400 + (i : Int)))), (5, .int (Int32.ofInt (400 + (n : Int)))), (0, .ref 165)]) (st' := [.int (Int32.ofInt 123), .int (Int32.ofInt (xat n f i))]) 2 rfl ?_
                  refine xr_icmp_ne rfl (by omega) (by omega) (fun z53 => ?_) (fun z53 => ?_)
                  · refine xr_steps (pc' := 329) (L' := [(6, .int (Int32.ofInt (xat n f i))), (1, .int (Int32.ofInt ((D + 1 : Nat) : Int))), (2, .int (Int32.ofInt 2)), (3, .int (Int32.ofInt (cnt : Int))), (4, .int (Int32.ofInt (400 + (i : Int)))), (5, .int (Int32.ofInt (400 + (n : Int)))), (0, .ref 165)]) (st' := [.int (Int32.ofInt (400 + (i : Int))), .ref 165]) 2 rfl ?_
                    refine xr_call (q := (.invokevirtual 118, 3, 211, 2)) (av := [.ref 165, .int (Int32.ofInt (400 + (i : Int)))]) (rest := []) rfl rfl (by decide) rfl (ym_rcv hA rfl) (Nat.le_of_ble_eq_true rfl) (mo_211 hA hx (by omega)) ?_
                    rintro _ _ ⟨r, ⟨rfl, eA⟩, hr⟩
                    rw [eA]
                    clear eA
                    have hr32 : -1 ≤ r ∧ r ≤ 4000 := by
                      rcases hr with ⟨kd, ls, q, h1, h2⟩ | ⟨-, h2⟩
                      · have h3 := hpq kd ls q h1
                        omega
                      · omega
                    refine xr_steps (pc' := 336) (L' := [(4, .int (Int32.ofInt r)), (6, .int (Int32.ofInt (xat n f i))), (1, .int (Int32.ofInt ((D + 1 : Nat) : Int))), (2, .int (Int32.ofInt 2)), (3, .int (Int32.ofInt (cnt : Int))), (5, .int (Int32.ofInt (400 + (n : Int)))), (0, .ref 165)]) (st' := [.int (Int32.ofInt r)]) 2 rfl ?_
                    refine xr_if_ge rfl (by omega) (fun z54 => ?_) (fun z54 => ?_)
                    · refine xr_iinc (L' := [(3, .int (Int32.ofInt ((cnt : Int) + 1))), (4, .int (Int32.ofInt r)), (6, .int (Int32.ofInt (xat n f i))), (1, .int (Int32.ofInt ((D + 1 : Nat) : Int))), (2, .int (Int32.ofInt 2)), (5, .int (Int32.ofInt (400 + (n : Int)))), (0, .ref 165)]) rfl rfl rfl ?_
                      refine xr_steps (pc' := 21) (L' := [(2, .int (Int32.ofInt 1)), (3, .int (Int32.ofInt ((cnt : Int) + 1))), (4, .int (Int32.ofInt r)), (6, .int (Int32.ofInt (xat n f i))), (1, .int (Int32.ofInt ((D + 1 : Nat) : Int))), (5, .int (Int32.ofInt (400 + (n : Int)))), (0, .ref 165)]) (st' := []) 3 rfl ?_
                      refine xr_loc (L := [(1, .int (Int32.ofInt ((D + 1 : Nat) : Int))), (2, .int (Int32.ofInt 1)), (3, .int (Int32.ofInt ((cnt : Int) + 1))), (4, .int (Int32.ofInt r)), (5, .int (Int32.ofInt (400 + (n : Int)))), (0, .ref 165)]) (show [1, 2, 3, 4, 5, 0].Nodup by decide) ⟨rfl, rfl, rfl, rfl, rfl, rfl, trivial⟩ ?_
                      exfalso; omega
                    · refine xr_steps (pc' := 340) (L' := [(4, .int (Int32.ofInt r)), (6, .int (Int32.ofInt (xat n f i))), (1, .int (Int32.ofInt ((D + 1 : Nat) : Int))), (2, .int (Int32.ofInt 2)), (3, .int (Int32.ofInt (cnt : Int))), (5, .int (Int32.ofInt (400 + (n : Int)))), (0, .ref 165)]) (st' := [.int (Int32.ofInt (-1))]) 1 rfl ?_
                      exfalso; omega
                  · refine xr_steps (pc' := 281) (L' := [(6, .int (Int32.ofInt (xat n f i))), (1, .int (Int32.ofInt ((D + 1 : Nat) : Int))), (2, .int (Int32.ofInt 2)), (3, .int (Int32.ofInt (cnt : Int))), (4, .int (Int32.ofInt (400 + (i : Int)))), (5, .int (Int32.ofInt (400 + (n : Int)))), (0, .ref 165)]) (st' := [.int (Int32.ofInt 5), .int (Int32.ofInt ((D + 1 : Nat) : Int))]) 2 rfl ?_
                    refine xr_icmp_ne rfl (by omega) (by omega) (fun z55 => ?_) (fun z55 => ?_)
                    · refine xr_steps (pc' := 287) (L' := [(6, .int (Int32.ofInt (xat n f i))), (1, .int (Int32.ofInt ((D + 1 : Nat) : Int))), (2, .int (Int32.ofInt 2)), (3, .int (Int32.ofInt (cnt : Int))), (4, .int (Int32.ofInt (400 + (i : Int)))), (5, .int (Int32.ofInt (400 + (n : Int)))), (0, .ref 165)]) (st' := [.ref 165]) 1 rfl ?_
                      refine xr_getf (v := .ref 178) rfl (ym_165 hA) rfl ?_
                      refine xr_steps (pc' := 293) (L' := [(6, .int (Int32.ofInt (xat n f i))), (1, .int (Int32.ofInt ((D + 1 : Nat) : Int))), (2, .int (Int32.ofInt 2)), (3, .int (Int32.ofInt (cnt : Int))), (4, .int (Int32.ofInt (400 + (i : Int)))), (5, .int (Int32.ofInt (400 + (n : Int)))), (0, .ref 165)]) (st' := [.int (Int32.ofInt (xat n f i)), .int (Int32.ofInt ((D + 1 : Nat) : Int)), .ref 178]) 2 rfl ?_
                      refine ym_castore hA rfl rfl (by decide) (by omega) (by omega) (by omega) ?_
                      refine xr_steps (pc' := 295) (L' := [(6, .int (Int32.ofInt (xat n f i))), (1, .int (Int32.ofInt ((D + 1 : Nat) : Int))), (2, .int (Int32.ofInt 2)), (3, .int (Int32.ofInt (cnt : Int))), (4, .int (Int32.ofInt (400 + (i : Int)))), (5, .int (Int32.ofInt (400 + (n : Int)))), (0, .ref 165)]) (st' := [.ref 165]) 1 rfl ?_
                      refine xr_getf (v := .ref 179) rfl (ym_165 hA) rfl ?_
                      refine xr_steps (pc' := 300) (L' := [(6, .int (Int32.ofInt (xat n f i))), (1, .int (Int32.ofInt ((D + 1 : Nat) : Int))), (2, .int (Int32.ofInt 2)), (3, .int (Int32.ofInt (cnt : Int))), (4, .int (Int32.ofInt (400 + (i : Int)))), (5, .int (Int32.ofInt (400 + (n : Int)))), (0, .ref 165)]) (st' := [.int (Int32.ofInt 0), .int (Int32.ofInt ((D + 1 : Nat) : Int)), .ref 179]) 2 rfl ?_
                      refine ym_iastore hA rfl rfl (by decide) (by omega) (by omega) ?_
                      refine xr_iinc (L' := [(1, .int (Int32.ofInt (((D + 1 : Nat) : Int) + 1))), (6, .int (Int32.ofInt (xat n f i))), (2, .int (Int32.ofInt 2)), (3, .int (Int32.ofInt (cnt : Int))), (4, .int (Int32.ofInt (400 + (i : Int)))), (5, .int (Int32.ofInt (400 + (n : Int)))), (0, .ref 165)]) rfl rfl rfl ?_
                      refine xr_iinc (L' := [(3, .int (Int32.ofInt ((cnt : Int) + 1))), (1, .int (Int32.ofInt (((D + 1 : Nat) : Int) + 1))), (6, .int (Int32.ofInt (xat n f i))), (2, .int (Int32.ofInt 2)), (4, .int (Int32.ofInt (400 + (i : Int)))), (5, .int (Int32.ofInt (400 + (n : Int)))), (0, .ref 165)]) rfl rfl rfl ?_
                      refine xr_steps (pc' := 311) (L' := [(3, .int (Int32.ofInt ((cnt : Int) + 1))), (1, .int (Int32.ofInt (((D + 1 : Nat) : Int) + 1))), (6, .int (Int32.ofInt (xat n f i))), (2, .int (Int32.ofInt 2)), (4, .int (Int32.ofInt (400 + (i : Int)))), (5, .int (Int32.ofInt (400 + (n : Int)))), (0, .ref 165)]) (st' := [.int (Int32.ofInt 91), .int (Int32.ofInt (xat n f i))]) 2 rfl ?_
                      refine xr_icmp_ne rfl (by omega) (by omega) (fun z56 => ?_) (fun z56 => ?_)
                      · refine xr_steps (pc' := 320) (L' := [(2, .int (Int32.ofInt 3)), (3, .int (Int32.ofInt ((cnt : Int) + 1))), (1, .int (Int32.ofInt (((D + 1 : Nat) : Int) + 1))), (6, .int (Int32.ofInt (xat n f i))), (4, .int (Int32.ofInt (400 + (i : Int)))), (5, .int (Int32.ofInt (400 + (n : Int)))), (0, .ref 165)]) (st' := []) 2 rfl ?_
                        refine xr_iinc (L' := [(4, .int (Int32.ofInt ((400 + (i : Int)) + 1))), (2, .int (Int32.ofInt 3)), (3, .int (Int32.ofInt ((cnt : Int) + 1))), (1, .int (Int32.ofInt (((D + 1 : Nat) : Int) + 1))), (6, .int (Int32.ofInt (xat n f i))), (5, .int (Int32.ofInt (400 + (n : Int)))), (0, .ref 165)]) rfl rfl rfl ?_
                        refine xr_steps (pc' := 21) (L' := [(4, .int (Int32.ofInt ((400 + (i : Int)) + 1))), (2, .int (Int32.ofInt 3)), (3, .int (Int32.ofInt ((cnt : Int) + 1))), (1, .int (Int32.ofInt (((D + 1 : Nat) : Int) + 1))), (6, .int (Int32.ofInt (xat n f i))), (5, .int (Int32.ofInt (400 + (n : Int)))), (0, .ref 165)]) (st' := []) 2 rfl ?_
                        refine xr_loc (L := [(1, .int (Int32.ofInt (((D + 1 : Nat) : Int) + 1))), (2, .int (Int32.ofInt 3)), (3, .int (Int32.ofInt ((cnt : Int) + 1))), (4, .int (Int32.ofInt ((400 + (i : Int)) + 1))), (5, .int (Int32.ofInt (400 + (n : Int)))), (0, .ref 165)]) (show [1, 2, 3, 4, 5, 0].Nodup by decide) ⟨rfl, rfl, rfl, rfl, rfl, rfl, trivial⟩ ?_
                        exfalso; omega
                      · refine xr_steps (pc' := 320) (L' := [(2, .int (Int32.ofInt 2)), (3, .int (Int32.ofInt ((cnt : Int) + 1))), (1, .int (Int32.ofInt (((D + 1 : Nat) : Int) + 1))), (6, .int (Int32.ofInt (xat n f i))), (4, .int (Int32.ofInt (400 + (i : Int)))), (5, .int (Int32.ofInt (400 + (n : Int)))), (0, .ref 165)]) (st' := []) 3 rfl ?_
                        refine xr_iinc (L' := [(4, .int (Int32.ofInt ((400 + (i : Int)) + 1))), (2, .int (Int32.ofInt 2)), (3, .int (Int32.ofInt ((cnt : Int) + 1))), (1, .int (Int32.ofInt (((D + 1 : Nat) : Int) + 1))), (6, .int (Int32.ofInt (xat n f i))), (5, .int (Int32.ofInt (400 + (n : Int)))), (0, .ref 165)]) rfl rfl rfl ?_
                        refine xr_steps (pc' := 21) (L' := [(4, .int (Int32.ofInt ((400 + (i : Int)) + 1))), (2, .int (Int32.ofInt 2)), (3, .int (Int32.ofInt ((cnt : Int) + 1))), (1, .int (Int32.ofInt (((D + 1 : Nat) : Int) + 1))), (6, .int (Int32.ofInt (xat n f i))), (5, .int (Int32.ofInt (400 + (n : Int)))), (0, .ref 165)]) (st' := []) 2 rfl ?_
                        refine xr_loc (L := [(1, .int (Int32.ofInt (((D + 1 : Nat) : Int) + 1))), (2, .int (Int32.ofInt 2)), (3, .int (Int32.ofInt ((cnt : Int) + 1))), (4, .int (Int32.ofInt ((400 + (i : Int)) + 1))), (5, .int (Int32.ofInt (400 + (n : Int)))), (0, .ref 165)]) (show [1, 2, 3, 4, 5, 0].Nodup by decide) ⟨rfl, rfl, rfl, rfl, rfl, rfl, trivial⟩ ?_
                        exfalso; omega
                    · refine xr_steps (pc' := 285) (L' := [(6, .int (Int32.ofInt (xat n f i))), (1, .int (Int32.ofInt ((D + 1 : Nat) : Int))), (2, .int (Int32.ofInt 2)), (3, .int (Int32.ofInt (cnt : Int))), (4, .int (Int32.ofInt (400 + (i : Int)))), (5, .int (Int32.ofInt (400 + (n : Int)))), (0, .ref 165)]) (st' := [.int (Int32.ofInt (-1))]) 1 rfl ?_
                      exfalso; omega
              · exfalso; omega
            · exfalso; omega
          · exfalso; omega
    · refine xr_steps (pc' := 45) (L' := [(6, .int (Int32.ofInt (xat n f i))), (1, .int (Int32.ofInt ((D + 1 : Nat) : Int))), (2, .int (Int32.ofInt 2)), (3, .int (Int32.ofInt (cnt : Int))), (4, .int (Int32.ofInt (400 + (i : Int)))), (5, .int (Int32.ofInt (400 + (n : Int)))), (0, .ref 165)]) (st' := [.int (Int32.ofInt 1), .int (Int32.ofInt 2)]) 2 rfl ?_
      refine xr_icmp_eq rfl (by omega) (by omega) (fun z57 => ?_) (fun z57 => ?_)
      · exfalso; omega
      · refine xr_steps (pc' := 50) (L' := [(6, .int (Int32.ofInt (xat n f i))), (1, .int (Int32.ofInt ((D + 1 : Nat) : Int))), (2, .int (Int32.ofInt 2)), (3, .int (Int32.ofInt (cnt : Int))), (4, .int (Int32.ofInt (400 + (i : Int)))), (5, .int (Int32.ofInt (400 + (n : Int)))), (0, .ref 165)]) (st' := [.int (Int32.ofInt 2), .int (Int32.ofInt 2)]) 2 rfl ?_
        refine xr_icmp_eq rfl (by omega) (by omega) (fun z58 => ?_) (fun z58 => ?_)
        · refine xr_steps (pc' := 71) (L' := [(6, .int (Int32.ofInt (xat n f i))), (1, .int (Int32.ofInt ((D + 1 : Nat) : Int))), (2, .int (Int32.ofInt 2)), (3, .int (Int32.ofInt (cnt : Int))), (4, .int (Int32.ofInt (400 + (i : Int)))), (5, .int (Int32.ofInt (400 + (n : Int)))), (0, .ref 165)]) (st' := [.int (Int32.ofInt ((D + 1 : Nat) : Int))]) 1 rfl ?_
          refine xr_if_eq rfl (by omega) (fun z59 => ?_) (fun z59 => ?_)
          · refine xr_steps (pc' := 100) (L' := [(6, .int (Int32.ofInt (xat n f i))), (1, .int (Int32.ofInt ((D + 1 : Nat) : Int))), (2, .int (Int32.ofInt 2)), (3, .int (Int32.ofInt (cnt : Int))), (4, .int (Int32.ofInt (400 + (i : Int)))), (5, .int (Int32.ofInt (400 + (n : Int)))), (0, .ref 165)]) (st' := [.int (Int32.ofInt (-1))]) 1 rfl ?_
            exfalso; omega
          · refine xr_steps (pc' := 75) (L' := [(6, .int (Int32.ofInt (xat n f i))), (1, .int (Int32.ofInt ((D + 1 : Nat) : Int))), (2, .int (Int32.ofInt 2)), (3, .int (Int32.ofInt (cnt : Int))), (4, .int (Int32.ofInt (400 + (i : Int)))), (5, .int (Int32.ofInt (400 + (n : Int)))), (0, .ref 165)]) (st' := [.ref 165]) 1 rfl ?_
            refine xr_getf (v := .ref 178) rfl (ym_165 hA) rfl ?_
            refine xr_steps (pc' := 80) (L' := [(6, .int (Int32.ofInt (xat n f i))), (1, .int (Int32.ofInt ((D + 1 : Nat) : Int))), (2, .int (Int32.ofInt 2)), (3, .int (Int32.ofInt (cnt : Int))), (4, .int (Int32.ofInt (400 + (i : Int)))), (5, .int (Int32.ofInt (400 + (n : Int)))), (0, .ref 165)]) (st' := [.int (Int32.ofInt 1), .int (Int32.ofInt ((D + 1 : Nat) : Int)), .ref 178]) 2 rfl ?_
            refine xr_isub rfl ?_
            rw [show ((D + 1 : Nat) : Int) - 1 = (D : Int) by omega]
            refine ym_caload (e := T 178 (D : Int).toNat) hA rfl rfl (by decide) (by omega) (by omega) rfl ?_
            rw [show (D : Int).toNat = D by omega]
            refine xr_steps (pc' := 86) (L' := [(6, .int (Int32.ofInt (xat n f i))), (1, .int (Int32.ofInt ((D + 1 : Nat) : Int))), (2, .int (Int32.ofInt 2)), (3, .int (Int32.ofInt (cnt : Int))), (4, .int (Int32.ofInt (400 + (i : Int)))), (5, .int (Int32.ofInt (400 + (n : Int)))), (0, .ref 165)]) (st' := [.int (Int32.ofInt 93), .int (Int32.ofInt (xat n f i)), .int (Int32.ofInt (T 178 D))]) 2 rfl ?_
            refine xr_icmp_ne rfl (by omega) (by omega) (fun z60 => ?_) (fun z60 => ?_)
            · refine xr_steps (pc' := 96) (L' := [(6, .int (Int32.ofInt (xat n f i))), (1, .int (Int32.ofInt ((D + 1 : Nat) : Int))), (2, .int (Int32.ofInt 2)), (3, .int (Int32.ofInt (cnt : Int))), (4, .int (Int32.ofInt (400 + (i : Int)))), (5, .int (Int32.ofInt (400 + (n : Int)))), (0, .ref 165)]) (st' := [.int (Int32.ofInt 123), .int (Int32.ofInt (T 178 D))]) 1 rfl ?_
              refine xr_icmp_eq rfl (by omega) (by omega) (fun z61 => ?_) (fun z61 => ?_)
              · refine xr_iincn (L' := [(1, .int (Int32.ofInt (((D + 1 : Nat) : Int) - 1))), (6, .int (Int32.ofInt (xat n f i))), (2, .int (Int32.ofInt 2)), (3, .int (Int32.ofInt (cnt : Int))), (4, .int (Int32.ofInt (400 + (i : Int)))), (5, .int (Int32.ofInt (400 + (n : Int)))), (0, .ref 165)]) rfl rfl rfl ?_
                rw [show ((D + 1 : Nat) : Int) - 1 = (D : Int) by omega]
                refine xr_steps (pc' := 106) (L' := [(2, .int (Int32.ofInt 1)), (1, .int (Int32.ofInt (D : Int))), (6, .int (Int32.ofInt (xat n f i))), (3, .int (Int32.ofInt (cnt : Int))), (4, .int (Int32.ofInt (400 + (i : Int)))), (5, .int (Int32.ofInt (400 + (n : Int)))), (0, .ref 165)]) (st' := []) 2 rfl ?_
                refine xr_iinc (L' := [(4, .int (Int32.ofInt ((400 + (i : Int)) + 1))), (2, .int (Int32.ofInt 1)), (1, .int (Int32.ofInt (D : Int))), (6, .int (Int32.ofInt (xat n f i))), (3, .int (Int32.ofInt (cnt : Int))), (5, .int (Int32.ofInt (400 + (n : Int)))), (0, .ref 165)]) rfl rfl rfl ?_
                refine xr_steps (pc' := 21) (L' := [(4, .int (Int32.ofInt ((400 + (i : Int)) + 1))), (2, .int (Int32.ofInt 1)), (1, .int (Int32.ofInt (D : Int))), (6, .int (Int32.ofInt (xat n f i))), (3, .int (Int32.ofInt (cnt : Int))), (5, .int (Int32.ofInt (400 + (n : Int)))), (0, .ref 165)]) (st' := []) 2 rfl ?_
                refine xr_loc (L := [(1, .int (Int32.ofInt (D : Int))), (2, .int (Int32.ofInt 1)), (3, .int (Int32.ofInt (cnt : Int))), (4, .int (Int32.ofInt ((400 + (i : Int)) + 1))), (5, .int (Int32.ofInt (400 + (n : Int)))), (0, .ref 165)]) (show [1, 2, 3, 4, 5, 0].Nodup by decide) ⟨rfl, rfl, rfl, rfl, rfl, rfl, trivial⟩ ?_
                first
                  | (rw [show 400 + (i : Int) + 1 = 400 + ((i + 1 : Nat) : Int) by omega]; exact hcl)
                  | (exfalso; omega)
              · refine xr_steps (pc' := 100) (L' := [(6, .int (Int32.ofInt (xat n f i))), (1, .int (Int32.ofInt ((D + 1 : Nat) : Int))), (2, .int (Int32.ofInt 2)), (3, .int (Int32.ofInt (cnt : Int))), (4, .int (Int32.ofInt (400 + (i : Int)))), (5, .int (Int32.ofInt (400 + (n : Int)))), (0, .ref 165)]) (st' := [.int (Int32.ofInt (-1))]) 1 rfl ?_
                exfalso; omega
            · refine xr_steps (pc' := 96) (L' := [(6, .int (Int32.ofInt (xat n f i))), (1, .int (Int32.ofInt ((D + 1 : Nat) : Int))), (2, .int (Int32.ofInt 2)), (3, .int (Int32.ofInt (cnt : Int))), (4, .int (Int32.ofInt (400 + (i : Int)))), (5, .int (Int32.ofInt (400 + (n : Int)))), (0, .ref 165)]) (st' := [.int (Int32.ofInt 91), .int (Int32.ofInt (T 178 D))]) 2 rfl ?_
              refine xr_icmp_eq rfl (by omega) (by omega) (fun z62 => ?_) (fun z62 => ?_)
              · refine xr_iincn (L' := [(1, .int (Int32.ofInt (((D + 1 : Nat) : Int) - 1))), (6, .int (Int32.ofInt (xat n f i))), (2, .int (Int32.ofInt 2)), (3, .int (Int32.ofInt (cnt : Int))), (4, .int (Int32.ofInt (400 + (i : Int)))), (5, .int (Int32.ofInt (400 + (n : Int)))), (0, .ref 165)]) rfl rfl rfl ?_
                rw [show ((D + 1 : Nat) : Int) - 1 = (D : Int) by omega]
                refine xr_steps (pc' := 106) (L' := [(2, .int (Int32.ofInt 1)), (1, .int (Int32.ofInt (D : Int))), (6, .int (Int32.ofInt (xat n f i))), (3, .int (Int32.ofInt (cnt : Int))), (4, .int (Int32.ofInt (400 + (i : Int)))), (5, .int (Int32.ofInt (400 + (n : Int)))), (0, .ref 165)]) (st' := []) 2 rfl ?_
                refine xr_iinc (L' := [(4, .int (Int32.ofInt ((400 + (i : Int)) + 1))), (2, .int (Int32.ofInt 1)), (1, .int (Int32.ofInt (D : Int))), (6, .int (Int32.ofInt (xat n f i))), (3, .int (Int32.ofInt (cnt : Int))), (5, .int (Int32.ofInt (400 + (n : Int)))), (0, .ref 165)]) rfl rfl rfl ?_
                refine xr_steps (pc' := 21) (L' := [(4, .int (Int32.ofInt ((400 + (i : Int)) + 1))), (2, .int (Int32.ofInt 1)), (1, .int (Int32.ofInt (D : Int))), (6, .int (Int32.ofInt (xat n f i))), (3, .int (Int32.ofInt (cnt : Int))), (5, .int (Int32.ofInt (400 + (n : Int)))), (0, .ref 165)]) (st' := []) 2 rfl ?_
                refine xr_loc (L := [(1, .int (Int32.ofInt (D : Int))), (2, .int (Int32.ofInt 1)), (3, .int (Int32.ofInt (cnt : Int))), (4, .int (Int32.ofInt ((400 + (i : Int)) + 1))), (5, .int (Int32.ofInt (400 + (n : Int)))), (0, .ref 165)]) (show [1, 2, 3, 4, 5, 0].Nodup by decide) ⟨rfl, rfl, rfl, rfl, rfl, rfl, trivial⟩ ?_
                first
                  | (rw [show 400 + (i : Int) + 1 = 400 + ((i + 1 : Nat) : Int) by omega]; exact hcl)
                  | (exfalso; omega)
              · refine xr_steps (pc' := 100) (L' := [(6, .int (Int32.ofInt (xat n f i))), (1, .int (Int32.ofInt ((D + 1 : Nat) : Int))), (2, .int (Int32.ofInt 2)), (3, .int (Int32.ofInt (cnt : Int))), (4, .int (Int32.ofInt (400 + (i : Int)))), (5, .int (Int32.ofInt (400 + (n : Int)))), (0, .ref 165)]) (st' := [.int (Int32.ofInt (-1))]) 1 rfl ?_
                exfalso; omega
        · exfalso; omega
theorem mo_208e3 (hA : 194 ≤ A.1) (hx : xtx s T n f) (hcn : cnt ≤ 1000) (hi : i ≤ 1000) (hD : D ≤ 5) (hop : T 178 D = 123) (hc0 : ye n f i = 125) (hcl : xr_ok (xt_G w) (d + 1 + 1 + 1) 208 21 [(1, .int (Int32.ofInt (D : Int))), (2, .int (Int32.ofInt 1)), (3, .int (Int32.ofInt (cnt : Int))), (4, .int (Int32.ofInt (400 + ((i + 1 : Nat) : Int)))), (5, .int (Int32.ofInt (400 + (n : Int)))), (0, .ref 165)] [] (ym A s T) Q) : xr_ok (xt_G w) (d + 1 + 1 + 1) 208 21 [(1, .int (Int32.ofInt ((D + 1 : Nat) : Int))), (2, .int (Int32.ofInt 3)), (3, .int (Int32.ofInt (cnt : Int))), (4, .int (Int32.ofInt (400 + (i : Int)))), (5, .int (Int32.ofInt (400 + (n : Int)))), (0, .ref 165)] [] (ym A s T) Q := by
  have hn := hx.2.1
  have hye := xtx_ye hx i
  have hpq : ∀ (kd : Nat) (ls : List Int) (q : Nat), xpl (ye n f) i = some (kd, ls, q) → q ≤ 100 := fun kd ls q h => by
    exfalso
    unfold xpl at h
    rw [if_neg (by omega), if_neg (by omega), if_neg (by omega), if_neg (by omega)] at h
    unfold xpn at h
    rw [if_neg (by omega), if_neg (by rw [if_neg (show ¬ ye n f i = 45 by omega), Nat.add_zero, yn, if_neg (by omega)]; omega)] at h
    cases h
  refine xr_steps (pc' := 25) (L' := [(1, .int (Int32.ofInt ((D + 1 : Nat) : Int))), (2, .int (Int32.ofInt 3)), (3, .int (Int32.ofInt (cnt : Int))), (4, .int (Int32.ofInt (400 + (i : Int)))), (5, .int (Int32.ofInt (400 + (n : Int)))), (0, .ref 165)]) (st' := [.int (Int32.ofInt (400 + (n : Int))), .int (Int32.ofInt (400 + (i : Int)))]) 2 rfl ?_
  refine xr_icmp_ge rfl (by omega) (by omega) (fun z31 => ?_) (fun z31 => ?_)
  · refine xr_steps (pc' := 350) (L' := [(1, .int (Int32.ofInt ((D + 1 : Nat) : Int))), (2, .int (Int32.ofInt 3)), (3, .int (Int32.ofInt (cnt : Int))), (4, .int (Int32.ofInt (400 + (i : Int)))), (5, .int (Int32.ofInt (400 + (n : Int)))), (0, .ref 165)]) (st' := [.int (Int32.ofInt ((D + 1 : Nat) : Int))]) 1 rfl ?_
    refine xr_if_ne rfl (by omega) (fun z32 => ?_) (fun z32 => ?_)
    · refine xr_steps (pc' := 363) (L' := [(1, .int (Int32.ofInt ((D + 1 : Nat) : Int))), (2, .int (Int32.ofInt 3)), (3, .int (Int32.ofInt (cnt : Int))), (4, .int (Int32.ofInt (400 + (i : Int)))), (5, .int (Int32.ofInt (400 + (n : Int)))), (0, .ref 165)]) (st' := [.int (Int32.ofInt (-1))]) 1 rfl ?_
      exfalso; omega
    · refine xr_steps (pc' := 355) (L' := [(1, .int (Int32.ofInt ((D + 1 : Nat) : Int))), (2, .int (Int32.ofInt 3)), (3, .int (Int32.ofInt (cnt : Int))), (4, .int (Int32.ofInt (400 + (i : Int)))), (5, .int (Int32.ofInt (400 + (n : Int)))), (0, .ref 165)]) (st' := [.int (Int32.ofInt 1), .int (Int32.ofInt 3)]) 2 rfl ?_
      refine xr_icmp_ne rfl (by omega) (by omega) (fun z33 => ?_) (fun z33 => ?_)
      · refine xr_steps (pc' := 363) (L' := [(1, .int (Int32.ofInt ((D + 1 : Nat) : Int))), (2, .int (Int32.ofInt 3)), (3, .int (Int32.ofInt (cnt : Int))), (4, .int (Int32.ofInt (400 + (i : Int)))), (5, .int (Int32.ofInt (400 + (n : Int)))), (0, .ref 165)]) (st' := [.int (Int32.ofInt (-1))]) 1 rfl ?_
        exfalso; omega
      · exfalso; omega
  · refine xr_steps (pc' := 31) (L' := [(1, .int (Int32.ofInt ((D + 1 : Nat) : Int))), (2, .int (Int32.ofInt 3)), (3, .int (Int32.ofInt (cnt : Int))), (4, .int (Int32.ofInt (400 + (i : Int)))), (5, .int (Int32.ofInt (400 + (n : Int)))), (0, .ref 165)]) (st' := [.int (Int32.ofInt (400 + (i : Int))), .ref 165]) 2 rfl ?_
    refine xr_call (q := (.invokevirtual 103, 3, 209, 2)) (av := [.ref 165, .int (Int32.ofInt (400 + (i : Int)))]) (rest := []) rfl rfl (by decide) rfl (ym_rcv hA rfl) (Nat.le_of_ble_eq_true rfl) (mo_209t (i := i) hA hx (by omega) (by omega)) ?_
    rintro _ _ ⟨rfl, eA⟩
    rw [eA]
    clear eA
    have hx34 := xtx_ye hx i
    refine xr_steps (pc' := 40) (L' := [(6, .int (Int32.ofInt (xat n f i))), (1, .int (Int32.ofInt ((D + 1 : Nat) : Int))), (2, .int (Int32.ofInt 3)), (3, .int (Int32.ofInt (cnt : Int))), (4, .int (Int32.ofInt (400 + (i : Int)))), (5, .int (Int32.ofInt (400 + (n : Int)))), (0, .ref 165)]) (st' := [.int (Int32.ofInt 93), .int (Int32.ofInt (xat n f i))]) 3 rfl ?_
    refine xr_icmp_ne rfl (by omega) (by omega) (fun z35 => ?_) (fun z35 => ?_)
    · refine xr_steps (pc' := 57) (L' := [(6, .int (Int32.ofInt (xat n f i))), (1, .int (Int32.ofInt ((D + 1 : Nat) : Int))), (2, .int (Int32.ofInt 3)), (3, .int (Int32.ofInt (cnt : Int))), (4, .int (Int32.ofInt (400 + (i : Int)))), (5, .int (Int32.ofInt (400 + (n : Int)))), (0, .ref 165)]) (st' := [.int (Int32.ofInt 125), .int (Int32.ofInt (xat n f i))]) 2 rfl ?_
      refine xr_icmp_ne rfl (by omega) (by omega) (fun z36 => ?_) (fun z36 => ?_)
      · refine xr_steps (pc' := 114) (L' := [(6, .int (Int32.ofInt (xat n f i))), (1, .int (Int32.ofInt ((D + 1 : Nat) : Int))), (2, .int (Int32.ofInt 3)), (3, .int (Int32.ofInt (cnt : Int))), (4, .int (Int32.ofInt (400 + (i : Int)))), (5, .int (Int32.ofInt (400 + (n : Int)))), (0, .ref 165)]) (st' := [.int (Int32.ofInt 1), .int (Int32.ofInt 3)]) 2 rfl ?_
        refine xr_icmp_ne rfl (by omega) (by omega) (fun z37 => ?_) (fun z37 => ?_)
        · refine xr_steps (pc' := 157) (L' := [(6, .int (Int32.ofInt (xat n f i))), (1, .int (Int32.ofInt ((D + 1 : Nat) : Int))), (2, .int (Int32.ofInt 3)), (3, .int (Int32.ofInt (cnt : Int))), (4, .int (Int32.ofInt (400 + (i : Int)))), (5, .int (Int32.ofInt (400 + (n : Int)))), (0, .ref 165)]) (st' := [.int (Int32.ofInt 2), .int (Int32.ofInt 3)]) 2 rfl ?_
          refine xr_icmp_le rfl (by omega) (by omega) (fun z38 => ?_) (fun z38 => ?_)
          · exfalso; omega
          · refine xr_steps (pc' := 164) (L' := [(6, .int (Int32.ofInt (xat n f i))), (1, .int (Int32.ofInt ((D + 1 : Nat) : Int))), (2, .int (Int32.ofInt 3)), (3, .int (Int32.ofInt (cnt : Int))), (4, .int (Int32.ofInt (400 + (i : Int)))), (5, .int (Int32.ofInt (400 + (n : Int)))), (0, .ref 165)]) (st' := [.int (Int32.ofInt 1), .int (Int32.ofInt (400 + (i : Int))), .ref 165]) 3 rfl ?_
            refine xr_iadd rfl ?_
            refine xr_call (q := (.invokevirtual 103, 3, 209, 2)) (av := [.ref 165, .int (Int32.ofInt ((400 + (i : Int)) + 1))]) (rest := []) rfl rfl (by decide) rfl (ym_rcv hA rfl) (Nat.le_of_ble_eq_true rfl) (mo_209t (i := i + 1) hA hx (by omega) (by omega)) ?_
            rintro _ _ ⟨rfl, eA⟩
            rw [eA]
            clear eA
            have hx39 := xtx_ye hx (i + 1)
            refine xr_steps (pc' := 174) (L' := [(7, .int (Int32.ofInt (xat n f (i + 1)))), (6, .int (Int32.ofInt (xat n f i))), (1, .int (Int32.ofInt ((D + 1 : Nat) : Int))), (2, .int (Int32.ofInt 3)), (3, .int (Int32.ofInt (cnt : Int))), (4, .int (Int32.ofInt (400 + (i : Int)))), (5, .int (Int32.ofInt (400 + (n : Int)))), (0, .ref 165)]) (st' := [.int (Int32.ofInt 34), .int (Int32.ofInt (xat n f i))]) 3 rfl ?_
            refine xr_icmp_ne rfl (by omega) (by omega) (fun z40 => ?_) (fun z40 => ?_)
            · refine xr_steps (pc' := 232) (L' := [(7, .int (Int32.ofInt (xat n f (i + 1)))), (6, .int (Int32.ofInt (xat n f i))), (1, .int (Int32.ofInt ((D + 1 : Nat) : Int))), (2, .int (Int32.ofInt 3)), (3, .int (Int32.ofInt (cnt : Int))), (4, .int (Int32.ofInt (400 + (i : Int)))), (5, .int (Int32.ofInt (400 + (n : Int)))), (0, .ref 165)]) (st' := [.int (Int32.ofInt (-1))]) 1 rfl ?_
              exfalso; omega
            · refine xr_steps (pc' := 179) (L' := [(7, .int (Int32.ofInt (xat n f (i + 1)))), (6, .int (Int32.ofInt (xat n f i))), (1, .int (Int32.ofInt ((D + 1 : Nat) : Int))), (2, .int (Int32.ofInt 3)), (3, .int (Int32.ofInt (cnt : Int))), (4, .int (Int32.ofInt (400 + (i : Int)))), (5, .int (Int32.ofInt (400 + (n : Int)))), (0, .ref 165)]) (st' := [.int (Int32.ofInt (xat n f (i + 1)))]) 1 rfl ?_
              obtain ⟨bl, hbl⟩ := mo_bool (97 ≤ xat n f (i + 1) ∧ xat n f (i + 1) ≤ 122)
              refine xr_call (q := (.invokestatic 111, 3, 210, 1)) (av := [.int (Int32.ofInt (xat n f (i + 1)))]) (rest := []) rfl rfl (by decide) rfl rfl (Nat.le_of_ble_eq_true rfl) (mo_210 (by omega) hbl) ?_
              rintro _ _ ⟨rfl, eA⟩
              rw [eA]
              clear eA
              refine xr_if_eq rfl (by omega) (fun z41 => ?_) (fun z41 => ?_)
              · refine xr_steps (pc' := 232) (L' := [(7, .int (Int32.ofInt (xat n f (i + 1)))), (6, .int (Int32.ofInt (xat n f i))), (1, .int (Int32.ofInt ((D + 1 : Nat) : Int))), (2, .int (Int32.ofInt 3)), (3, .int (Int32.ofInt (cnt : Int))), (4, .int (Int32.ofInt (400 + (i : Int)))), (5, .int (Int32.ofInt (400 + (n : Int)))), (0, .ref 165)]) (st' := [.int (Int32.ofInt (-1))]) 1 rfl ?_
                exfalso; omega
              · refine xr_steps (pc' := 189) (L' := [(7, .int (Int32.ofInt (xat n f (i + 1)))), (6, .int (Int32.ofInt (xat n f i))), (1, .int (Int32.ofInt ((D + 1 : Nat) : Int))), (2, .int (Int32.ofInt 3)), (3, .int (Int32.ofInt (cnt : Int))), (4, .int (Int32.ofInt (400 + (i : Int)))), (5, .int (Int32.ofInt (400 + (n : Int)))), (0, .ref 165)]) (st' := [.int (Int32.ofInt 2), .int (Int32.ofInt (400 + (i : Int))), .ref 165]) 3 rfl ?_
                refine xr_iadd rfl ?_
                refine xr_call (q := (.invokevirtual 103, 3, 209, 2)) (av := [.ref 165, .int (Int32.ofInt ((400 + (i : Int)) + 2))]) (rest := []) rfl rfl (by decide) rfl (ym_rcv hA rfl) (Nat.le_of_ble_eq_true rfl) (mo_209t (i := i + 2) hA hx (by omega) (by omega)) ?_
                rintro _ _ ⟨rfl, eA⟩
                rw [eA]
                clear eA
                have hx42 := xtx_ye hx (i + 2)
                refine xr_steps (pc' := 195) (L' := [(7, .int (Int32.ofInt (xat n f (i + 1)))), (6, .int (Int32.ofInt (xat n f i))), (1, .int (Int32.ofInt ((D + 1 : Nat) : Int))), (2, .int (Int32.ofInt 3)), (3, .int (Int32.ofInt (cnt : Int))), (4, .int (Int32.ofInt (400 + (i : Int)))), (5, .int (Int32.ofInt (400 + (n : Int)))), (0, .ref 165)]) (st' := [.int (Int32.ofInt 34), .int (Int32.ofInt (xat n f (i + 2)))]) 1 rfl ?_
                refine xr_icmp_ne rfl (by omega) (by omega) (fun z43 => ?_) (fun z43 => ?_)
                · refine xr_steps (pc' := 232) (L' := [(7, .int (Int32.ofInt (xat n f (i + 1)))), (6, .int (Int32.ofInt (xat n f i))), (1, .int (Int32.ofInt ((D + 1 : Nat) : Int))), (2, .int (Int32.ofInt 3)), (3, .int (Int32.ofInt (cnt : Int))), (4, .int (Int32.ofInt (400 + (i : Int)))), (5, .int (Int32.ofInt (400 + (n : Int)))), (0, .ref 165)]) (st' := [.int (Int32.ofInt (-1))]) 1 rfl ?_
                  exfalso; omega
                · refine xr_steps (pc' := 202) (L' := [(7, .int (Int32.ofInt (xat n f (i + 1)))), (6, .int (Int32.ofInt (xat n f i))), (1, .int (Int32.ofInt ((D + 1 : Nat) : Int))), (2, .int (Int32.ofInt 3)), (3, .int (Int32.ofInt (cnt : Int))), (4, .int (Int32.ofInt (400 + (i : Int)))), (5, .int (Int32.ofInt (400 + (n : Int)))), (0, .ref 165)]) (st' := [.int (Int32.ofInt 3), .int (Int32.ofInt (400 + (i : Int))), .ref 165]) 3 rfl ?_
                  refine xr_iadd rfl ?_
                  refine xr_call (q := (.invokevirtual 103, 3, 209, 2)) (av := [.ref 165, .int (Int32.ofInt ((400 + (i : Int)) + 3))]) (rest := []) rfl rfl (by decide) rfl (ym_rcv hA rfl) (Nat.le_of_ble_eq_true rfl) (mo_209t (i := i + 3) hA hx (by omega) (by omega)) ?_
                  rintro _ _ ⟨rfl, eA⟩
                  rw [eA]
                  clear eA
                  have hx44 := xtx_ye hx (i + 3)
                  refine xr_steps (pc' := 208) (L' := [(7, .int (Int32.ofInt (xat n f (i + 1)))), (6, .int (Int32.ofInt (xat n f i))), (1, .int (Int32.ofInt ((D + 1 : Nat) : Int))), (2, .int (Int32.ofInt 3)), (3, .int (Int32.ofInt (cnt : Int))), (4, .int (Int32.ofInt (400 + (i : Int)))), (5, .int (Int32.ofInt (400 + (n : Int)))), (0, .ref 165)]) (st' := [.int (Int32.ofInt 58), .int (Int32.ofInt (xat n f (i + 3)))]) 1 rfl ?_
                  refine xr_icmp_ne rfl (by omega) (by omega) (fun z45 => ?_) (fun z45 => ?_)
                  · refine xr_steps (pc' := 232) (L' := [(7, .int (Int32.ofInt (xat n f (i + 1)))), (6, .int (Int32.ofInt (xat n f i))), (1, .int (Int32.ofInt ((D + 1 : Nat) : Int))), (2, .int (Int32.ofInt 3)), (3, .int (Int32.ofInt (cnt : Int))), (4, .int (Int32.ofInt (400 + (i : Int)))), (5, .int (Int32.ofInt (400 + (n : Int)))), (0, .ref 165)]) (st' := [.int (Int32.ofInt (-1))]) 1 rfl ?_
                    exfalso; omega
                  · refine xr_steps (pc' := 212) (L' := [(7, .int (Int32.ofInt (xat n f (i + 1)))), (6, .int (Int32.ofInt (xat n f i))), (1, .int (Int32.ofInt ((D + 1 : Nat) : Int))), (2, .int (Int32.ofInt 3)), (3, .int (Int32.ofInt (cnt : Int))), (4, .int (Int32.ofInt (400 + (i : Int)))), (5, .int (Int32.ofInt (400 + (n : Int)))), (0, .ref 165)]) (st' := [.ref 165]) 1 rfl ?_
                    refine xr_getf (v := .ref 179) rfl (ym_165 hA) rfl ?_
                    refine xr_steps (pc' := 217) (L' := [(7, .int (Int32.ofInt (xat n f (i + 1)))), (6, .int (Int32.ofInt (xat n f i))), (1, .int (Int32.ofInt ((D + 1 : Nat) : Int))), (2, .int (Int32.ofInt 3)), (3, .int (Int32.ofInt (cnt : Int))), (4, .int (Int32.ofInt (400 + (i : Int)))), (5, .int (Int32.ofInt (400 + (n : Int)))), (0, .ref 165)]) (st' := [.int (Int32.ofInt 1), .int (Int32.ofInt ((D + 1 : Nat) : Int)), .ref 179]) 2 rfl ?_
                    refine xr_isub rfl ?_
                    rw [show ((D + 1 : Nat) : Int) - 1 = (D : Int) by omega]
                    refine ym_iaload (e := T 179 (D : Int).toNat) hA rfl rfl (by decide) (by omega) (by omega) rfl ?_
                    rw [show (D : Int).toNat = D by omega]
                    refine xr_steps (pc' := 223) (L' := [(7, .int (Int32.ofInt (xat n f (i + 1)))), (6, .int (Int32.ofInt (xat n f i))), (1, .int (Int32.ofInt ((D + 1 : Nat) : Int))), (2, .int (Int32.ofInt 3)), (3, .int (Int32.ofInt (cnt : Int))), (4, .int (Int32.ofInt (400 + (i : Int)))), (5, .int (Int32.ofInt (400 + (n : Int)))), (0, .ref 165)]) (st' := [.int (Int32.ofInt 97), .int (Int32.ofInt (xat n f (i + 1))), .int (Int32.ofInt (T 179 D))]) 2 rfl ?_
                    refine xr_isub rfl ?_
                    obtain ⟨c, hc⟩ : ∃ c : Nat, xat n f (i + 1) - 97 = (c : Int) := ⟨(xat n f (i + 1) - 97).toNat, by omega⟩
                    rw [hc]
                    refine xr_steps (pc' := 227) (L' := [(7, .int (Int32.ofInt (xat n f (i + 1)))), (6, .int (Int32.ofInt (xat n f i))), (1, .int (Int32.ofInt ((D + 1 : Nat) : Int))), (2, .int (Int32.ofInt 3)), (3, .int (Int32.ofInt (cnt : Int))), (4, .int (Int32.ofInt (400 + (i : Int)))), (5, .int (Int32.ofInt (400 + (n : Int)))), (0, .ref 165)]) (st' := [.int ((Int32.ofInt (T 179 D) >>> (Int32.ofInt (c : Int) &&& 31)) &&& Int32.ofInt 1)]) 3 rfl ?_
                    rw [xbt_get _ (by omega)]
                    obtain ⟨bt, hbt⟩ : ∃ bt : Int, bt = if xbt (Int32.ofInt (T 179 D)) c = true then 1 else 0 := ⟨_, rfl⟩
                    rw [← hbt]
                    have hb01 : (bt = 1 ∧ xbt (Int32.ofInt (T 179 D)) c = true) ∨ (bt = 0 ∧ ¬ xbt (Int32.ofInt (T 179 D)) c = true) := by
                      rw [hbt]
                      by_cases hz : xbt (Int32.ofInt (T 179 D)) c = true
                      · rw [if_pos hz]; exact Or.inl ⟨rfl, hz⟩
                      · rw [if_neg hz]; exact Or.inr ⟨rfl, hz⟩
                    refine xr_steps (pc' := 228) (L' := [(7, .int (Int32.ofInt (xat n f (i + 1)))), (6, .int (Int32.ofInt (xat n f i))), (1, .int (Int32.ofInt ((D + 1 : Nat) : Int))), (2, .int (Int32.ofInt 3)), (3, .int (Int32.ofInt (cnt : Int))), (4, .int (Int32.ofInt (400 + (i : Int)))), (5, .int (Int32.ofInt (400 + (n : Int)))), (0, .ref 165)]) (st' := [.int (Int32.ofInt 1), .int (Int32.ofInt bt)]) 1 rfl ?_
                    refine xr_icmp_ne rfl (by omega) (by omega) (fun z46 => ?_) (fun z46 => ?_)
                    · refine xr_steps (pc' := 234) (L' := [(7, .int (Int32.ofInt (xat n f (i + 1)))), (6, .int (Int32.ofInt (xat n f i))), (1, .int (Int32.ofInt ((D + 1 : Nat) : Int))), (2, .int (Int32.ofInt 3)), (3, .int (Int32.ofInt (cnt : Int))), (4, .int (Int32.ofInt (400 + (i : Int)))), (5, .int (Int32.ofInt (400 + (n : Int)))), (0, .ref 165)]) (st' := [.ref 165]) 1 rfl ?_
                      refine xr_getf (v := .ref 179) rfl (ym_165 hA) rfl ?_
                      refine xr_steps (pc' := 239) (L' := [(7, .int (Int32.ofInt (xat n f (i + 1)))), (6, .int (Int32.ofInt (xat n f i))), (1, .int (Int32.ofInt ((D + 1 : Nat) : Int))), (2, .int (Int32.ofInt 3)), (3, .int (Int32.ofInt (cnt : Int))), (4, .int (Int32.ofInt (400 + (i : Int)))), (5, .int (Int32.ofInt (400 + (n : Int)))), (0, .ref 165)]) (st' := [.int (Int32.ofInt 1), .int (Int32.ofInt ((D + 1 : Nat) : Int)), .ref 179]) 2 rfl ?_
                      refine xr_isub rfl ?_
                      rw [show ((D + 1 : Nat) : Int) - 1 = (D : Int) by omega]
                      refine xr_steps (pc' := 241) (L' := [(7, .int (Int32.ofInt (xat n f (i + 1)))), (6, .int (Int32.ofInt (xat n f i))), (1, .int (Int32.ofInt ((D + 1 : Nat) : Int))), (2, .int (Int32.ofInt 3)), (3, .int (Int32.ofInt (cnt : Int))), (4, .int (Int32.ofInt (400 + (i : Int)))), (5, .int (Int32.ofInt (400 + (n : Int)))), (0, .ref 165)]) (st' := [.ref 165, .int (Int32.ofInt (D : Int)), .ref 179]) 1 rfl ?_
                      refine xr_getf (v := .ref 179) rfl (ym_165 hA) rfl ?_
                      refine xr_steps (pc' := 246) (L' := [(7, .int (Int32.ofInt (xat n f (i + 1)))), (6, .int (Int32.ofInt (xat n f i))), (1, .int (Int32.ofInt ((D + 1 : Nat) : Int))), (2, .int (Int32.ofInt 3)), (3, .int (Int32.ofInt (cnt : Int))), (4, .int (Int32.ofInt (400 + (i : Int)))), (5, .int (Int32.ofInt (400 + (n : Int)))), (0, .ref 165)]) (st' := [.int (Int32.ofInt 1), .int (Int32.ofInt ((D + 1 : Nat) : Int)), .ref 179, .int (Int32.ofInt (D : Int)), .ref 179]) 2 rfl ?_
                      refine xr_isub rfl ?_
                      rw [show ((D + 1 : Nat) : Int) - 1 = (D : Int) by omega]
                      refine ym_iaload (e := T 179 (D : Int).toNat) hA rfl rfl (by decide) (by omega) (by omega) rfl ?_
                      rw [show (D : Int).toNat = D by omega]
                      refine xr_steps (pc' := 253) (L' := [(7, .int (Int32.ofInt (xat n f (i + 1)))), (6, .int (Int32.ofInt (xat n f i))), (1, .int (Int32.ofInt ((D + 1 : Nat) : Int))), (2, .int (Int32.ofInt 3)), (3, .int (Int32.ofInt (cnt : Int))), (4, .int (Int32.ofInt (400 + (i : Int)))), (5, .int (Int32.ofInt (400 + (n : Int)))), (0, .ref 165)]) (st' := [.int (Int32.ofInt 97), .int (Int32.ofInt (xat n f (i + 1))), .int (Int32.ofInt 1), .int (Int32.ofInt (T 179 D)), .int (Int32.ofInt (D : Int)), .ref 179]) 3 rfl ?_
                      refine xr_isub rfl ?_
                      rw [hc]
                      refine xr_steps (pc' := 256) (L' := [(7, .int (Int32.ofInt (xat n f (i + 1)))), (6, .int (Int32.ofInt (xat n f i))), (1, .int (Int32.ofInt ((D + 1 : Nat) : Int))), (2, .int (Int32.ofInt 3)), (3, .int (Int32.ofInt (cnt : Int))), (4, .int (Int32.ofInt (400 + (i : Int)))), (5, .int (Int32.ofInt (400 + (n : Int)))), (0, .ref 165)]) (st' := [.int (Int32.ofInt (T 179 D) ||| (Int32.ofInt 1 <<< (Int32.ofInt (c : Int) &&& 31))), .int (Int32.ofInt (D : Int)), .ref 179]) 2 rfl ?_
                      obtain ⟨ke, hke⟩ : ∃ ke : Int, Int32.ofInt (T 179 D) ||| (Int32.ofInt 1 <<< (Int32.ofInt (c : Int) &&& 31)) = Int32.ofInt ke := ⟨_, (Int32.ofInt_toInt _).symm⟩
                      rw [hke]
                      refine ym_iastore hA rfl rfl (by decide) (by omega) (by omega) ?_
                      rw [show (D : Int).toNat = D by omega]
                      refine xr_steps (pc' := 259) (L' := [(2, .int (Int32.ofInt 0)), (7, .int (Int32.ofInt (xat n f (i + 1)))), (6, .int (Int32.ofInt (xat n f i))), (1, .int (Int32.ofInt ((D + 1 : Nat) : Int))), (3, .int (Int32.ofInt (cnt : Int))), (4, .int (Int32.ofInt (400 + (i : Int)))), (5, .int (Int32.ofInt (400 + (n : Int)))), (0, .ref 165)]) (st' := []) 2 rfl ?_
                      refine xr_iinc (L' := [(4, .int (Int32.ofInt ((400 + (i : Int)) + 4))), (2, .int (Int32.ofInt 0)), (7, .int (Int32.ofInt (xat n f (i + 1)))), (6, .int (Int32.ofInt (xat n f i))), (1, .int (Int32.ofInt ((D + 1 : Nat) : Int))), (3, .int (Int32.ofInt (cnt : Int))), (5, .int (Int32.ofInt (400 + (n : Int)))), (0, .ref 165)]) rfl rfl rfl ?_
                      refine xr_steps (pc' := 21) (L' := [(4, .int (Int32.ofInt ((400 + (i : Int)) + 4))), (2, .int (Int32.ofInt 0)), (7, .int (Int32.ofInt (xat n f (i + 1)))), (6, .int (Int32.ofInt (xat n f i))), (1, .int (Int32.ofInt ((D + 1 : Nat) : Int))), (3, .int (Int32.ofInt (cnt : Int))), (5, .int (Int32.ofInt (400 + (n : Int)))), (0, .ref 165)]) (st' := []) 2 rfl ?_
                      refine xr_loc (L := [(1, .int (Int32.ofInt ((D + 1 : Nat) : Int))), (2, .int (Int32.ofInt 0)), (3, .int (Int32.ofInt (cnt : Int))), (4, .int (Int32.ofInt ((400 + (i : Int)) + 4))), (5, .int (Int32.ofInt (400 + (n : Int)))), (0, .ref 165)]) (show [1, 2, 3, 4, 5, 0].Nodup by decide) ⟨rfl, rfl, rfl, rfl, rfl, rfl, trivial⟩ ?_
                      exfalso; omega
                    · refine xr_steps (pc' := 232) (L' := [(7, .int (Int32.ofInt (xat n f (i + 1)))), (6, .int (Int32.ofInt (xat n f i))), (1, .int (Int32.ofInt ((D + 1 : Nat) : Int))), (2, .int (Int32.ofInt 3)), (3, .int (Int32.ofInt (cnt : Int))), (4, .int (Int32.ofInt (400 + (i : Int)))), (5, .int (Int32.ofInt (400 + (n : Int)))), (0, .ref 165)]) (st' := [.int (Int32.ofInt (-1))]) 1 rfl ?_
                      exfalso; omega
        · exfalso; omega
      · refine xr_steps (pc' := 62) (L' := [(6, .int (Int32.ofInt (xat n f i))), (1, .int (Int32.ofInt ((D + 1 : Nat) : Int))), (2, .int (Int32.ofInt 3)), (3, .int (Int32.ofInt (cnt : Int))), (4, .int (Int32.ofInt (400 + (i : Int)))), (5, .int (Int32.ofInt (400 + (n : Int)))), (0, .ref 165)]) (st' := [.int (Int32.ofInt 1), .int (Int32.ofInt 3)]) 2 rfl ?_
        refine xr_icmp_eq rfl (by omega) (by omega) (fun z47 => ?_) (fun z47 => ?_)
        · exfalso; omega
        · refine xr_steps (pc' := 67) (L' := [(6, .int (Int32.ofInt (xat n f i))), (1, .int (Int32.ofInt ((D + 1 : Nat) : Int))), (2, .int (Int32.ofInt 3)), (3, .int (Int32.ofInt (cnt : Int))), (4, .int (Int32.ofInt (400 + (i : Int)))), (5, .int (Int32.ofInt (400 + (n : Int)))), (0, .ref 165)]) (st' := [.int (Int32.ofInt 3), .int (Int32.ofInt 3)]) 2 rfl ?_
          refine xr_icmp_ne rfl (by omega) (by omega) (fun z48 => ?_) (fun z48 => ?_)
          · exfalso; omega
          · refine xr_steps (pc' := 71) (L' := [(6, .int (Int32.ofInt (xat n f i))), (1, .int (Int32.ofInt ((D + 1 : Nat) : Int))), (2, .int (Int32.ofInt 3)), (3, .int (Int32.ofInt (cnt : Int))), (4, .int (Int32.ofInt (400 + (i : Int)))), (5, .int (Int32.ofInt (400 + (n : Int)))), (0, .ref 165)]) (st' := [.int (Int32.ofInt ((D + 1 : Nat) : Int))]) 1 rfl ?_
            refine xr_if_eq rfl (by omega) (fun z49 => ?_) (fun z49 => ?_)
            · refine xr_steps (pc' := 100) (L' := [(6, .int (Int32.ofInt (xat n f i))), (1, .int (Int32.ofInt ((D + 1 : Nat) : Int))), (2, .int (Int32.ofInt 3)), (3, .int (Int32.ofInt (cnt : Int))), (4, .int (Int32.ofInt (400 + (i : Int)))), (5, .int (Int32.ofInt (400 + (n : Int)))), (0, .ref 165)]) (st' := [.int (Int32.ofInt (-1))]) 1 rfl ?_
              exfalso; omega
            · refine xr_steps (pc' := 75) (L' := [(6, .int (Int32.ofInt (xat n f i))), (1, .int (Int32.ofInt ((D + 1 : Nat) : Int))), (2, .int (Int32.ofInt 3)), (3, .int (Int32.ofInt (cnt : Int))), (4, .int (Int32.ofInt (400 + (i : Int)))), (5, .int (Int32.ofInt (400 + (n : Int)))), (0, .ref 165)]) (st' := [.ref 165]) 1 rfl ?_
              refine xr_getf (v := .ref 178) rfl (ym_165 hA) rfl ?_
              refine xr_steps (pc' := 80) (L' := [(6, .int (Int32.ofInt (xat n f i))), (1, .int (Int32.ofInt ((D + 1 : Nat) : Int))), (2, .int (Int32.ofInt 3)), (3, .int (Int32.ofInt (cnt : Int))), (4, .int (Int32.ofInt (400 + (i : Int)))), (5, .int (Int32.ofInt (400 + (n : Int)))), (0, .ref 165)]) (st' := [.int (Int32.ofInt 1), .int (Int32.ofInt ((D + 1 : Nat) : Int)), .ref 178]) 2 rfl ?_
              refine xr_isub rfl ?_
              rw [show ((D + 1 : Nat) : Int) - 1 = (D : Int) by omega]
              refine ym_caload (e := T 178 (D : Int).toNat) hA rfl rfl (by decide) (by omega) (by omega) rfl ?_
              rw [show (D : Int).toNat = D by omega]
              refine xr_steps (pc' := 86) (L' := [(6, .int (Int32.ofInt (xat n f i))), (1, .int (Int32.ofInt ((D + 1 : Nat) : Int))), (2, .int (Int32.ofInt 3)), (3, .int (Int32.ofInt (cnt : Int))), (4, .int (Int32.ofInt (400 + (i : Int)))), (5, .int (Int32.ofInt (400 + (n : Int)))), (0, .ref 165)]) (st' := [.int (Int32.ofInt 93), .int (Int32.ofInt (xat n f i)), .int (Int32.ofInt (T 178 D))]) 2 rfl ?_
              refine xr_icmp_ne rfl (by omega) (by omega) (fun z50 => ?_) (fun z50 => ?_)
              · refine xr_steps (pc' := 96) (L' := [(6, .int (Int32.ofInt (xat n f i))), (1, .int (Int32.ofInt ((D + 1 : Nat) : Int))), (2, .int (Int32.ofInt 3)), (3, .int (Int32.ofInt (cnt : Int))), (4, .int (Int32.ofInt (400 + (i : Int)))), (5, .int (Int32.ofInt (400 + (n : Int)))), (0, .ref 165)]) (st' := [.int (Int32.ofInt 123), .int (Int32.ofInt (T 178 D))]) 1 rfl ?_
                refine xr_icmp_eq rfl (by omega) (by omega) (fun z51 => ?_) (fun z51 => ?_)
                · refine xr_iincn (L' := [(1, .int (Int32.ofInt (((D + 1 : Nat) : Int) - 1))), (6, .int (Int32.ofInt (xat n f i))), (2, .int (Int32.ofInt 3)), (3, .int (Int32.ofInt (cnt : Int))), (4, .int (Int32.ofInt (400 + (i : Int)))), (5, .int (Int32.ofInt (400 + (n : Int)))), (0, .ref 165)]) rfl rfl rfl ?_
                  rw [show ((D + 1 : Nat) : Int) - 1 = (D : Int) by omega]
                  refine xr_steps (pc' := 106) (L' := [(2, .int (Int32.ofInt 1)), (1, .int (Int32.ofInt (D : Int))), (6, .int (Int32.ofInt (xat n f i))), (3, .int (Int32.ofInt (cnt : Int))), (4, .int (Int32.ofInt (400 + (i : Int)))), (5, .int (Int32.ofInt (400 + (n : Int)))), (0, .ref 165)]) (st' := []) 2 rfl ?_
                  refine xr_iinc (L' := [(4, .int (Int32.ofInt ((400 + (i : Int)) + 1))), (2, .int (Int32.ofInt 1)), (1, .int (Int32.ofInt (D : Int))), (6, .int (Int32.ofInt (xat n f i))), (3, .int (Int32.ofInt (cnt : Int))), (5, .int (Int32.ofInt (400 + (n : Int)))), (0, .ref 165)]) rfl rfl rfl ?_
                  refine xr_steps (pc' := 21) (L' := [(4, .int (Int32.ofInt ((400 + (i : Int)) + 1))), (2, .int (Int32.ofInt 1)), (1, .int (Int32.ofInt (D : Int))), (6, .int (Int32.ofInt (xat n f i))), (3, .int (Int32.ofInt (cnt : Int))), (5, .int (Int32.ofInt (400 + (n : Int)))), (0, .ref 165)]) (st' := []) 2 rfl ?_
                  refine xr_loc (L := [(1, .int (Int32.ofInt (D : Int))), (2, .int (Int32.ofInt 1)), (3, .int (Int32.ofInt (cnt : Int))), (4, .int (Int32.ofInt ((400 + (i : Int)) + 1))), (5, .int (Int32.ofInt (400 + (n : Int)))), (0, .ref 165)]) (show [1, 2, 3, 4, 5, 0].Nodup by decide) ⟨rfl, rfl, rfl, rfl, rfl, rfl, trivial⟩ ?_
                  first
                    | (rw [show 400 + (i : Int) + 1 = 400 + ((i + 1 : Nat) : Int) by omega]; exact hcl)
                    | (exfalso; omega)
                · refine xr_steps (pc' := 100) (L' := [(6, .int (Int32.ofInt (xat n f i))), (1, .int (Int32.ofInt ((D + 1 : Nat) : Int))), (2, .int (Int32.ofInt 3)), (3, .int (Int32.ofInt (cnt : Int))), (4, .int (Int32.ofInt (400 + (i : Int)))), (5, .int (Int32.ofInt (400 + (n : Int)))), (0, .ref 165)]) (st' := [.int (Int32.ofInt (-1))]) 1 rfl ?_
                  exfalso; omega
              · refine xr_steps (pc' := 96) (L' := [(6, .int (Int32.ofInt (xat n f i))), (1, .int (Int32.ofInt ((D + 1 : Nat) : Int))), (2, .int (Int32.ofInt 3)), (3, .int (Int32.ofInt (cnt : Int))), (4, .int (Int32.ofInt (400 + (i : Int)))), (5, .int (Int32.ofInt (400 + (n : Int)))), (0, .ref 165)]) (st' := [.int (Int32.ofInt 91), .int (Int32.ofInt (T 178 D))]) 2 rfl ?_
                refine xr_icmp_eq rfl (by omega) (by omega) (fun z52 => ?_) (fun z52 => ?_)
                · refine xr_iincn (L' := [(1, .int (Int32.ofInt (((D + 1 : Nat) : Int) - 1))), (6, .int (Int32.ofInt (xat n f i))), (2, .int (Int32.ofInt 3)), (3, .int (Int32.ofInt (cnt : Int))), (4, .int (Int32.ofInt (400 + (i : Int)))), (5, .int (Int32.ofInt (400 + (n : Int)))), (0, .ref 165)]) rfl rfl rfl ?_
                  rw [show ((D + 1 : Nat) : Int) - 1 = (D : Int) by omega]
                  refine xr_steps (pc' := 106) (L' := [(2, .int (Int32.ofInt 1)), (1, .int (Int32.ofInt (D : Int))), (6, .int (Int32.ofInt (xat n f i))), (3, .int (Int32.ofInt (cnt : Int))), (4, .int (Int32.ofInt (400 + (i : Int)))), (5, .int (Int32.ofInt (400 + (n : Int)))), (0, .ref 165)]) (st' := []) 2 rfl ?_
                  refine xr_iinc (L' := [(4, .int (Int32.ofInt ((400 + (i : Int)) + 1))), (2, .int (Int32.ofInt 1)), (1, .int (Int32.ofInt (D : Int))), (6, .int (Int32.ofInt (xat n f i))), (3, .int (Int32.ofInt (cnt : Int))), (5, .int (Int32.ofInt (400 + (n : Int)))), (0, .ref 165)]) rfl rfl rfl ?_
                  refine xr_steps (pc' := 21) (L' := [(4, .int (Int32.ofInt ((400 + (i : Int)) + 1))), (2, .int (Int32.ofInt 1)), (1, .int (Int32.ofInt (D : Int))), (6, .int (Int32.ofInt (xat n f i))), (3, .int (Int32.ofInt (cnt : Int))), (5, .int (Int32.ofInt (400 + (n : Int)))), (0, .ref 165)]) (st' := []) 2 rfl ?_
                  refine xr_loc (L := [(1, .int (Int32.ofInt (D : Int))), (2, .int (Int32.ofInt 1)), (3, .int (Int32.ofInt (cnt : Int))), (4, .int (Int32.ofInt ((400 + (i : Int)) + 1))), (5, .int (Int32.ofInt (400 + (n : Int)))), (0, .ref 165)]) (show [1, 2, 3, 4, 5, 0].Nodup by decide) ⟨rfl, rfl, rfl, rfl, rfl, rfl, trivial⟩ ?_
                  first
                    | (rw [show 400 + (i : Int) + 1 = 400 + ((i + 1 : Nat) : Int) by omega]; exact hcl)
                    | (exfalso; omega)
                · refine xr_steps (pc' := 100) (L' := [(6, .int (Int32.ofInt (xat n f i))), (1, .int (Int32.ofInt ((D + 1 : Nat) : Int))), (2, .int (Int32.ofInt 3)), (3, .int (Int32.ofInt (cnt : Int))), (4, .int (Int32.ofInt (400 + (i : Int)))), (5, .int (Int32.ofInt (400 + (n : Int)))), (0, .ref 165)]) (st' := [.int (Int32.ofInt (-1))]) 1 rfl ?_
                  exfalso; omega
    · refine xr_steps (pc' := 45) (L' := [(6, .int (Int32.ofInt (xat n f i))), (1, .int (Int32.ofInt ((D + 1 : Nat) : Int))), (2, .int (Int32.ofInt 3)), (3, .int (Int32.ofInt (cnt : Int))), (4, .int (Int32.ofInt (400 + (i : Int)))), (5, .int (Int32.ofInt (400 + (n : Int)))), (0, .ref 165)]) (st' := [.int (Int32.ofInt 1), .int (Int32.ofInt 3)]) 2 rfl ?_
      refine xr_icmp_eq rfl (by omega) (by omega) (fun z53 => ?_) (fun z53 => ?_)
      · exfalso; omega
      · refine xr_steps (pc' := 50) (L' := [(6, .int (Int32.ofInt (xat n f i))), (1, .int (Int32.ofInt ((D + 1 : Nat) : Int))), (2, .int (Int32.ofInt 3)), (3, .int (Int32.ofInt (cnt : Int))), (4, .int (Int32.ofInt (400 + (i : Int)))), (5, .int (Int32.ofInt (400 + (n : Int)))), (0, .ref 165)]) (st' := [.int (Int32.ofInt 2), .int (Int32.ofInt 3)]) 2 rfl ?_
        refine xr_icmp_eq rfl (by omega) (by omega) (fun z54 => ?_) (fun z54 => ?_)
        · exfalso; omega
        · refine xr_steps (pc' := 57) (L' := [(6, .int (Int32.ofInt (xat n f i))), (1, .int (Int32.ofInt ((D + 1 : Nat) : Int))), (2, .int (Int32.ofInt 3)), (3, .int (Int32.ofInt (cnt : Int))), (4, .int (Int32.ofInt (400 + (i : Int)))), (5, .int (Int32.ofInt (400 + (n : Int)))), (0, .ref 165)]) (st' := [.int (Int32.ofInt 125), .int (Int32.ofInt (xat n f i))]) 2 rfl ?_
          refine xr_icmp_ne rfl (by omega) (by omega) (fun z55 => ?_) (fun z55 => ?_)
          · refine xr_steps (pc' := 114) (L' := [(6, .int (Int32.ofInt (xat n f i))), (1, .int (Int32.ofInt ((D + 1 : Nat) : Int))), (2, .int (Int32.ofInt 3)), (3, .int (Int32.ofInt (cnt : Int))), (4, .int (Int32.ofInt (400 + (i : Int)))), (5, .int (Int32.ofInt (400 + (n : Int)))), (0, .ref 165)]) (st' := [.int (Int32.ofInt 1), .int (Int32.ofInt 3)]) 2 rfl ?_
            refine xr_icmp_ne rfl (by omega) (by omega) (fun z56 => ?_) (fun z56 => ?_)
            · refine xr_steps (pc' := 157) (L' := [(6, .int (Int32.ofInt (xat n f i))), (1, .int (Int32.ofInt ((D + 1 : Nat) : Int))), (2, .int (Int32.ofInt 3)), (3, .int (Int32.ofInt (cnt : Int))), (4, .int (Int32.ofInt (400 + (i : Int)))), (5, .int (Int32.ofInt (400 + (n : Int)))), (0, .ref 165)]) (st' := [.int (Int32.ofInt 2), .int (Int32.ofInt 3)]) 2 rfl ?_
              refine xr_icmp_le rfl (by omega) (by omega) (fun z57 => ?_) (fun z57 => ?_)
              · exfalso; omega
              · refine xr_steps (pc' := 164) (L' := [(6, .int (Int32.ofInt (xat n f i))), (1, .int (Int32.ofInt ((D + 1 : Nat) : Int))), (2, .int (Int32.ofInt 3)), (3, .int (Int32.ofInt (cnt : Int))), (4, .int (Int32.ofInt (400 + (i : Int)))), (5, .int (Int32.ofInt (400 + (n : Int)))), (0, .ref 165)]) (st' := [.int (Int32.ofInt 1), .int (Int32.ofInt (400 + (i : Int))), .ref 165]) 3 rfl ?_
                refine xr_iadd rfl ?_
                refine xr_call (q := (.invokevirtual 103, 3, 209, 2)) (av := [.ref 165, .int (Int32.ofInt ((400 + (i : Int)) + 1))]) (rest := []) rfl rfl (by decide) rfl (ym_rcv hA rfl) (Nat.le_of_ble_eq_true rfl) (mo_209t (i := i + 1) hA hx (by omega) (by omega)) ?_
                rintro _ _ ⟨rfl, eA⟩
                rw [eA]
                clear eA
                have hx58 := xtx_ye hx (i + 1)
                refine xr_steps (pc' := 174) (L' := [(7, .int (Int32.ofInt (xat n f (i + 1)))), (6, .int (Int32.ofInt (xat n f i))), (1, .int (Int32.ofInt ((D + 1 : Nat) : Int))), (2, .int (Int32.ofInt 3)), (3, .int (Int32.ofInt (cnt : Int))), (4, .int (Int32.ofInt (400 + (i : Int)))), (5, .int (Int32.ofInt (400 + (n : Int)))), (0, .ref 165)]) (st' := [.int (Int32.ofInt 34), .int (Int32.ofInt (xat n f i))]) 3 rfl ?_
                refine xr_icmp_ne rfl (by omega) (by omega) (fun z59 => ?_) (fun z59 => ?_)
                · refine xr_steps (pc' := 232) (L' := [(7, .int (Int32.ofInt (xat n f (i + 1)))), (6, .int (Int32.ofInt (xat n f i))), (1, .int (Int32.ofInt ((D + 1 : Nat) : Int))), (2, .int (Int32.ofInt 3)), (3, .int (Int32.ofInt (cnt : Int))), (4, .int (Int32.ofInt (400 + (i : Int)))), (5, .int (Int32.ofInt (400 + (n : Int)))), (0, .ref 165)]) (st' := [.int (Int32.ofInt (-1))]) 1 rfl ?_
                  exfalso; omega
                · refine xr_steps (pc' := 179) (L' := [(7, .int (Int32.ofInt (xat n f (i + 1)))), (6, .int (Int32.ofInt (xat n f i))), (1, .int (Int32.ofInt ((D + 1 : Nat) : Int))), (2, .int (Int32.ofInt 3)), (3, .int (Int32.ofInt (cnt : Int))), (4, .int (Int32.ofInt (400 + (i : Int)))), (5, .int (Int32.ofInt (400 + (n : Int)))), (0, .ref 165)]) (st' := [.int (Int32.ofInt (xat n f (i + 1)))]) 1 rfl ?_
                  obtain ⟨bl, hbl⟩ := mo_bool (97 ≤ xat n f (i + 1) ∧ xat n f (i + 1) ≤ 122)
                  refine xr_call (q := (.invokestatic 111, 3, 210, 1)) (av := [.int (Int32.ofInt (xat n f (i + 1)))]) (rest := []) rfl rfl (by decide) rfl rfl (Nat.le_of_ble_eq_true rfl) (mo_210 (by omega) hbl) ?_
                  rintro _ _ ⟨rfl, eA⟩
                  rw [eA]
                  clear eA
                  refine xr_if_eq rfl (by omega) (fun z60 => ?_) (fun z60 => ?_)
                  · refine xr_steps (pc' := 232) (L' := [(7, .int (Int32.ofInt (xat n f (i + 1)))), (6, .int (Int32.ofInt (xat n f i))), (1, .int (Int32.ofInt ((D + 1 : Nat) : Int))), (2, .int (Int32.ofInt 3)), (3, .int (Int32.ofInt (cnt : Int))), (4, .int (Int32.ofInt (400 + (i : Int)))), (5, .int (Int32.ofInt (400 + (n : Int)))), (0, .ref 165)]) (st' := [.int (Int32.ofInt (-1))]) 1 rfl ?_
                    exfalso; omega
                  · refine xr_steps (pc' := 189) (L' := [(7, .int (Int32.ofInt (xat n f (i + 1)))), (6, .int (Int32.ofInt (xat n f i))), (1, .int (Int32.ofInt ((D + 1 : Nat) : Int))), (2, .int (Int32.ofInt 3)), (3, .int (Int32.ofInt (cnt : Int))), (4, .int (Int32.ofInt (400 + (i : Int)))), (5, .int (Int32.ofInt (400 + (n : Int)))), (0, .ref 165)]) (st' := [.int (Int32.ofInt 2), .int (Int32.ofInt (400 + (i : Int))), .ref 165]) 3 rfl ?_
                    refine xr_iadd rfl ?_
                    refine xr_call (q := (.invokevirtual 103, 3, 209, 2)) (av := [.ref 165, .int (Int32.ofInt ((400 + (i : Int)) + 2))]) (rest := []) rfl rfl (by decide) rfl (ym_rcv hA rfl) (Nat.le_of_ble_eq_true rfl) (mo_209t (i := i + 2) hA hx (by omega) (by omega)) ?_
                    rintro _ _ ⟨rfl, eA⟩
                    rw [eA]
                    clear eA
                    have hx61 := xtx_ye hx (i + 2)
                    refine xr_steps (pc' := 195) (L' := [(7, .int (Int32.ofInt (xat n f (i + 1)))), (6, .int (Int32.ofInt (xat n f i))), (1, .int (Int32.ofInt ((D + 1 : Nat) : Int))), (2, .int (Int32.ofInt 3)), (3, .int (Int32.ofInt (cnt : Int))), (4, .int (Int32.ofInt (400 + (i : Int)))), (5, .int (Int32.ofInt (400 + (n : Int)))), (0, .ref 165)]) (st' := [.int (Int32.ofInt 34), .int (Int32.ofInt (xat n f (i + 2)))]) 1 rfl ?_
                    refine xr_icmp_ne rfl (by omega) (by omega) (fun z62 => ?_) (fun z62 => ?_)
                    · refine xr_steps (pc' := 232) (L' := [(7, .int (Int32.ofInt (xat n f (i + 1)))), (6, .int (Int32.ofInt (xat n f i))), (1, .int (Int32.ofInt ((D + 1 : Nat) : Int))), (2, .int (Int32.ofInt 3)), (3, .int (Int32.ofInt (cnt : Int))), (4, .int (Int32.ofInt (400 + (i : Int)))), (5, .int (Int32.ofInt (400 + (n : Int)))), (0, .ref 165)]) (st' := [.int (Int32.ofInt (-1))]) 1 rfl ?_
                      exfalso; omega
                    · refine xr_steps (pc' := 202) (L' := [(7, .int (Int32.ofInt (xat n f (i + 1)))), (6, .int (Int32.ofInt (xat n f i))), (1, .int (Int32.ofInt ((D + 1 : Nat) : Int))), (2, .int (Int32.ofInt 3)), (3, .int (Int32.ofInt (cnt : Int))), (4, .int (Int32.ofInt (400 + (i : Int)))), (5, .int (Int32.ofInt (400 + (n : Int)))), (0, .ref 165)]) (st' := [.int (Int32.ofInt 3), .int (Int32.ofInt (400 + (i : Int))), .ref 165]) 3 rfl ?_
                      refine xr_iadd rfl ?_
                      refine xr_call (q := (.invokevirtual 103, 3, 209, 2)) (av := [.ref 165, .int (Int32.ofInt ((400 + (i : Int)) + 3))]) (rest := []) rfl rfl (by decide) rfl (ym_rcv hA rfl) (Nat.le_of_ble_eq_true rfl) (mo_209t (i := i + 3) hA hx (by omega) (by omega)) ?_
                      rintro _ _ ⟨rfl, eA⟩
                      rw [eA]
                      clear eA
                      have hx63 := xtx_ye hx (i + 3)
                      refine xr_steps (pc' := 208) (L' := [(7, .int (Int32.ofInt (xat n f (i + 1)))), (6, .int (Int32.ofInt (xat n f i))), (1, .int (Int32.ofInt ((D + 1 : Nat) : Int))), (2, .int (Int32.ofInt 3)), (3, .int (Int32.ofInt (cnt : Int))), (4, .int (Int32.ofInt (400 + (i : Int)))), (5, .int (Int32.ofInt (400 + (n : Int)))), (0, .ref 165)]) (st' := [.int (Int32.ofInt 58), .int (Int32.ofInt (xat n f (i + 3)))]) 1 rfl ?_
                      refine xr_icmp_ne rfl (by omega) (by omega) (fun z64 => ?_) (fun z64 => ?_)
                      · refine xr_steps (pc' := 232) (L' := [(7, .int (Int32.ofInt (xat n f (i + 1)))), (6, .int (Int32.ofInt (xat n f i))), (1, .int (Int32.ofInt ((D + 1 : Nat) : Int))), (2, .int (Int32.ofInt 3)), (3, .int (Int32.ofInt (cnt : Int))), (4, .int (Int32.ofInt (400 + (i : Int)))), (5, .int (Int32.ofInt (400 + (n : Int)))), (0, .ref 165)]) (st' := [.int (Int32.ofInt (-1))]) 1 rfl ?_
                        exfalso; omega
                      · refine xr_steps (pc' := 212) (L' := [(7, .int (Int32.ofInt (xat n f (i + 1)))), (6, .int (Int32.ofInt (xat n f i))), (1, .int (Int32.ofInt ((D + 1 : Nat) : Int))), (2, .int (Int32.ofInt 3)), (3, .int (Int32.ofInt (cnt : Int))), (4, .int (Int32.ofInt (400 + (i : Int)))), (5, .int (Int32.ofInt (400 + (n : Int)))), (0, .ref 165)]) (st' := [.ref 165]) 1 rfl ?_
                        refine xr_getf (v := .ref 179) rfl (ym_165 hA) rfl ?_
                        refine xr_steps (pc' := 217) (L' := [(7, .int (Int32.ofInt (xat n f (i + 1)))), (6, .int (Int32.ofInt (xat n f i))), (1, .int (Int32.ofInt ((D + 1 : Nat) : Int))), (2, .int (Int32.ofInt 3)), (3, .int (Int32.ofInt (cnt : Int))), (4, .int (Int32.ofInt (400 + (i : Int)))), (5, .int (Int32.ofInt (400 + (n : Int)))), (0, .ref 165)]) (st' := [.int (Int32.ofInt 1), .int (Int32.ofInt ((D + 1 : Nat) : Int)), .ref 179]) 2 rfl ?_
                        refine xr_isub rfl ?_
                        rw [show ((D + 1 : Nat) : Int) - 1 = (D : Int) by omega]
                        refine ym_iaload (e := T 179 (D : Int).toNat) hA rfl rfl (by decide) (by omega) (by omega) rfl ?_
                        rw [show (D : Int).toNat = D by omega]
                        refine xr_steps (pc' := 223) (L' := [(7, .int (Int32.ofInt (xat n f (i + 1)))), (6, .int (Int32.ofInt (xat n f i))), (1, .int (Int32.ofInt ((D + 1 : Nat) : Int))), (2, .int (Int32.ofInt 3)), (3, .int (Int32.ofInt (cnt : Int))), (4, .int (Int32.ofInt (400 + (i : Int)))), (5, .int (Int32.ofInt (400 + (n : Int)))), (0, .ref 165)]) (st' := [.int (Int32.ofInt 97), .int (Int32.ofInt (xat n f (i + 1))), .int (Int32.ofInt (T 179 D))]) 2 rfl ?_
                        refine xr_isub rfl ?_
                        obtain ⟨c, hc⟩ : ∃ c : Nat, xat n f (i + 1) - 97 = (c : Int) := ⟨(xat n f (i + 1) - 97).toNat, by omega⟩
                        rw [hc]
                        refine xr_steps (pc' := 227) (L' := [(7, .int (Int32.ofInt (xat n f (i + 1)))), (6, .int (Int32.ofInt (xat n f i))), (1, .int (Int32.ofInt ((D + 1 : Nat) : Int))), (2, .int (Int32.ofInt 3)), (3, .int (Int32.ofInt (cnt : Int))), (4, .int (Int32.ofInt (400 + (i : Int)))), (5, .int (Int32.ofInt (400 + (n : Int)))), (0, .ref 165)]) (st' := [.int ((Int32.ofInt (T 179 D) >>> (Int32.ofInt (c : Int) &&& 31)) &&& Int32.ofInt 1)]) 3 rfl ?_
                        rw [xbt_get _ (by omega)]
                        obtain ⟨bt, hbt⟩ : ∃ bt : Int, bt = if xbt (Int32.ofInt (T 179 D)) c = true then 1 else 0 := ⟨_, rfl⟩
                        rw [← hbt]
                        have hb01 : (bt = 1 ∧ xbt (Int32.ofInt (T 179 D)) c = true) ∨ (bt = 0 ∧ ¬ xbt (Int32.ofInt (T 179 D)) c = true) := by
                          rw [hbt]
                          by_cases hz : xbt (Int32.ofInt (T 179 D)) c = true
                          · rw [if_pos hz]; exact Or.inl ⟨rfl, hz⟩
                          · rw [if_neg hz]; exact Or.inr ⟨rfl, hz⟩
                        refine xr_steps (pc' := 228) (L' := [(7, .int (Int32.ofInt (xat n f (i + 1)))), (6, .int (Int32.ofInt (xat n f i))), (1, .int (Int32.ofInt ((D + 1 : Nat) : Int))), (2, .int (Int32.ofInt 3)), (3, .int (Int32.ofInt (cnt : Int))), (4, .int (Int32.ofInt (400 + (i : Int)))), (5, .int (Int32.ofInt (400 + (n : Int)))), (0, .ref 165)]) (st' := [.int (Int32.ofInt 1), .int (Int32.ofInt bt)]) 1 rfl ?_
                        refine xr_icmp_ne rfl (by omega) (by omega) (fun z65 => ?_) (fun z65 => ?_)
                        · refine xr_steps (pc' := 234) (L' := [(7, .int (Int32.ofInt (xat n f (i + 1)))), (6, .int (Int32.ofInt (xat n f i))), (1, .int (Int32.ofInt ((D + 1 : Nat) : Int))), (2, .int (Int32.ofInt 3)), (3, .int (Int32.ofInt (cnt : Int))), (4, .int (Int32.ofInt (400 + (i : Int)))), (5, .int (Int32.ofInt (400 + (n : Int)))), (0, .ref 165)]) (st' := [.ref 165]) 1 rfl ?_
                          refine xr_getf (v := .ref 179) rfl (ym_165 hA) rfl ?_
                          refine xr_steps (pc' := 239) (L' := [(7, .int (Int32.ofInt (xat n f (i + 1)))), (6, .int (Int32.ofInt (xat n f i))), (1, .int (Int32.ofInt ((D + 1 : Nat) : Int))), (2, .int (Int32.ofInt 3)), (3, .int (Int32.ofInt (cnt : Int))), (4, .int (Int32.ofInt (400 + (i : Int)))), (5, .int (Int32.ofInt (400 + (n : Int)))), (0, .ref 165)]) (st' := [.int (Int32.ofInt 1), .int (Int32.ofInt ((D + 1 : Nat) : Int)), .ref 179]) 2 rfl ?_
                          refine xr_isub rfl ?_
                          rw [show ((D + 1 : Nat) : Int) - 1 = (D : Int) by omega]
                          refine xr_steps (pc' := 241) (L' := [(7, .int (Int32.ofInt (xat n f (i + 1)))), (6, .int (Int32.ofInt (xat n f i))), (1, .int (Int32.ofInt ((D + 1 : Nat) : Int))), (2, .int (Int32.ofInt 3)), (3, .int (Int32.ofInt (cnt : Int))), (4, .int (Int32.ofInt (400 + (i : Int)))), (5, .int (Int32.ofInt (400 + (n : Int)))), (0, .ref 165)]) (st' := [.ref 165, .int (Int32.ofInt (D : Int)), .ref 179]) 1 rfl ?_
                          refine xr_getf (v := .ref 179) rfl (ym_165 hA) rfl ?_
                          refine xr_steps (pc' := 246) (L' := [(7, .int (Int32.ofInt (xat n f (i + 1)))), (6, .int (Int32.ofInt (xat n f i))), (1, .int (Int32.ofInt ((D + 1 : Nat) : Int))), (2, .int (Int32.ofInt 3)), (3, .int (Int32.ofInt (cnt : Int))), (4, .int (Int32.ofInt (400 + (i : Int)))), (5, .int (Int32.ofInt (400 + (n : Int)))), (0, .ref 165)]) (st' := [.int (Int32.ofInt 1), .int (Int32.ofInt ((D + 1 : Nat) : Int)), .ref 179, .int (Int32.ofInt (D : Int)), .ref 179]) 2 rfl ?_
                          refine xr_isub rfl ?_
                          rw [show ((D + 1 : Nat) : Int) - 1 = (D : Int) by omega]
                          refine ym_iaload (e := T 179 (D : Int).toNat) hA rfl rfl (by decide) (by omega) (by omega) rfl ?_
                          rw [show (D : Int).toNat = D by omega]
                          refine xr_steps (pc' := 253) (L' := [(7, .int (Int32.ofInt (xat n f (i + 1)))), (6, .int (Int32.ofInt (xat n f i))), (1, .int (Int32.ofInt ((D + 1 : Nat) : Int))), (2, .int (Int32.ofInt 3)), (3, .int (Int32.ofInt (cnt : Int))), (4, .int (Int32.ofInt (400 + (i : Int)))), (5, .int (Int32.ofInt (400 + (n : Int)))), (0, .ref 165)]) (st' := [.int (Int32.ofInt 97), .int (Int32.ofInt (xat n f (i + 1))), .int (Int32.ofInt 1), .int (Int32.ofInt (T 179 D)), .int (Int32.ofInt (D : Int)), .ref 179]) 3 rfl ?_
                          refine xr_isub rfl ?_
                          rw [hc]
                          refine xr_steps (pc' := 256) (L' := [(7, .int (Int32.ofInt (xat n f (i + 1)))), (6, .int (Int32.ofInt (xat n f i))), (1, .int (Int32.ofInt ((D + 1 : Nat) : Int))), (2, .int (Int32.ofInt 3)), (3, .int (Int32.ofInt (cnt : Int))), (4, .int (Int32.ofInt (400 + (i : Int)))), (5, .int (Int32.ofInt (400 + (n : Int)))), (0, .ref 165)]) (st' := [.int (Int32.ofInt (T 179 D) ||| (Int32.ofInt 1 <<< (Int32.ofInt (c : Int) &&& 31))), .int (Int32.ofInt (D : Int)), .ref 179]) 2 rfl ?_
                          obtain ⟨ke, hke⟩ : ∃ ke : Int, Int32.ofInt (T 179 D) ||| (Int32.ofInt 1 <<< (Int32.ofInt (c : Int) &&& 31)) = Int32.ofInt ke := ⟨_, (Int32.ofInt_toInt _).symm⟩
                          rw [hke]
                          refine ym_iastore hA rfl rfl (by decide) (by omega) (by omega) ?_
                          rw [show (D : Int).toNat = D by omega]
                          refine xr_steps (pc' := 259) (L' := [(2, .int (Int32.ofInt 0)), (7, .int (Int32.ofInt (xat n f (i + 1)))), (6, .int (Int32.ofInt (xat n f i))), (1, .int (Int32.ofInt ((D + 1 : Nat) : Int))), (3, .int (Int32.ofInt (cnt : Int))), (4, .int (Int32.ofInt (400 + (i : Int)))), (5, .int (Int32.ofInt (400 + (n : Int)))), (0, .ref 165)]) (st' := []) 2 rfl ?_
                          refine xr_iinc (L' := [(4, .int (Int32.ofInt ((400 + (i : Int)) + 4))), (2, .int (Int32.ofInt 0)), (7, .int (Int32.ofInt (xat n f (i + 1)))), (6, .int (Int32.ofInt (xat n f i))), (1, .int (Int32.ofInt ((D + 1 : Nat) : Int))), (3, .int (Int32.ofInt (cnt : Int))), (5, .int (Int32.ofInt (400 + (n : Int)))), (0, .ref 165)]) rfl rfl rfl ?_
                          refine xr_steps (pc' := 21) (L' := [(4, .int (Int32.ofInt ((400 + (i : Int)) + 4))), (2, .int (Int32.ofInt 0)), (7, .int (Int32.ofInt (xat n f (i + 1)))), (6, .int (Int32.ofInt (xat n f i))), (1, .int (Int32.ofInt ((D + 1 : Nat) : Int))), (3, .int (Int32.ofInt (cnt : Int))), (5, .int (Int32.ofInt (400 + (n : Int)))), (0, .ref 165)]) (st' := []) 2 rfl ?_
                          refine xr_loc (L := [(1, .int (Int32.ofInt ((D + 1 : Nat) : Int))), (2, .int (Int32.ofInt 0)), (3, .int (Int32.ofInt (cnt : Int))), (4, .int (Int32.ofInt ((400 + (i : Int)) + 4))), (5, .int (Int32.ofInt (400 + (n : Int)))), (0, .ref 165)]) (show [1, 2, 3, 4, 5, 0].Nodup by decide) ⟨rfl, rfl, rfl, rfl, rfl, rfl, trivial⟩ ?_
                          exfalso; omega
                        · refine xr_steps (pc' := 232) (L' := [(7, .int (Int32.ofInt (xat n f (i + 1)))), (6, .int (Int32.ofInt (xat n f i))), (1, .int (Int32.ofInt ((D + 1 : Nat) : Int))), (2, .int (Int32.ofInt 3)), (3, .int (Int32.ofInt (cnt : Int))), (4, .int (Int32.ofInt (400 + (i : Int)))), (5, .int (Int32.ofInt (400 + (n : Int)))), (0, .ref 165)]) (st' := [.int (Int32.ofInt (-1))]) 1 rfl ?_
                          exfalso; omega
            · exfalso; omega
          · refine xr_steps (pc' := 62) (L' := [(6, .int (Int32.ofInt (xat n f i))), (1, .int (Int32.ofInt ((D + 1 : Nat) : Int))), (2, .int (Int32.ofInt 3)), (3, .int (Int32.ofInt (cnt : Int))), (4, .int (Int32.ofInt (400 + (i : Int)))), (5, .int (Int32.ofInt (400 + (n : Int)))), (0, .ref 165)]) (st' := [.int (Int32.ofInt 1), .int (Int32.ofInt 3)]) 2 rfl ?_
            refine xr_icmp_eq rfl (by omega) (by omega) (fun z66 => ?_) (fun z66 => ?_)
            · exfalso; omega
            · refine xr_steps (pc' := 67) (L' := [(6, .int (Int32.ofInt (xat n f i))), (1, .int (Int32.ofInt ((D + 1 : Nat) : Int))), (2, .int (Int32.ofInt 3)), (3, .int (Int32.ofInt (cnt : Int))), (4, .int (Int32.ofInt (400 + (i : Int)))), (5, .int (Int32.ofInt (400 + (n : Int)))), (0, .ref 165)]) (st' := [.int (Int32.ofInt 3), .int (Int32.ofInt 3)]) 2 rfl ?_
              refine xr_icmp_ne rfl (by omega) (by omega) (fun z67 => ?_) (fun z67 => ?_)
              · exfalso; omega
              · refine xr_steps (pc' := 71) (L' := [(6, .int (Int32.ofInt (xat n f i))), (1, .int (Int32.ofInt ((D + 1 : Nat) : Int))), (2, .int (Int32.ofInt 3)), (3, .int (Int32.ofInt (cnt : Int))), (4, .int (Int32.ofInt (400 + (i : Int)))), (5, .int (Int32.ofInt (400 + (n : Int)))), (0, .ref 165)]) (st' := [.int (Int32.ofInt ((D + 1 : Nat) : Int))]) 1 rfl ?_
                refine xr_if_eq rfl (by omega) (fun z68 => ?_) (fun z68 => ?_)
                · refine xr_steps (pc' := 100) (L' := [(6, .int (Int32.ofInt (xat n f i))), (1, .int (Int32.ofInt ((D + 1 : Nat) : Int))), (2, .int (Int32.ofInt 3)), (3, .int (Int32.ofInt (cnt : Int))), (4, .int (Int32.ofInt (400 + (i : Int)))), (5, .int (Int32.ofInt (400 + (n : Int)))), (0, .ref 165)]) (st' := [.int (Int32.ofInt (-1))]) 1 rfl ?_
                  exfalso; omega
                · refine xr_steps (pc' := 75) (L' := [(6, .int (Int32.ofInt (xat n f i))), (1, .int (Int32.ofInt ((D + 1 : Nat) : Int))), (2, .int (Int32.ofInt 3)), (3, .int (Int32.ofInt (cnt : Int))), (4, .int (Int32.ofInt (400 + (i : Int)))), (5, .int (Int32.ofInt (400 + (n : Int)))), (0, .ref 165)]) (st' := [.ref 165]) 1 rfl ?_
                  refine xr_getf (v := .ref 178) rfl (ym_165 hA) rfl ?_
                  refine xr_steps (pc' := 80) (L' := [(6, .int (Int32.ofInt (xat n f i))), (1, .int (Int32.ofInt ((D + 1 : Nat) : Int))), (2, .int (Int32.ofInt 3)), (3, .int (Int32.ofInt (cnt : Int))), (4, .int (Int32.ofInt (400 + (i : Int)))), (5, .int (Int32.ofInt (400 + (n : Int)))), (0, .ref 165)]) (st' := [.int (Int32.ofInt 1), .int (Int32.ofInt ((D + 1 : Nat) : Int)), .ref 178]) 2 rfl ?_
                  refine xr_isub rfl ?_
                  rw [show ((D + 1 : Nat) : Int) - 1 = (D : Int) by omega]
                  refine ym_caload (e := T 178 (D : Int).toNat) hA rfl rfl (by decide) (by omega) (by omega) rfl ?_
                  rw [show (D : Int).toNat = D by omega]
                  refine xr_steps (pc' := 86) (L' := [(6, .int (Int32.ofInt (xat n f i))), (1, .int (Int32.ofInt ((D + 1 : Nat) : Int))), (2, .int (Int32.ofInt 3)), (3, .int (Int32.ofInt (cnt : Int))), (4, .int (Int32.ofInt (400 + (i : Int)))), (5, .int (Int32.ofInt (400 + (n : Int)))), (0, .ref 165)]) (st' := [.int (Int32.ofInt 93), .int (Int32.ofInt (xat n f i)), .int (Int32.ofInt (T 178 D))]) 2 rfl ?_
                  refine xr_icmp_ne rfl (by omega) (by omega) (fun z69 => ?_) (fun z69 => ?_)
                  · refine xr_steps (pc' := 96) (L' := [(6, .int (Int32.ofInt (xat n f i))), (1, .int (Int32.ofInt ((D + 1 : Nat) : Int))), (2, .int (Int32.ofInt 3)), (3, .int (Int32.ofInt (cnt : Int))), (4, .int (Int32.ofInt (400 + (i : Int)))), (5, .int (Int32.ofInt (400 + (n : Int)))), (0, .ref 165)]) (st' := [.int (Int32.ofInt 123), .int (Int32.ofInt (T 178 D))]) 1 rfl ?_
                    refine xr_icmp_eq rfl (by omega) (by omega) (fun z70 => ?_) (fun z70 => ?_)
                    · refine xr_iincn (L' := [(1, .int (Int32.ofInt (((D + 1 : Nat) : Int) - 1))), (6, .int (Int32.ofInt (xat n f i))), (2, .int (Int32.ofInt 3)), (3, .int (Int32.ofInt (cnt : Int))), (4, .int (Int32.ofInt (400 + (i : Int)))), (5, .int (Int32.ofInt (400 + (n : Int)))), (0, .ref 165)]) rfl rfl rfl ?_
                      rw [show ((D + 1 : Nat) : Int) - 1 = (D : Int) by omega]
                      refine xr_steps (pc' := 106) (L' := [(2, .int (Int32.ofInt 1)), (1, .int (Int32.ofInt (D : Int))), (6, .int (Int32.ofInt (xat n f i))), (3, .int (Int32.ofInt (cnt : Int))), (4, .int (Int32.ofInt (400 + (i : Int)))), (5, .int (Int32.ofInt (400 + (n : Int)))), (0, .ref 165)]) (st' := []) 2 rfl ?_
                      refine xr_iinc (L' := [(4, .int (Int32.ofInt ((400 + (i : Int)) + 1))), (2, .int (Int32.ofInt 1)), (1, .int (Int32.ofInt (D : Int))), (6, .int (Int32.ofInt (xat n f i))), (3, .int (Int32.ofInt (cnt : Int))), (5, .int (Int32.ofInt (400 + (n : Int)))), (0, .ref 165)]) rfl rfl rfl ?_
                      refine xr_steps (pc' := 21) (L' := [(4, .int (Int32.ofInt ((400 + (i : Int)) + 1))), (2, .int (Int32.ofInt 1)), (1, .int (Int32.ofInt (D : Int))), (6, .int (Int32.ofInt (xat n f i))), (3, .int (Int32.ofInt (cnt : Int))), (5, .int (Int32.ofInt (400 + (n : Int)))), (0, .ref 165)]) (st' := []) 2 rfl ?_
                      refine xr_loc (L := [(1, .int (Int32.ofInt (D : Int))), (2, .int (Int32.ofInt 1)), (3, .int (Int32.ofInt (cnt : Int))), (4, .int (Int32.ofInt ((400 + (i : Int)) + 1))), (5, .int (Int32.ofInt (400 + (n : Int)))), (0, .ref 165)]) (show [1, 2, 3, 4, 5, 0].Nodup by decide) ⟨rfl, rfl, rfl, rfl, rfl, rfl, trivial⟩ ?_
                      first
                        | (rw [show 400 + (i : Int) + 1 = 400 + ((i + 1 : Nat) : Int) by omega]; exact hcl)
                        | (exfalso; omega)
                    · refine xr_steps (pc' := 100) (L' := [(6, .int (Int32.ofInt (xat n f i))), (1, .int (Int32.ofInt ((D + 1 : Nat) : Int))), (2, .int (Int32.ofInt 3)), (3, .int (Int32.ofInt (cnt : Int))), (4, .int (Int32.ofInt (400 + (i : Int)))), (5, .int (Int32.ofInt (400 + (n : Int)))), (0, .ref 165)]) (st' := [.int (Int32.ofInt (-1))]) 1 rfl ?_
                      exfalso; omega
                  · refine xr_steps (pc' := 96) (L' := [(6, .int (Int32.ofInt (xat n f i))), (1, .int (Int32.ofInt ((D + 1 : Nat) : Int))), (2, .int (Int32.ofInt 3)), (3, .int (Int32.ofInt (cnt : Int))), (4, .int (Int32.ofInt (400 + (i : Int)))), (5, .int (Int32.ofInt (400 + (n : Int)))), (0, .ref 165)]) (st' := [.int (Int32.ofInt 91), .int (Int32.ofInt (T 178 D))]) 2 rfl ?_
                    refine xr_icmp_eq rfl (by omega) (by omega) (fun z71 => ?_) (fun z71 => ?_)
                    · refine xr_iincn (L' := [(1, .int (Int32.ofInt (((D + 1 : Nat) : Int) - 1))), (6, .int (Int32.ofInt (xat n f i))), (2, .int (Int32.ofInt 3)), (3, .int (Int32.ofInt (cnt : Int))), (4, .int (Int32.ofInt (400 + (i : Int)))), (5, .int (Int32.ofInt (400 + (n : Int)))), (0, .ref 165)]) rfl rfl rfl ?_
                      rw [show ((D + 1 : Nat) : Int) - 1 = (D : Int) by omega]
                      refine xr_steps (pc' := 106) (L' := [(2, .int (Int32.ofInt 1)), (1, .int (Int32.ofInt (D : Int))), (6, .int (Int32.ofInt (xat n f i))), (3, .int (Int32.ofInt (cnt : Int))), (4, .int (Int32.ofInt (400 + (i : Int)))), (5, .int (Int32.ofInt (400 + (n : Int)))), (0, .ref 165)]) (st' := []) 2 rfl ?_
                      refine xr_iinc (L' := [(4, .int (Int32.ofInt ((400 + (i : Int)) + 1))), (2, .int (Int32.ofInt 1)), (1, .int (Int32.ofInt (D : Int))), (6, .int (Int32.ofInt (xat n f i))), (3, .int (Int32.ofInt (cnt : Int))), (5, .int (Int32.ofInt (400 + (n : Int)))), (0, .ref 165)]) rfl rfl rfl ?_
                      refine xr_steps (pc' := 21) (L' := [(4, .int (Int32.ofInt ((400 + (i : Int)) + 1))), (2, .int (Int32.ofInt 1)), (1, .int (Int32.ofInt (D : Int))), (6, .int (Int32.ofInt (xat n f i))), (3, .int (Int32.ofInt (cnt : Int))), (5, .int (Int32.ofInt (400 + (n : Int)))), (0, .ref 165)]) (st' := []) 2 rfl ?_
                      refine xr_loc (L := [(1, .int (Int32.ofInt (D : Int))), (2, .int (Int32.ofInt 1)), (3, .int (Int32.ofInt (cnt : Int))), (4, .int (Int32.ofInt ((400 + (i : Int)) + 1))), (5, .int (Int32.ofInt (400 + (n : Int)))), (0, .ref 165)]) (show [1, 2, 3, 4, 5, 0].Nodup by decide) ⟨rfl, rfl, rfl, rfl, rfl, rfl, trivial⟩ ?_
                      first
                        | (rw [show 400 + (i : Int) + 1 = 400 + ((i + 1 : Nat) : Int) by omega]; exact hcl)
                        | (exfalso; omega)
                    · refine xr_steps (pc' := 100) (L' := [(6, .int (Int32.ofInt (xat n f i))), (1, .int (Int32.ofInt ((D + 1 : Nat) : Int))), (2, .int (Int32.ofInt 3)), (3, .int (Int32.ofInt (cnt : Int))), (4, .int (Int32.ofInt (400 + (i : Int)))), (5, .int (Int32.ofInt (400 + (n : Int)))), (0, .ref 165)]) (st' := [.int (Int32.ofInt (-1))]) 1 rfl ?_
                      exfalso; omega
theorem mo_208k3 (hA : 194 ≤ A.1) (hx : xtx s T n f) (hcn : cnt ≤ 1000) (hi : i ≤ 1000) (hD : D ≤ 5) (h125 : ¬ ye n f i = 125) (hgo : ∀ (c : Nat) (ke : Int), ye n f (i + 1) = 97 + (c : Int) → xpk (ye n f) i → ¬ xbt (Int32.ofInt (T 179 D)) c = true → Int32.ofInt ke = Int32.ofInt (T 179 D) ||| (Int32.ofInt 1 <<< (Int32.ofInt (c : Int) &&& 31)) → xr_ok (xt_G w) (d + 1 + 1 + 1) 208 21 [(1, .int (Int32.ofInt ((D + 1 : Nat) : Int))), (2, .int (Int32.ofInt 0)), (3, .int (Int32.ofInt (cnt : Int))), (4, .int (Int32.ofInt (400 + ((i + 4 : Nat) : Int)))), (5, .int (Int32.ofInt (400 + (n : Int)))), (0, .ref 165)] [] (ym A s (va_up T 179 (va_up (T 179) D ke))) Q) (hbad : ¬ (xpk (ye n f) i ∧ ∀ c : Nat, ye n f (i + 1) = 97 + (c : Int) → ¬ xbt (Int32.ofInt (T 179 D)) c = true) → Q (.inl (some (.int (Int32.ofInt (-1))))) (ym A s T)) : xr_ok (xt_G w) (d + 1 + 1 + 1) 208 21 [(1, .int (Int32.ofInt ((D + 1 : Nat) : Int))), (2, .int (Int32.ofInt 3)), (3, .int (Int32.ofInt (cnt : Int))), (4, .int (Int32.ofInt (400 + (i : Int)))), (5, .int (Int32.ofInt (400 + (n : Int)))), (0, .ref 165)] [] (ym A s T) Q := by
  have hn := hx.2.1
  have hye := xtx_ye hx i
  refine xr_steps (pc' := 25) (L' := [(1, .int (Int32.ofInt ((D + 1 : Nat) : Int))), (2, .int (Int32.ofInt 3)), (3, .int (Int32.ofInt (cnt : Int))), (4, .int (Int32.ofInt (400 + (i : Int)))), (5, .int (Int32.ofInt (400 + (n : Int)))), (0, .ref 165)]) (st' := [.int (Int32.ofInt (400 + (n : Int))), .int (Int32.ofInt (400 + (i : Int)))]) 2 rfl ?_
  refine xr_icmp_ge rfl (by omega) (by omega) (fun z31 => ?_) (fun z31 => ?_)
  · refine xr_steps (pc' := 350) (L' := [(1, .int (Int32.ofInt ((D + 1 : Nat) : Int))), (2, .int (Int32.ofInt 3)), (3, .int (Int32.ofInt (cnt : Int))), (4, .int (Int32.ofInt (400 + (i : Int)))), (5, .int (Int32.ofInt (400 + (n : Int)))), (0, .ref 165)]) (st' := [.int (Int32.ofInt ((D + 1 : Nat) : Int))]) 1 rfl ?_
    refine xr_if_ne rfl (by omega) (fun z32 => ?_) (fun z32 => ?_)
    · refine xr_steps (pc' := 363) (L' := [(1, .int (Int32.ofInt ((D + 1 : Nat) : Int))), (2, .int (Int32.ofInt 3)), (3, .int (Int32.ofInt (cnt : Int))), (4, .int (Int32.ofInt (400 + (i : Int)))), (5, .int (Int32.ofInt (400 + (n : Int)))), (0, .ref 165)]) (st' := [.int (Int32.ofInt (-1))]) 1 rfl ?_
      first
        | exact xr_retI2 rfl rfl (hbad (fun h => by unfold xpk at h; omega))
        | (exfalso; omega)
    · refine xr_steps (pc' := 355) (L' := [(1, .int (Int32.ofInt ((D + 1 : Nat) : Int))), (2, .int (Int32.ofInt 3)), (3, .int (Int32.ofInt (cnt : Int))), (4, .int (Int32.ofInt (400 + (i : Int)))), (5, .int (Int32.ofInt (400 + (n : Int)))), (0, .ref 165)]) (st' := [.int (Int32.ofInt 1), .int (Int32.ofInt 3)]) 2 rfl ?_
      refine xr_icmp_ne rfl (by omega) (by omega) (fun z33 => ?_) (fun z33 => ?_)
      · refine xr_steps (pc' := 363) (L' := [(1, .int (Int32.ofInt ((D + 1 : Nat) : Int))), (2, .int (Int32.ofInt 3)), (3, .int (Int32.ofInt (cnt : Int))), (4, .int (Int32.ofInt (400 + (i : Int)))), (5, .int (Int32.ofInt (400 + (n : Int)))), (0, .ref 165)]) (st' := [.int (Int32.ofInt (-1))]) 1 rfl ?_
        first
          | exact xr_retI2 rfl rfl (hbad (fun h => by unfold xpk at h; omega))
          | (exfalso; omega)
      · exfalso; omega
  · refine xr_steps (pc' := 31) (L' := [(1, .int (Int32.ofInt ((D + 1 : Nat) : Int))), (2, .int (Int32.ofInt 3)), (3, .int (Int32.ofInt (cnt : Int))), (4, .int (Int32.ofInt (400 + (i : Int)))), (5, .int (Int32.ofInt (400 + (n : Int)))), (0, .ref 165)]) (st' := [.int (Int32.ofInt (400 + (i : Int))), .ref 165]) 2 rfl ?_
    refine xr_call (q := (.invokevirtual 103, 3, 209, 2)) (av := [.ref 165, .int (Int32.ofInt (400 + (i : Int)))]) (rest := []) rfl rfl (by decide) rfl (ym_rcv hA rfl) (Nat.le_of_ble_eq_true rfl) (mo_209t (i := i) hA hx (by omega) (by omega)) ?_
    rintro _ _ ⟨rfl, eA⟩
    rw [eA]
    clear eA
    have hx34 := xtx_ye hx i
    refine xr_steps (pc' := 40) (L' := [(6, .int (Int32.ofInt (xat n f i))), (1, .int (Int32.ofInt ((D + 1 : Nat) : Int))), (2, .int (Int32.ofInt 3)), (3, .int (Int32.ofInt (cnt : Int))), (4, .int (Int32.ofInt (400 + (i : Int)))), (5, .int (Int32.ofInt (400 + (n : Int)))), (0, .ref 165)]) (st' := [.int (Int32.ofInt 93), .int (Int32.ofInt (xat n f i))]) 3 rfl ?_
    refine xr_icmp_ne rfl (by omega) (by omega) (fun z35 => ?_) (fun z35 => ?_)
    · refine xr_steps (pc' := 57) (L' := [(6, .int (Int32.ofInt (xat n f i))), (1, .int (Int32.ofInt ((D + 1 : Nat) : Int))), (2, .int (Int32.ofInt 3)), (3, .int (Int32.ofInt (cnt : Int))), (4, .int (Int32.ofInt (400 + (i : Int)))), (5, .int (Int32.ofInt (400 + (n : Int)))), (0, .ref 165)]) (st' := [.int (Int32.ofInt 125), .int (Int32.ofInt (xat n f i))]) 2 rfl ?_
      refine xr_icmp_ne rfl (by omega) (by omega) (fun z36 => ?_) (fun z36 => ?_)
      · refine xr_steps (pc' := 114) (L' := [(6, .int (Int32.ofInt (xat n f i))), (1, .int (Int32.ofInt ((D + 1 : Nat) : Int))), (2, .int (Int32.ofInt 3)), (3, .int (Int32.ofInt (cnt : Int))), (4, .int (Int32.ofInt (400 + (i : Int)))), (5, .int (Int32.ofInt (400 + (n : Int)))), (0, .ref 165)]) (st' := [.int (Int32.ofInt 1), .int (Int32.ofInt 3)]) 2 rfl ?_
        refine xr_icmp_ne rfl (by omega) (by omega) (fun z37 => ?_) (fun z37 => ?_)
        · refine xr_steps (pc' := 157) (L' := [(6, .int (Int32.ofInt (xat n f i))), (1, .int (Int32.ofInt ((D + 1 : Nat) : Int))), (2, .int (Int32.ofInt 3)), (3, .int (Int32.ofInt (cnt : Int))), (4, .int (Int32.ofInt (400 + (i : Int)))), (5, .int (Int32.ofInt (400 + (n : Int)))), (0, .ref 165)]) (st' := [.int (Int32.ofInt 2), .int (Int32.ofInt 3)]) 2 rfl ?_
          refine xr_icmp_le rfl (by omega) (by omega) (fun z38 => ?_) (fun z38 => ?_)
          · exfalso; omega
          · refine xr_steps (pc' := 164) (L' := [(6, .int (Int32.ofInt (xat n f i))), (1, .int (Int32.ofInt ((D + 1 : Nat) : Int))), (2, .int (Int32.ofInt 3)), (3, .int (Int32.ofInt (cnt : Int))), (4, .int (Int32.ofInt (400 + (i : Int)))), (5, .int (Int32.ofInt (400 + (n : Int)))), (0, .ref 165)]) (st' := [.int (Int32.ofInt 1), .int (Int32.ofInt (400 + (i : Int))), .ref 165]) 3 rfl ?_
            refine xr_iadd rfl ?_
            refine xr_call (q := (.invokevirtual 103, 3, 209, 2)) (av := [.ref 165, .int (Int32.ofInt ((400 + (i : Int)) + 1))]) (rest := []) rfl rfl (by decide) rfl (ym_rcv hA rfl) (Nat.le_of_ble_eq_true rfl) (mo_209t (i := i + 1) hA hx (by omega) (by omega)) ?_
            rintro _ _ ⟨rfl, eA⟩
            rw [eA]
            clear eA
            have hx39 := xtx_ye hx (i + 1)
            refine xr_steps (pc' := 174) (L' := [(7, .int (Int32.ofInt (xat n f (i + 1)))), (6, .int (Int32.ofInt (xat n f i))), (1, .int (Int32.ofInt ((D + 1 : Nat) : Int))), (2, .int (Int32.ofInt 3)), (3, .int (Int32.ofInt (cnt : Int))), (4, .int (Int32.ofInt (400 + (i : Int)))), (5, .int (Int32.ofInt (400 + (n : Int)))), (0, .ref 165)]) (st' := [.int (Int32.ofInt 34), .int (Int32.ofInt (xat n f i))]) 3 rfl ?_
            refine xr_icmp_ne rfl (by omega) (by omega) (fun z40 => ?_) (fun z40 => ?_)
            · refine xr_steps (pc' := 232) (L' := [(7, .int (Int32.ofInt (xat n f (i + 1)))), (6, .int (Int32.ofInt (xat n f i))), (1, .int (Int32.ofInt ((D + 1 : Nat) : Int))), (2, .int (Int32.ofInt 3)), (3, .int (Int32.ofInt (cnt : Int))), (4, .int (Int32.ofInt (400 + (i : Int)))), (5, .int (Int32.ofInt (400 + (n : Int)))), (0, .ref 165)]) (st' := [.int (Int32.ofInt (-1))]) 1 rfl ?_
              first
                | exact xr_retI2 rfl rfl (hbad (fun h => by unfold xpk at h; omega))
                | (exfalso; omega)
            · refine xr_steps (pc' := 179) (L' := [(7, .int (Int32.ofInt (xat n f (i + 1)))), (6, .int (Int32.ofInt (xat n f i))), (1, .int (Int32.ofInt ((D + 1 : Nat) : Int))), (2, .int (Int32.ofInt 3)), (3, .int (Int32.ofInt (cnt : Int))), (4, .int (Int32.ofInt (400 + (i : Int)))), (5, .int (Int32.ofInt (400 + (n : Int)))), (0, .ref 165)]) (st' := [.int (Int32.ofInt (xat n f (i + 1)))]) 1 rfl ?_
              obtain ⟨bl, hbl⟩ := mo_bool (97 ≤ xat n f (i + 1) ∧ xat n f (i + 1) ≤ 122)
              refine xr_call (q := (.invokestatic 111, 3, 210, 1)) (av := [.int (Int32.ofInt (xat n f (i + 1)))]) (rest := []) rfl rfl (by decide) rfl rfl (Nat.le_of_ble_eq_true rfl) (mo_210 (by omega) hbl) ?_
              rintro _ _ ⟨rfl, eA⟩
              rw [eA]
              clear eA
              refine xr_if_eq rfl (by omega) (fun z41 => ?_) (fun z41 => ?_)
              · refine xr_steps (pc' := 232) (L' := [(7, .int (Int32.ofInt (xat n f (i + 1)))), (6, .int (Int32.ofInt (xat n f i))), (1, .int (Int32.ofInt ((D + 1 : Nat) : Int))), (2, .int (Int32.ofInt 3)), (3, .int (Int32.ofInt (cnt : Int))), (4, .int (Int32.ofInt (400 + (i : Int)))), (5, .int (Int32.ofInt (400 + (n : Int)))), (0, .ref 165)]) (st' := [.int (Int32.ofInt (-1))]) 1 rfl ?_
                first
                  | exact xr_retI2 rfl rfl (hbad (fun h => by unfold xpk at h; omega))
                  | (exfalso; omega)
              · refine xr_steps (pc' := 189) (L' := [(7, .int (Int32.ofInt (xat n f (i + 1)))), (6, .int (Int32.ofInt (xat n f i))), (1, .int (Int32.ofInt ((D + 1 : Nat) : Int))), (2, .int (Int32.ofInt 3)), (3, .int (Int32.ofInt (cnt : Int))), (4, .int (Int32.ofInt (400 + (i : Int)))), (5, .int (Int32.ofInt (400 + (n : Int)))), (0, .ref 165)]) (st' := [.int (Int32.ofInt 2), .int (Int32.ofInt (400 + (i : Int))), .ref 165]) 3 rfl ?_
                refine xr_iadd rfl ?_
                refine xr_call (q := (.invokevirtual 103, 3, 209, 2)) (av := [.ref 165, .int (Int32.ofInt ((400 + (i : Int)) + 2))]) (rest := []) rfl rfl (by decide) rfl (ym_rcv hA rfl) (Nat.le_of_ble_eq_true rfl) (mo_209t (i := i + 2) hA hx (by omega) (by omega)) ?_
                rintro _ _ ⟨rfl, eA⟩
                rw [eA]
                clear eA
                have hx42 := xtx_ye hx (i + 2)
                refine xr_steps (pc' := 195) (L' := [(7, .int (Int32.ofInt (xat n f (i + 1)))), (6, .int (Int32.ofInt (xat n f i))), (1, .int (Int32.ofInt ((D + 1 : Nat) : Int))), (2, .int (Int32.ofInt 3)), (3, .int (Int32.ofInt (cnt : Int))), (4, .int (Int32.ofInt (400 + (i : Int)))), (5, .int (Int32.ofInt (400 + (n : Int)))), (0, .ref 165)]) (st' := [.int (Int32.ofInt 34), .int (Int32.ofInt (xat n f (i + 2)))]) 1 rfl ?_
                refine xr_icmp_ne rfl (by omega) (by omega) (fun z43 => ?_) (fun z43 => ?_)
                · refine xr_steps (pc' := 232) (L' := [(7, .int (Int32.ofInt (xat n f (i + 1)))), (6, .int (Int32.ofInt (xat n f i))), (1, .int (Int32.ofInt ((D + 1 : Nat) : Int))), (2, .int (Int32.ofInt 3)), (3, .int (Int32.ofInt (cnt : Int))), (4, .int (Int32.ofInt (400 + (i : Int)))), (5, .int (Int32.ofInt (400 + (n : Int)))), (0, .ref 165)]) (st' := [.int (Int32.ofInt (-1))]) 1 rfl ?_
                  first
                    | exact xr_retI2 rfl rfl (hbad (fun h => by unfold xpk at h; omega))
                    | (exfalso; omega)
                · refine xr_steps (pc' := 202) (L' := [(7, .int (Int32.ofInt (xat n f (i + 1)))), (6, .int (Int32.ofInt (xat n f i))), (1, .int (Int32.ofInt ((D + 1 : Nat) : Int))), (2, .int (Int32.ofInt 3)), (3, .int (Int32.ofInt (cnt : Int))), (4, .int (Int32.ofInt (400 + (i : Int)))), (5, .int (Int32.ofInt (400 + (n : Int)))), (0, .ref 165)]) (st' := [.int (Int32.ofInt 3), .int (Int32.ofInt (400 + (i : Int))), .ref 165]) 3 rfl ?_
                  refine xr_iadd rfl ?_
                  refine xr_call (q := (.invokevirtual 103, 3, 209, 2)) (av := [.ref 165, .int (Int32.ofInt ((400 + (i : Int)) + 3))]) (rest := []) rfl rfl (by decide) rfl (ym_rcv hA rfl) (Nat.le_of_ble_eq_true rfl) (mo_209t (i := i + 3) hA hx (by omega) (by omega)) ?_
                  rintro _ _ ⟨rfl, eA⟩
                  rw [eA]
                  clear eA
                  have hx44 := xtx_ye hx (i + 3)
                  refine xr_steps (pc' := 208) (L' := [(7, .int (Int32.ofInt (xat n f (i + 1)))), (6, .int (Int32.ofInt (xat n f i))), (1, .int (Int32.ofInt ((D + 1 : Nat) : Int))), (2, .int (Int32.ofInt 3)), (3, .int (Int32.ofInt (cnt : Int))), (4, .int (Int32.ofInt (400 + (i : Int)))), (5, .int (Int32.ofInt (400 + (n : Int)))), (0, .ref 165)]) (st' := [.int (Int32.ofInt 58), .int (Int32.ofInt (xat n f (i + 3)))]) 1 rfl ?_
                  refine xr_icmp_ne rfl (by omega) (by omega) (fun z45 => ?_) (fun z45 => ?_)
                  · refine xr_steps (pc' := 232) (L' := [(7, .int (Int32.ofInt (xat n f (i + 1)))), (6, .int (Int32.ofInt (xat n f i))), (1, .int (Int32.ofInt ((D + 1 : Nat) : Int))), (2, .int (Int32.ofInt 3)), (3, .int (Int32.ofInt (cnt : Int))), (4, .int (Int32.ofInt (400 + (i : Int)))), (5, .int (Int32.ofInt (400 + (n : Int)))), (0, .ref 165)]) (st' := [.int (Int32.ofInt (-1))]) 1 rfl ?_
                    first
                      | exact xr_retI2 rfl rfl (hbad (fun h => by unfold xpk at h; omega))
                      | (exfalso; omega)
                  · refine xr_steps (pc' := 212) (L' := [(7, .int (Int32.ofInt (xat n f (i + 1)))), (6, .int (Int32.ofInt (xat n f i))), (1, .int (Int32.ofInt ((D + 1 : Nat) : Int))), (2, .int (Int32.ofInt 3)), (3, .int (Int32.ofInt (cnt : Int))), (4, .int (Int32.ofInt (400 + (i : Int)))), (5, .int (Int32.ofInt (400 + (n : Int)))), (0, .ref 165)]) (st' := [.ref 165]) 1 rfl ?_
                    refine xr_getf (v := .ref 179) rfl (ym_165 hA) rfl ?_
                    refine xr_steps (pc' := 217) (L' := [(7, .int (Int32.ofInt (xat n f (i + 1)))), (6, .int (Int32.ofInt (xat n f i))), (1, .int (Int32.ofInt ((D + 1 : Nat) : Int))), (2, .int (Int32.ofInt 3)), (3, .int (Int32.ofInt (cnt : Int))), (4, .int (Int32.ofInt (400 + (i : Int)))), (5, .int (Int32.ofInt (400 + (n : Int)))), (0, .ref 165)]) (st' := [.int (Int32.ofInt 1), .int (Int32.ofInt ((D + 1 : Nat) : Int)), .ref 179]) 2 rfl ?_
                    refine xr_isub rfl ?_
                    rw [show ((D + 1 : Nat) : Int) - 1 = (D : Int) by omega]
                    refine ym_iaload (e := T 179 (D : Int).toNat) hA rfl rfl (by decide) (by omega) (by omega) rfl ?_
                    rw [show (D : Int).toNat = D by omega]
                    refine xr_steps (pc' := 223) (L' := [(7, .int (Int32.ofInt (xat n f (i + 1)))), (6, .int (Int32.ofInt (xat n f i))), (1, .int (Int32.ofInt ((D + 1 : Nat) : Int))), (2, .int (Int32.ofInt 3)), (3, .int (Int32.ofInt (cnt : Int))), (4, .int (Int32.ofInt (400 + (i : Int)))), (5, .int (Int32.ofInt (400 + (n : Int)))), (0, .ref 165)]) (st' := [.int (Int32.ofInt 97), .int (Int32.ofInt (xat n f (i + 1))), .int (Int32.ofInt (T 179 D))]) 2 rfl ?_
                    refine xr_isub rfl ?_
                    obtain ⟨c, hc⟩ : ∃ c : Nat, xat n f (i + 1) - 97 = (c : Int) := ⟨(xat n f (i + 1) - 97).toNat, by omega⟩
                    rw [hc]
                    refine xr_steps (pc' := 227) (L' := [(7, .int (Int32.ofInt (xat n f (i + 1)))), (6, .int (Int32.ofInt (xat n f i))), (1, .int (Int32.ofInt ((D + 1 : Nat) : Int))), (2, .int (Int32.ofInt 3)), (3, .int (Int32.ofInt (cnt : Int))), (4, .int (Int32.ofInt (400 + (i : Int)))), (5, .int (Int32.ofInt (400 + (n : Int)))), (0, .ref 165)]) (st' := [.int ((Int32.ofInt (T 179 D) >>> (Int32.ofInt (c : Int) &&& 31)) &&& Int32.ofInt 1)]) 3 rfl ?_
                    rw [xbt_get _ (by omega)]
                    obtain ⟨bt, hbt⟩ : ∃ bt : Int, bt = if xbt (Int32.ofInt (T 179 D)) c = true then 1 else 0 := ⟨_, rfl⟩
                    rw [← hbt]
                    have hb01 : (bt = 1 ∧ xbt (Int32.ofInt (T 179 D)) c = true) ∨ (bt = 0 ∧ ¬ xbt (Int32.ofInt (T 179 D)) c = true) := by
                      rw [hbt]
                      by_cases hz : xbt (Int32.ofInt (T 179 D)) c = true
                      · rw [if_pos hz]; exact Or.inl ⟨rfl, hz⟩
                      · rw [if_neg hz]; exact Or.inr ⟨rfl, hz⟩
                    refine xr_steps (pc' := 228) (L' := [(7, .int (Int32.ofInt (xat n f (i + 1)))), (6, .int (Int32.ofInt (xat n f i))), (1, .int (Int32.ofInt ((D + 1 : Nat) : Int))), (2, .int (Int32.ofInt 3)), (3, .int (Int32.ofInt (cnt : Int))), (4, .int (Int32.ofInt (400 + (i : Int)))), (5, .int (Int32.ofInt (400 + (n : Int)))), (0, .ref 165)]) (st' := [.int (Int32.ofInt 1), .int (Int32.ofInt bt)]) 1 rfl ?_
                    refine xr_icmp_ne rfl (by omega) (by omega) (fun z46 => ?_) (fun z46 => ?_)
                    · refine xr_steps (pc' := 234) (L' := [(7, .int (Int32.ofInt (xat n f (i + 1)))), (6, .int (Int32.ofInt (xat n f i))), (1, .int (Int32.ofInt ((D + 1 : Nat) : Int))), (2, .int (Int32.ofInt 3)), (3, .int (Int32.ofInt (cnt : Int))), (4, .int (Int32.ofInt (400 + (i : Int)))), (5, .int (Int32.ofInt (400 + (n : Int)))), (0, .ref 165)]) (st' := [.ref 165]) 1 rfl ?_
                      refine xr_getf (v := .ref 179) rfl (ym_165 hA) rfl ?_
                      refine xr_steps (pc' := 239) (L' := [(7, .int (Int32.ofInt (xat n f (i + 1)))), (6, .int (Int32.ofInt (xat n f i))), (1, .int (Int32.ofInt ((D + 1 : Nat) : Int))), (2, .int (Int32.ofInt 3)), (3, .int (Int32.ofInt (cnt : Int))), (4, .int (Int32.ofInt (400 + (i : Int)))), (5, .int (Int32.ofInt (400 + (n : Int)))), (0, .ref 165)]) (st' := [.int (Int32.ofInt 1), .int (Int32.ofInt ((D + 1 : Nat) : Int)), .ref 179]) 2 rfl ?_
                      refine xr_isub rfl ?_
                      rw [show ((D + 1 : Nat) : Int) - 1 = (D : Int) by omega]
                      refine xr_steps (pc' := 241) (L' := [(7, .int (Int32.ofInt (xat n f (i + 1)))), (6, .int (Int32.ofInt (xat n f i))), (1, .int (Int32.ofInt ((D + 1 : Nat) : Int))), (2, .int (Int32.ofInt 3)), (3, .int (Int32.ofInt (cnt : Int))), (4, .int (Int32.ofInt (400 + (i : Int)))), (5, .int (Int32.ofInt (400 + (n : Int)))), (0, .ref 165)]) (st' := [.ref 165, .int (Int32.ofInt (D : Int)), .ref 179]) 1 rfl ?_
                      refine xr_getf (v := .ref 179) rfl (ym_165 hA) rfl ?_
                      refine xr_steps (pc' := 246) (L' := [(7, .int (Int32.ofInt (xat n f (i + 1)))), (6, .int (Int32.ofInt (xat n f i))), (1, .int (Int32.ofInt ((D + 1 : Nat) : Int))), (2, .int (Int32.ofInt 3)), (3, .int (Int32.ofInt (cnt : Int))), (4, .int (Int32.ofInt (400 + (i : Int)))), (5, .int (Int32.ofInt (400 + (n : Int)))), (0, .ref 165)]) (st' := [.int (Int32.ofInt 1), .int (Int32.ofInt ((D + 1 : Nat) : Int)), .ref 179, .int (Int32.ofInt (D : Int)), .ref 179]) 2 rfl ?_
                      refine xr_isub rfl ?_
                      rw [show ((D + 1 : Nat) : Int) - 1 = (D : Int) by omega]
                      refine ym_iaload (e := T 179 (D : Int).toNat) hA rfl rfl (by decide) (by omega) (by omega) rfl ?_
                      rw [show (D : Int).toNat = D by omega]
                      refine xr_steps (pc' := 253) (L' := [(7, .int (Int32.ofInt (xat n f (i + 1)))), (6, .int (Int32.ofInt (xat n f i))), (1, .int (Int32.ofInt ((D + 1 : Nat) : Int))), (2, .int (Int32.ofInt 3)), (3, .int (Int32.ofInt (cnt : Int))), (4, .int (Int32.ofInt (400 + (i : Int)))), (5, .int (Int32.ofInt (400 + (n : Int)))), (0, .ref 165)]) (st' := [.int (Int32.ofInt 97), .int (Int32.ofInt (xat n f (i + 1))), .int (Int32.ofInt 1), .int (Int32.ofInt (T 179 D)), .int (Int32.ofInt (D : Int)), .ref 179]) 3 rfl ?_
                      refine xr_isub rfl ?_
                      rw [hc]
                      refine xr_steps (pc' := 256) (L' := [(7, .int (Int32.ofInt (xat n f (i + 1)))), (6, .int (Int32.ofInt (xat n f i))), (1, .int (Int32.ofInt ((D + 1 : Nat) : Int))), (2, .int (Int32.ofInt 3)), (3, .int (Int32.ofInt (cnt : Int))), (4, .int (Int32.ofInt (400 + (i : Int)))), (5, .int (Int32.ofInt (400 + (n : Int)))), (0, .ref 165)]) (st' := [.int (Int32.ofInt (T 179 D) ||| (Int32.ofInt 1 <<< (Int32.ofInt (c : Int) &&& 31))), .int (Int32.ofInt (D : Int)), .ref 179]) 2 rfl ?_
                      obtain ⟨ke, hke⟩ : ∃ ke : Int, Int32.ofInt (T 179 D) ||| (Int32.ofInt 1 <<< (Int32.ofInt (c : Int) &&& 31)) = Int32.ofInt ke := ⟨_, (Int32.ofInt_toInt _).symm⟩
                      rw [hke]
                      refine ym_iastore hA rfl rfl (by decide) (by omega) (by omega) ?_
                      rw [show (D : Int).toNat = D by omega]
                      refine xr_steps (pc' := 259) (L' := [(2, .int (Int32.ofInt 0)), (7, .int (Int32.ofInt (xat n f (i + 1)))), (6, .int (Int32.ofInt (xat n f i))), (1, .int (Int32.ofInt ((D + 1 : Nat) : Int))), (3, .int (Int32.ofInt (cnt : Int))), (4, .int (Int32.ofInt (400 + (i : Int)))), (5, .int (Int32.ofInt (400 + (n : Int)))), (0, .ref 165)]) (st' := []) 2 rfl ?_
                      refine xr_iinc (L' := [(4, .int (Int32.ofInt ((400 + (i : Int)) + 4))), (2, .int (Int32.ofInt 0)), (7, .int (Int32.ofInt (xat n f (i + 1)))), (6, .int (Int32.ofInt (xat n f i))), (1, .int (Int32.ofInt ((D + 1 : Nat) : Int))), (3, .int (Int32.ofInt (cnt : Int))), (5, .int (Int32.ofInt (400 + (n : Int)))), (0, .ref 165)]) rfl rfl rfl ?_
                      refine xr_steps (pc' := 21) (L' := [(4, .int (Int32.ofInt ((400 + (i : Int)) + 4))), (2, .int (Int32.ofInt 0)), (7, .int (Int32.ofInt (xat n f (i + 1)))), (6, .int (Int32.ofInt (xat n f i))), (1, .int (Int32.ofInt ((D + 1 : Nat) : Int))), (3, .int (Int32.ofInt (cnt : Int))), (5, .int (Int32.ofInt (400 + (n : Int)))), (0, .ref 165)]) (st' := []) 2 rfl ?_
                      refine xr_loc (L := [(1, .int (Int32.ofInt ((D + 1 : Nat) : Int))), (2, .int (Int32.ofInt 0)), (3, .int (Int32.ofInt (cnt : Int))), (4, .int (Int32.ofInt ((400 + (i : Int)) + 4))), (5, .int (Int32.ofInt (400 + (n : Int)))), (0, .ref 165)]) (show [1, 2, 3, 4, 5, 0].Nodup by decide) ⟨rfl, rfl, rfl, rfl, rfl, rfl, trivial⟩ ?_
                      rw [show 400 + (i : Int) + 4 = 400 + ((i + 4 : Nat) : Int) by omega]
                      refine hgo c ke (by omega) (by unfold xpk; omega) ?_ hke.symm
                      rcases hb01 with h | h
                      · omega
                      · exact h.2
                    · refine xr_steps (pc' := 232) (L' := [(7, .int (Int32.ofInt (xat n f (i + 1)))), (6, .int (Int32.ofInt (xat n f i))), (1, .int (Int32.ofInt ((D + 1 : Nat) : Int))), (2, .int (Int32.ofInt 3)), (3, .int (Int32.ofInt (cnt : Int))), (4, .int (Int32.ofInt (400 + (i : Int)))), (5, .int (Int32.ofInt (400 + (n : Int)))), (0, .ref 165)]) (st' := [.int (Int32.ofInt (-1))]) 1 rfl ?_
                      refine xr_retI2 rfl rfl (hbad (fun h => ?_))
                      have := h.2 c (by omega)
                      rcases hb01 with h | h
                      · exact this h.2
                      · omega
        · exfalso; omega
      · refine xr_steps (pc' := 62) (L' := [(6, .int (Int32.ofInt (xat n f i))), (1, .int (Int32.ofInt ((D + 1 : Nat) : Int))), (2, .int (Int32.ofInt 3)), (3, .int (Int32.ofInt (cnt : Int))), (4, .int (Int32.ofInt (400 + (i : Int)))), (5, .int (Int32.ofInt (400 + (n : Int)))), (0, .ref 165)]) (st' := [.int (Int32.ofInt 1), .int (Int32.ofInt 3)]) 2 rfl ?_
        refine xr_icmp_eq rfl (by omega) (by omega) (fun z47 => ?_) (fun z47 => ?_)
        · exfalso; omega
        · refine xr_steps (pc' := 67) (L' := [(6, .int (Int32.ofInt (xat n f i))), (1, .int (Int32.ofInt ((D + 1 : Nat) : Int))), (2, .int (Int32.ofInt 3)), (3, .int (Int32.ofInt (cnt : Int))), (4, .int (Int32.ofInt (400 + (i : Int)))), (5, .int (Int32.ofInt (400 + (n : Int)))), (0, .ref 165)]) (st' := [.int (Int32.ofInt 3), .int (Int32.ofInt 3)]) 2 rfl ?_
          refine xr_icmp_ne rfl (by omega) (by omega) (fun z48 => ?_) (fun z48 => ?_)
          · exfalso; omega
          · exfalso; omega
    · refine xr_steps (pc' := 45) (L' := [(6, .int (Int32.ofInt (xat n f i))), (1, .int (Int32.ofInt ((D + 1 : Nat) : Int))), (2, .int (Int32.ofInt 3)), (3, .int (Int32.ofInt (cnt : Int))), (4, .int (Int32.ofInt (400 + (i : Int)))), (5, .int (Int32.ofInt (400 + (n : Int)))), (0, .ref 165)]) (st' := [.int (Int32.ofInt 1), .int (Int32.ofInt 3)]) 2 rfl ?_
      refine xr_icmp_eq rfl (by omega) (by omega) (fun z49 => ?_) (fun z49 => ?_)
      · exfalso; omega
      · refine xr_steps (pc' := 50) (L' := [(6, .int (Int32.ofInt (xat n f i))), (1, .int (Int32.ofInt ((D + 1 : Nat) : Int))), (2, .int (Int32.ofInt 3)), (3, .int (Int32.ofInt (cnt : Int))), (4, .int (Int32.ofInt (400 + (i : Int)))), (5, .int (Int32.ofInt (400 + (n : Int)))), (0, .ref 165)]) (st' := [.int (Int32.ofInt 2), .int (Int32.ofInt 3)]) 2 rfl ?_
        refine xr_icmp_eq rfl (by omega) (by omega) (fun z50 => ?_) (fun z50 => ?_)
        · exfalso; omega
        · refine xr_steps (pc' := 57) (L' := [(6, .int (Int32.ofInt (xat n f i))), (1, .int (Int32.ofInt ((D + 1 : Nat) : Int))), (2, .int (Int32.ofInt 3)), (3, .int (Int32.ofInt (cnt : Int))), (4, .int (Int32.ofInt (400 + (i : Int)))), (5, .int (Int32.ofInt (400 + (n : Int)))), (0, .ref 165)]) (st' := [.int (Int32.ofInt 125), .int (Int32.ofInt (xat n f i))]) 2 rfl ?_
          refine xr_icmp_ne rfl (by omega) (by omega) (fun z51 => ?_) (fun z51 => ?_)
          · refine xr_steps (pc' := 114) (L' := [(6, .int (Int32.ofInt (xat n f i))), (1, .int (Int32.ofInt ((D + 1 : Nat) : Int))), (2, .int (Int32.ofInt 3)), (3, .int (Int32.ofInt (cnt : Int))), (4, .int (Int32.ofInt (400 + (i : Int)))), (5, .int (Int32.ofInt (400 + (n : Int)))), (0, .ref 165)]) (st' := [.int (Int32.ofInt 1), .int (Int32.ofInt 3)]) 2 rfl ?_
            refine xr_icmp_ne rfl (by omega) (by omega) (fun z52 => ?_) (fun z52 => ?_)
            · refine xr_steps (pc' := 157) (L' := [(6, .int (Int32.ofInt (xat n f i))), (1, .int (Int32.ofInt ((D + 1 : Nat) : Int))), (2, .int (Int32.ofInt 3)), (3, .int (Int32.ofInt (cnt : Int))), (4, .int (Int32.ofInt (400 + (i : Int)))), (5, .int (Int32.ofInt (400 + (n : Int)))), (0, .ref 165)]) (st' := [.int (Int32.ofInt 2), .int (Int32.ofInt 3)]) 2 rfl ?_
              refine xr_icmp_le rfl (by omega) (by omega) (fun z53 => ?_) (fun z53 => ?_)
              · exfalso; omega
              · refine xr_steps (pc' := 164) (L' := [(6, .int (Int32.ofInt (xat n f i))), (1, .int (Int32.ofInt ((D + 1 : Nat) : Int))), (2, .int (Int32.ofInt 3)), (3, .int (Int32.ofInt (cnt : Int))), (4, .int (Int32.ofInt (400 + (i : Int)))), (5, .int (Int32.ofInt (400 + (n : Int)))), (0, .ref 165)]) (st' := [.int (Int32.ofInt 1), .int (Int32.ofInt (400 + (i : Int))), .ref 165]) 3 rfl ?_
                refine xr_iadd rfl ?_
                refine xr_call (q := (.invokevirtual 103, 3, 209, 2)) (av := [.ref 165, .int (Int32.ofInt ((400 + (i : Int)) + 1))]) (rest := []) rfl rfl (by decide) rfl (ym_rcv hA rfl) (Nat.le_of_ble_eq_true rfl) (mo_209t (i := i + 1) hA hx (by omega) (by omega)) ?_
                rintro _ _ ⟨rfl, eA⟩
                rw [eA]
                clear eA
                have hx54 := xtx_ye hx (i + 1)
                refine xr_steps (pc' := 174) (L' := [(7, .int (Int32.ofInt (xat n f (i + 1)))), (6, .int (Int32.ofInt (xat n f i))), (1, .int (Int32.ofInt ((D + 1 : Nat) : Int))), (2, .int (Int32.ofInt 3)), (3, .int (Int32.ofInt (cnt : Int))), (4, .int (Int32.ofInt (400 + (i : Int)))), (5, .int (Int32.ofInt (400 + (n : Int)))), (0, .ref 165)]) (st' := [.int (Int32.ofInt 34), .int (Int32.ofInt (xat n f i))]) 3 rfl ?_
                refine xr_icmp_ne rfl (by omega) (by omega) (fun z55 => ?_) (fun z55 => ?_)
                · refine xr_steps (pc' := 232) (L' := [(7, .int (Int32.ofInt (xat n f (i + 1)))), (6, .int (Int32.ofInt (xat n f i))), (1, .int (Int32.ofInt ((D + 1 : Nat) : Int))), (2, .int (Int32.ofInt 3)), (3, .int (Int32.ofInt (cnt : Int))), (4, .int (Int32.ofInt (400 + (i : Int)))), (5, .int (Int32.ofInt (400 + (n : Int)))), (0, .ref 165)]) (st' := [.int (Int32.ofInt (-1))]) 1 rfl ?_
                  first
                    | exact xr_retI2 rfl rfl (hbad (fun h => by unfold xpk at h; omega))
                    | (exfalso; omega)
                · refine xr_steps (pc' := 179) (L' := [(7, .int (Int32.ofInt (xat n f (i + 1)))), (6, .int (Int32.ofInt (xat n f i))), (1, .int (Int32.ofInt ((D + 1 : Nat) : Int))), (2, .int (Int32.ofInt 3)), (3, .int (Int32.ofInt (cnt : Int))), (4, .int (Int32.ofInt (400 + (i : Int)))), (5, .int (Int32.ofInt (400 + (n : Int)))), (0, .ref 165)]) (st' := [.int (Int32.ofInt (xat n f (i + 1)))]) 1 rfl ?_
                  obtain ⟨bl, hbl⟩ := mo_bool (97 ≤ xat n f (i + 1) ∧ xat n f (i + 1) ≤ 122)
                  refine xr_call (q := (.invokestatic 111, 3, 210, 1)) (av := [.int (Int32.ofInt (xat n f (i + 1)))]) (rest := []) rfl rfl (by decide) rfl rfl (Nat.le_of_ble_eq_true rfl) (mo_210 (by omega) hbl) ?_
                  rintro _ _ ⟨rfl, eA⟩
                  rw [eA]
                  clear eA
                  refine xr_if_eq rfl (by omega) (fun z56 => ?_) (fun z56 => ?_)
                  · refine xr_steps (pc' := 232) (L' := [(7, .int (Int32.ofInt (xat n f (i + 1)))), (6, .int (Int32.ofInt (xat n f i))), (1, .int (Int32.ofInt ((D + 1 : Nat) : Int))), (2, .int (Int32.ofInt 3)), (3, .int (Int32.ofInt (cnt : Int))), (4, .int (Int32.ofInt (400 + (i : Int)))), (5, .int (Int32.ofInt (400 + (n : Int)))), (0, .ref 165)]) (st' := [.int (Int32.ofInt (-1))]) 1 rfl ?_
                    first
                      | exact xr_retI2 rfl rfl (hbad (fun h => by unfold xpk at h; omega))
                      | (exfalso; omega)
                  · refine xr_steps (pc' := 189) (L' := [(7, .int (Int32.ofInt (xat n f (i + 1)))), (6, .int (Int32.ofInt (xat n f i))), (1, .int (Int32.ofInt ((D + 1 : Nat) : Int))), (2, .int (Int32.ofInt 3)), (3, .int (Int32.ofInt (cnt : Int))), (4, .int (Int32.ofInt (400 + (i : Int)))), (5, .int (Int32.ofInt (400 + (n : Int)))), (0, .ref 165)]) (st' := [.int (Int32.ofInt 2), .int (Int32.ofInt (400 + (i : Int))), .ref 165]) 3 rfl ?_
                    refine xr_iadd rfl ?_
                    refine xr_call (q := (.invokevirtual 103, 3, 209, 2)) (av := [.ref 165, .int (Int32.ofInt ((400 + (i : Int)) + 2))]) (rest := []) rfl rfl (by decide) rfl (ym_rcv hA rfl) (Nat.le_of_ble_eq_true rfl) (mo_209t (i := i + 2) hA hx (by omega) (by omega)) ?_
                    rintro _ _ ⟨rfl, eA⟩
                    rw [eA]
                    clear eA
                    have hx57 := xtx_ye hx (i + 2)
                    refine xr_steps (pc' := 195) (L' := [(7, .int (Int32.ofInt (xat n f (i + 1)))), (6, .int (Int32.ofInt (xat n f i))), (1, .int (Int32.ofInt ((D + 1 : Nat) : Int))), (2, .int (Int32.ofInt 3)), (3, .int (Int32.ofInt (cnt : Int))), (4, .int (Int32.ofInt (400 + (i : Int)))), (5, .int (Int32.ofInt (400 + (n : Int)))), (0, .ref 165)]) (st' := [.int (Int32.ofInt 34), .int (Int32.ofInt (xat n f (i + 2)))]) 1 rfl ?_
                    refine xr_icmp_ne rfl (by omega) (by omega) (fun z58 => ?_) (fun z58 => ?_)
                    · refine xr_steps (pc' := 232) (L' := [(7, .int (Int32.ofInt (xat n f (i + 1)))), (6, .int (Int32.ofInt (xat n f i))), (1, .int (Int32.ofInt ((D + 1 : Nat) : Int))), (2, .int (Int32.ofInt 3)), (3, .int (Int32.ofInt (cnt : Int))), (4, .int (Int32.ofInt (400 + (i : Int)))), (5, .int (Int32.ofInt (400 + (n : Int)))), (0, .ref 165)]) (st' := [.int (Int32.ofInt (-1))]) 1 rfl ?_
                      first
                        | exact xr_retI2 rfl rfl (hbad (fun h => by unfold xpk at h; omega))
                        | (exfalso; omega)
                    · refine xr_steps (pc' := 202) (L' := [(7, .int (Int32.ofInt (xat n f (i + 1)))), (6, .int (Int32.ofInt (xat n f i))), (1, .int (Int32.ofInt ((D + 1 : Nat) : Int))), (2, .int (Int32.ofInt 3)), (3, .int (Int32.ofInt (cnt : Int))), (4, .int (Int32.ofInt (400 + (i : Int)))), (5, .int (Int32.ofInt (400 + (n : Int)))), (0, .ref 165)]) (st' := [.int (Int32.ofInt 3), .int (Int32.ofInt (400 + (i : Int))), .ref 165]) 3 rfl ?_
                      refine xr_iadd rfl ?_
                      refine xr_call (q := (.invokevirtual 103, 3, 209, 2)) (av := [.ref 165, .int (Int32.ofInt ((400 + (i : Int)) + 3))]) (rest := []) rfl rfl (by decide) rfl (ym_rcv hA rfl) (Nat.le_of_ble_eq_true rfl) (mo_209t (i := i + 3) hA hx (by omega) (by omega)) ?_
                      rintro _ _ ⟨rfl, eA⟩
                      rw [eA]
                      clear eA
                      have hx59 := xtx_ye hx (i + 3)
                      refine xr_steps (pc' := 208) (L' := [(7, .int (Int32.ofInt (xat n f (i + 1)))), (6, .int (Int32.ofInt (xat n f i))), (1, .int (Int32.ofInt ((D + 1 : Nat) : Int))), (2, .int (Int32.ofInt 3)), (3, .int (Int32.ofInt (cnt : Int))), (4, .int (Int32.ofInt (400 + (i : Int)))), (5, .int (Int32.ofInt (400 + (n : Int)))), (0, .ref 165)]) (st' := [.int (Int32.ofInt 58), .int (Int32.ofInt (xat n f (i + 3)))]) 1 rfl ?_
                      refine xr_icmp_ne rfl (by omega) (by omega) (fun z60 => ?_) (fun z60 => ?_)
                      · refine xr_steps (pc' := 232) (L' := [(7, .int (Int32.ofInt (xat n f (i + 1)))), (6, .int (Int32.ofInt (xat n f i))), (1, .int (Int32.ofInt ((D + 1 : Nat) : Int))), (2, .int (Int32.ofInt 3)), (3, .int (Int32.ofInt (cnt : Int))), (4, .int (Int32.ofInt (400 + (i : Int)))), (5, .int (Int32.ofInt (400 + (n : Int)))), (0, .ref 165)]) (st' := [.int (Int32.ofInt (-1))]) 1 rfl ?_
                        first
                          | exact xr_retI2 rfl rfl (hbad (fun h => by unfold xpk at h; omega))
                          | (exfalso; omega)
                      · refine xr_steps (pc' := 212) (L' := [(7, .int (Int32.ofInt (xat n f (i + 1)))), (6, .int (Int32.ofInt (xat n f i))), (1, .int (Int32.ofInt ((D + 1 : Nat) : Int))), (2, .int (Int32.ofInt 3)), (3, .int (Int32.ofInt (cnt : Int))), (4, .int (Int32.ofInt (400 + (i : Int)))), (5, .int (Int32.ofInt (400 + (n : Int)))), (0, .ref 165)]) (st' := [.ref 165]) 1 rfl ?_
                        refine xr_getf (v := .ref 179) rfl (ym_165 hA) rfl ?_
                        refine xr_steps (pc' := 217) (L' := [(7, .int (Int32.ofInt (xat n f (i + 1)))), (6, .int (Int32.ofInt (xat n f i))), (1, .int (Int32.ofInt ((D + 1 : Nat) : Int))), (2, .int (Int32.ofInt 3)), (3, .int (Int32.ofInt (cnt : Int))), (4, .int (Int32.ofInt (400 + (i : Int)))), (5, .int (Int32.ofInt (400 + (n : Int)))), (0, .ref 165)]) (st' := [.int (Int32.ofInt 1), .int (Int32.ofInt ((D + 1 : Nat) : Int)), .ref 179]) 2 rfl ?_
                        refine xr_isub rfl ?_
                        rw [show ((D + 1 : Nat) : Int) - 1 = (D : Int) by omega]
                        refine ym_iaload (e := T 179 (D : Int).toNat) hA rfl rfl (by decide) (by omega) (by omega) rfl ?_
                        rw [show (D : Int).toNat = D by omega]
                        refine xr_steps (pc' := 223) (L' := [(7, .int (Int32.ofInt (xat n f (i + 1)))), (6, .int (Int32.ofInt (xat n f i))), (1, .int (Int32.ofInt ((D + 1 : Nat) : Int))), (2, .int (Int32.ofInt 3)), (3, .int (Int32.ofInt (cnt : Int))), (4, .int (Int32.ofInt (400 + (i : Int)))), (5, .int (Int32.ofInt (400 + (n : Int)))), (0, .ref 165)]) (st' := [.int (Int32.ofInt 97), .int (Int32.ofInt (xat n f (i + 1))), .int (Int32.ofInt (T 179 D))]) 2 rfl ?_
                        refine xr_isub rfl ?_
                        obtain ⟨c, hc⟩ : ∃ c : Nat, xat n f (i + 1) - 97 = (c : Int) := ⟨(xat n f (i + 1) - 97).toNat, by omega⟩
                        rw [hc]
                        refine xr_steps (pc' := 227) (L' := [(7, .int (Int32.ofInt (xat n f (i + 1)))), (6, .int (Int32.ofInt (xat n f i))), (1, .int (Int32.ofInt ((D + 1 : Nat) : Int))), (2, .int (Int32.ofInt 3)), (3, .int (Int32.ofInt (cnt : Int))), (4, .int (Int32.ofInt (400 + (i : Int)))), (5, .int (Int32.ofInt (400 + (n : Int)))), (0, .ref 165)]) (st' := [.int ((Int32.ofInt (T 179 D) >>> (Int32.ofInt (c : Int) &&& 31)) &&& Int32.ofInt 1)]) 3 rfl ?_
                        rw [xbt_get _ (by omega)]
                        obtain ⟨bt, hbt⟩ : ∃ bt : Int, bt = if xbt (Int32.ofInt (T 179 D)) c = true then 1 else 0 := ⟨_, rfl⟩
                        rw [← hbt]
                        have hb01 : (bt = 1 ∧ xbt (Int32.ofInt (T 179 D)) c = true) ∨ (bt = 0 ∧ ¬ xbt (Int32.ofInt (T 179 D)) c = true) := by
                          rw [hbt]
                          by_cases hz : xbt (Int32.ofInt (T 179 D)) c = true
                          · rw [if_pos hz]; exact Or.inl ⟨rfl, hz⟩
                          · rw [if_neg hz]; exact Or.inr ⟨rfl, hz⟩
                        refine xr_steps (pc' := 228) (L' := [(7, .int (Int32.ofInt (xat n f (i + 1)))), (6, .int (Int32.ofInt (xat n f i))), (1, .int (Int32.ofInt ((D + 1 : Nat) : Int))), (2, .int (Int32.ofInt 3)), (3, .int (Int32.ofInt (cnt : Int))), (4, .int (Int32.ofInt (400 + (i : Int)))), (5, .int (Int32.ofInt (400 + (n : Int)))), (0, .ref 165)]) (st' := [.int (Int32.ofInt 1), .int (Int32.ofInt bt)]) 1 rfl ?_
                        refine xr_icmp_ne rfl (by omega) (by omega) (fun z61 => ?_) (fun z61 => ?_)
                        · refine xr_steps (pc' := 234) (L' := [(7, .int (Int32.ofInt (xat n f (i + 1)))), (6, .int (Int32.ofInt (xat n f i))), (1, .int (Int32.ofInt ((D + 1 : Nat) : Int))), (2, .int (Int32.ofInt 3)), (3, .int (Int32.ofInt (cnt : Int))), (4, .int (Int32.ofInt (400 + (i : Int)))), (5, .int (Int32.ofInt (400 + (n : Int)))), (0, .ref 165)]) (st' := [.ref 165]) 1 rfl ?_
                          refine xr_getf (v := .ref 179) rfl (ym_165 hA) rfl ?_
                          refine xr_steps (pc' := 239) (L' := [(7, .int (Int32.ofInt (xat n f (i + 1)))), (6, .int (Int32.ofInt (xat n f i))), (1, .int (Int32.ofInt ((D + 1 : Nat) : Int))), (2, .int (Int32.ofInt 3)), (3, .int (Int32.ofInt (cnt : Int))), (4, .int (Int32.ofInt (400 + (i : Int)))), (5, .int (Int32.ofInt (400 + (n : Int)))), (0, .ref 165)]) (st' := [.int (Int32.ofInt 1), .int (Int32.ofInt ((D + 1 : Nat) : Int)), .ref 179]) 2 rfl ?_
                          refine xr_isub rfl ?_
                          rw [show ((D + 1 : Nat) : Int) - 1 = (D : Int) by omega]
                          refine xr_steps (pc' := 241) (L' := [(7, .int (Int32.ofInt (xat n f (i + 1)))), (6, .int (Int32.ofInt (xat n f i))), (1, .int (Int32.ofInt ((D + 1 : Nat) : Int))), (2, .int (Int32.ofInt 3)), (3, .int (Int32.ofInt (cnt : Int))), (4, .int (Int32.ofInt (400 + (i : Int)))), (5, .int (Int32.ofInt (400 + (n : Int)))), (0, .ref 165)]) (st' := [.ref 165, .int (Int32.ofInt (D : Int)), .ref 179]) 1 rfl ?_
                          refine xr_getf (v := .ref 179) rfl (ym_165 hA) rfl ?_
                          refine xr_steps (pc' := 246) (L' := [(7, .int (Int32.ofInt (xat n f (i + 1)))), (6, .int (Int32.ofInt (xat n f i))), (1, .int (Int32.ofInt ((D + 1 : Nat) : Int))), (2, .int (Int32.ofInt 3)), (3, .int (Int32.ofInt (cnt : Int))), (4, .int (Int32.ofInt (400 + (i : Int)))), (5, .int (Int32.ofInt (400 + (n : Int)))), (0, .ref 165)]) (st' := [.int (Int32.ofInt 1), .int (Int32.ofInt ((D + 1 : Nat) : Int)), .ref 179, .int (Int32.ofInt (D : Int)), .ref 179]) 2 rfl ?_
                          refine xr_isub rfl ?_
                          rw [show ((D + 1 : Nat) : Int) - 1 = (D : Int) by omega]
                          refine ym_iaload (e := T 179 (D : Int).toNat) hA rfl rfl (by decide) (by omega) (by omega) rfl ?_
                          rw [show (D : Int).toNat = D by omega]
                          refine xr_steps (pc' := 253) (L' := [(7, .int (Int32.ofInt (xat n f (i + 1)))), (6, .int (Int32.ofInt (xat n f i))), (1, .int (Int32.ofInt ((D + 1 : Nat) : Int))), (2, .int (Int32.ofInt 3)), (3, .int (Int32.ofInt (cnt : Int))), (4, .int (Int32.ofInt (400 + (i : Int)))), (5, .int (Int32.ofInt (400 + (n : Int)))), (0, .ref 165)]) (st' := [.int (Int32.ofInt 97), .int (Int32.ofInt (xat n f (i + 1))), .int (Int32.ofInt 1), .int (Int32.ofInt (T 179 D)), .int (Int32.ofInt (D : Int)), .ref 179]) 3 rfl ?_
                          refine xr_isub rfl ?_
                          rw [hc]
                          refine xr_steps (pc' := 256) (L' := [(7, .int (Int32.ofInt (xat n f (i + 1)))), (6, .int (Int32.ofInt (xat n f i))), (1, .int (Int32.ofInt ((D + 1 : Nat) : Int))), (2, .int (Int32.ofInt 3)), (3, .int (Int32.ofInt (cnt : Int))), (4, .int (Int32.ofInt (400 + (i : Int)))), (5, .int (Int32.ofInt (400 + (n : Int)))), (0, .ref 165)]) (st' := [.int (Int32.ofInt (T 179 D) ||| (Int32.ofInt 1 <<< (Int32.ofInt (c : Int) &&& 31))), .int (Int32.ofInt (D : Int)), .ref 179]) 2 rfl ?_
                          obtain ⟨ke, hke⟩ : ∃ ke : Int, Int32.ofInt (T 179 D) ||| (Int32.ofInt 1 <<< (Int32.ofInt (c : Int) &&& 31)) = Int32.ofInt ke := ⟨_, (Int32.ofInt_toInt _).symm⟩
                          rw [hke]
                          refine ym_iastore hA rfl rfl (by decide) (by omega) (by omega) ?_
                          rw [show (D : Int).toNat = D by omega]
                          refine xr_steps (pc' := 259) (L' := [(2, .int (Int32.ofInt 0)), (7, .int (Int32.ofInt (xat n f (i + 1)))), (6, .int (Int32.ofInt (xat n f i))), (1, .int (Int32.ofInt ((D + 1 : Nat) : Int))), (3, .int (Int32.ofInt (cnt : Int))), (4, .int (Int32.ofInt (400 + (i : Int)))), (5, .int (Int32.ofInt (400 + (n : Int)))), (0, .ref 165)]) (st' := []) 2 rfl ?_
                          refine xr_iinc (L' := [(4, .int (Int32.ofInt ((400 + (i : Int)) + 4))), (2, .int (Int32.ofInt 0)), (7, .int (Int32.ofInt (xat n f (i + 1)))), (6, .int (Int32.ofInt (xat n f i))), (1, .int (Int32.ofInt ((D + 1 : Nat) : Int))), (3, .int (Int32.ofInt (cnt : Int))), (5, .int (Int32.ofInt (400 + (n : Int)))), (0, .ref 165)]) rfl rfl rfl ?_
                          refine xr_steps (pc' := 21) (L' := [(4, .int (Int32.ofInt ((400 + (i : Int)) + 4))), (2, .int (Int32.ofInt 0)), (7, .int (Int32.ofInt (xat n f (i + 1)))), (6, .int (Int32.ofInt (xat n f i))), (1, .int (Int32.ofInt ((D + 1 : Nat) : Int))), (3, .int (Int32.ofInt (cnt : Int))), (5, .int (Int32.ofInt (400 + (n : Int)))), (0, .ref 165)]) (st' := []) 2 rfl ?_
                          refine xr_loc (L := [(1, .int (Int32.ofInt ((D + 1 : Nat) : Int))), (2, .int (Int32.ofInt 0)), (3, .int (Int32.ofInt (cnt : Int))), (4, .int (Int32.ofInt ((400 + (i : Int)) + 4))), (5, .int (Int32.ofInt (400 + (n : Int)))), (0, .ref 165)]) (show [1, 2, 3, 4, 5, 0].Nodup by decide) ⟨rfl, rfl, rfl, rfl, rfl, rfl, trivial⟩ ?_
                          rw [show 400 + (i : Int) + 4 = 400 + ((i + 4 : Nat) : Int) by omega]
                          refine hgo c ke (by omega) (by unfold xpk; omega) ?_ hke.symm
                          rcases hb01 with h | h
                          · omega
                          · exact h.2
                        · refine xr_steps (pc' := 232) (L' := [(7, .int (Int32.ofInt (xat n f (i + 1)))), (6, .int (Int32.ofInt (xat n f i))), (1, .int (Int32.ofInt ((D + 1 : Nat) : Int))), (2, .int (Int32.ofInt 3)), (3, .int (Int32.ofInt (cnt : Int))), (4, .int (Int32.ofInt (400 + (i : Int)))), (5, .int (Int32.ofInt (400 + (n : Int)))), (0, .ref 165)]) (st' := [.int (Int32.ofInt (-1))]) 1 rfl ?_
                          refine xr_retI2 rfl rfl (hbad (fun h => ?_))
                          have := h.2 c (by omega)
                          rcases hb01 with h | h
                          · exact this h.2
                          · omega
            · exfalso; omega
          · refine xr_steps (pc' := 62) (L' := [(6, .int (Int32.ofInt (xat n f i))), (1, .int (Int32.ofInt ((D + 1 : Nat) : Int))), (2, .int (Int32.ofInt 3)), (3, .int (Int32.ofInt (cnt : Int))), (4, .int (Int32.ofInt (400 + (i : Int)))), (5, .int (Int32.ofInt (400 + (n : Int)))), (0, .ref 165)]) (st' := [.int (Int32.ofInt 1), .int (Int32.ofInt 3)]) 2 rfl ?_
            refine xr_icmp_eq rfl (by omega) (by omega) (fun z62 => ?_) (fun z62 => ?_)
            · exfalso; omega
            · refine xr_steps (pc' := 67) (L' := [(6, .int (Int32.ofInt (xat n f i))), (1, .int (Int32.ofInt ((D + 1 : Nat) : Int))), (2, .int (Int32.ofInt 3)), (3, .int (Int32.ofInt (cnt : Int))), (4, .int (Int32.ofInt (400 + (i : Int)))), (5, .int (Int32.ofInt (400 + (n : Int)))), (0, .ref 165)]) (st' := [.int (Int32.ofInt 3), .int (Int32.ofInt 3)]) 2 rfl ?_
              refine xr_icmp_ne rfl (by omega) (by omega) (fun z63 => ?_) (fun z63 => ?_)
              · exfalso; omega
              · exfalso; omega
theorem mo_208k4 (hA : 194 ≤ A.1) (hx : xtx s T n f) (hcn : cnt ≤ 1000) (hi : i ≤ 1000) (hD : D ≤ 5) (hgo : ∀ (c : Nat) (ke : Int), ye n f (i + 1) = 97 + (c : Int) → xpk (ye n f) i → ¬ xbt (Int32.ofInt (T 179 D)) c = true → Int32.ofInt ke = Int32.ofInt (T 179 D) ||| (Int32.ofInt 1 <<< (Int32.ofInt (c : Int) &&& 31)) → xr_ok (xt_G w) (d + 1 + 1 + 1) 208 21 [(1, .int (Int32.ofInt ((D + 1 : Nat) : Int))), (2, .int (Int32.ofInt 0)), (3, .int (Int32.ofInt (cnt : Int))), (4, .int (Int32.ofInt (400 + ((i + 4 : Nat) : Int)))), (5, .int (Int32.ofInt (400 + (n : Int)))), (0, .ref 165)] [] (ym A s (va_up T 179 (va_up (T 179) D ke))) Q) (hbad : ¬ (xpk (ye n f) i ∧ ∀ c : Nat, ye n f (i + 1) = 97 + (c : Int) → ¬ xbt (Int32.ofInt (T 179 D)) c = true) → Q (.inl (some (.int (Int32.ofInt (-1))))) (ym A s T)) : xr_ok (xt_G w) (d + 1 + 1 + 1) 208 21 [(1, .int (Int32.ofInt ((D + 1 : Nat) : Int))), (2, .int (Int32.ofInt 4)), (3, .int (Int32.ofInt (cnt : Int))), (4, .int (Int32.ofInt (400 + (i : Int)))), (5, .int (Int32.ofInt (400 + (n : Int)))), (0, .ref 165)] [] (ym A s T) Q := by
  have hn := hx.2.1
  have hye := xtx_ye hx i
  refine xr_steps (pc' := 25) (L' := [(1, .int (Int32.ofInt ((D + 1 : Nat) : Int))), (2, .int (Int32.ofInt 4)), (3, .int (Int32.ofInt (cnt : Int))), (4, .int (Int32.ofInt (400 + (i : Int)))), (5, .int (Int32.ofInt (400 + (n : Int)))), (0, .ref 165)]) (st' := [.int (Int32.ofInt (400 + (n : Int))), .int (Int32.ofInt (400 + (i : Int)))]) 2 rfl ?_
  refine xr_icmp_ge rfl (by omega) (by omega) (fun z31 => ?_) (fun z31 => ?_)
  · refine xr_steps (pc' := 350) (L' := [(1, .int (Int32.ofInt ((D + 1 : Nat) : Int))), (2, .int (Int32.ofInt 4)), (3, .int (Int32.ofInt (cnt : Int))), (4, .int (Int32.ofInt (400 + (i : Int)))), (5, .int (Int32.ofInt (400 + (n : Int)))), (0, .ref 165)]) (st' := [.int (Int32.ofInt ((D + 1 : Nat) : Int))]) 1 rfl ?_
    refine xr_if_ne rfl (by omega) (fun z32 => ?_) (fun z32 => ?_)
    · refine xr_steps (pc' := 363) (L' := [(1, .int (Int32.ofInt ((D + 1 : Nat) : Int))), (2, .int (Int32.ofInt 4)), (3, .int (Int32.ofInt (cnt : Int))), (4, .int (Int32.ofInt (400 + (i : Int)))), (5, .int (Int32.ofInt (400 + (n : Int)))), (0, .ref 165)]) (st' := [.int (Int32.ofInt (-1))]) 1 rfl ?_
      first
        | exact xr_retI2 rfl rfl (hbad (fun h => by unfold xpk at h; omega))
        | (exfalso; omega)
    · refine xr_steps (pc' := 355) (L' := [(1, .int (Int32.ofInt ((D + 1 : Nat) : Int))), (2, .int (Int32.ofInt 4)), (3, .int (Int32.ofInt (cnt : Int))), (4, .int (Int32.ofInt (400 + (i : Int)))), (5, .int (Int32.ofInt (400 + (n : Int)))), (0, .ref 165)]) (st' := [.int (Int32.ofInt 1), .int (Int32.ofInt 4)]) 2 rfl ?_
      refine xr_icmp_ne rfl (by omega) (by omega) (fun z33 => ?_) (fun z33 => ?_)
      · refine xr_steps (pc' := 363) (L' := [(1, .int (Int32.ofInt ((D + 1 : Nat) : Int))), (2, .int (Int32.ofInt 4)), (3, .int (Int32.ofInt (cnt : Int))), (4, .int (Int32.ofInt (400 + (i : Int)))), (5, .int (Int32.ofInt (400 + (n : Int)))), (0, .ref 165)]) (st' := [.int (Int32.ofInt (-1))]) 1 rfl ?_
        first
          | exact xr_retI2 rfl rfl (hbad (fun h => by unfold xpk at h; omega))
          | (exfalso; omega)
      · exfalso; omega
  · refine xr_steps (pc' := 31) (L' := [(1, .int (Int32.ofInt ((D + 1 : Nat) : Int))), (2, .int (Int32.ofInt 4)), (3, .int (Int32.ofInt (cnt : Int))), (4, .int (Int32.ofInt (400 + (i : Int)))), (5, .int (Int32.ofInt (400 + (n : Int)))), (0, .ref 165)]) (st' := [.int (Int32.ofInt (400 + (i : Int))), .ref 165]) 2 rfl ?_
    refine xr_call (q := (.invokevirtual 103, 3, 209, 2)) (av := [.ref 165, .int (Int32.ofInt (400 + (i : Int)))]) (rest := []) rfl rfl (by decide) rfl (ym_rcv hA rfl) (Nat.le_of_ble_eq_true rfl) (mo_209t (i := i) hA hx (by omega) (by omega)) ?_
    rintro _ _ ⟨rfl, eA⟩
    rw [eA]
    clear eA
    have hx34 := xtx_ye hx i
    refine xr_steps (pc' := 40) (L' := [(6, .int (Int32.ofInt (xat n f i))), (1, .int (Int32.ofInt ((D + 1 : Nat) : Int))), (2, .int (Int32.ofInt 4)), (3, .int (Int32.ofInt (cnt : Int))), (4, .int (Int32.ofInt (400 + (i : Int)))), (5, .int (Int32.ofInt (400 + (n : Int)))), (0, .ref 165)]) (st' := [.int (Int32.ofInt 93), .int (Int32.ofInt (xat n f i))]) 3 rfl ?_
    refine xr_icmp_ne rfl (by omega) (by omega) (fun z35 => ?_) (fun z35 => ?_)
    · refine xr_steps (pc' := 57) (L' := [(6, .int (Int32.ofInt (xat n f i))), (1, .int (Int32.ofInt ((D + 1 : Nat) : Int))), (2, .int (Int32.ofInt 4)), (3, .int (Int32.ofInt (cnt : Int))), (4, .int (Int32.ofInt (400 + (i : Int)))), (5, .int (Int32.ofInt (400 + (n : Int)))), (0, .ref 165)]) (st' := [.int (Int32.ofInt 125), .int (Int32.ofInt (xat n f i))]) 2 rfl ?_
      refine xr_icmp_ne rfl (by omega) (by omega) (fun z36 => ?_) (fun z36 => ?_)
      · refine xr_steps (pc' := 114) (L' := [(6, .int (Int32.ofInt (xat n f i))), (1, .int (Int32.ofInt ((D + 1 : Nat) : Int))), (2, .int (Int32.ofInt 4)), (3, .int (Int32.ofInt (cnt : Int))), (4, .int (Int32.ofInt (400 + (i : Int)))), (5, .int (Int32.ofInt (400 + (n : Int)))), (0, .ref 165)]) (st' := [.int (Int32.ofInt 1), .int (Int32.ofInt 4)]) 2 rfl ?_
        refine xr_icmp_ne rfl (by omega) (by omega) (fun z37 => ?_) (fun z37 => ?_)
        · refine xr_steps (pc' := 157) (L' := [(6, .int (Int32.ofInt (xat n f i))), (1, .int (Int32.ofInt ((D + 1 : Nat) : Int))), (2, .int (Int32.ofInt 4)), (3, .int (Int32.ofInt (cnt : Int))), (4, .int (Int32.ofInt (400 + (i : Int)))), (5, .int (Int32.ofInt (400 + (n : Int)))), (0, .ref 165)]) (st' := [.int (Int32.ofInt 2), .int (Int32.ofInt 4)]) 2 rfl ?_
          refine xr_icmp_le rfl (by omega) (by omega) (fun z38 => ?_) (fun z38 => ?_)
          · exfalso; omega
          · refine xr_steps (pc' := 164) (L' := [(6, .int (Int32.ofInt (xat n f i))), (1, .int (Int32.ofInt ((D + 1 : Nat) : Int))), (2, .int (Int32.ofInt 4)), (3, .int (Int32.ofInt (cnt : Int))), (4, .int (Int32.ofInt (400 + (i : Int)))), (5, .int (Int32.ofInt (400 + (n : Int)))), (0, .ref 165)]) (st' := [.int (Int32.ofInt 1), .int (Int32.ofInt (400 + (i : Int))), .ref 165]) 3 rfl ?_
            refine xr_iadd rfl ?_
            refine xr_call (q := (.invokevirtual 103, 3, 209, 2)) (av := [.ref 165, .int (Int32.ofInt ((400 + (i : Int)) + 1))]) (rest := []) rfl rfl (by decide) rfl (ym_rcv hA rfl) (Nat.le_of_ble_eq_true rfl) (mo_209t (i := i + 1) hA hx (by omega) (by omega)) ?_
            rintro _ _ ⟨rfl, eA⟩
            rw [eA]
            clear eA
            have hx39 := xtx_ye hx (i + 1)
            refine xr_steps (pc' := 174) (L' := [(7, .int (Int32.ofInt (xat n f (i + 1)))), (6, .int (Int32.ofInt (xat n f i))), (1, .int (Int32.ofInt ((D + 1 : Nat) : Int))), (2, .int (Int32.ofInt 4)), (3, .int (Int32.ofInt (cnt : Int))), (4, .int (Int32.ofInt (400 + (i : Int)))), (5, .int (Int32.ofInt (400 + (n : Int)))), (0, .ref 165)]) (st' := [.int (Int32.ofInt 34), .int (Int32.ofInt (xat n f i))]) 3 rfl ?_
            refine xr_icmp_ne rfl (by omega) (by omega) (fun z40 => ?_) (fun z40 => ?_)
            · refine xr_steps (pc' := 232) (L' := [(7, .int (Int32.ofInt (xat n f (i + 1)))), (6, .int (Int32.ofInt (xat n f i))), (1, .int (Int32.ofInt ((D + 1 : Nat) : Int))), (2, .int (Int32.ofInt 4)), (3, .int (Int32.ofInt (cnt : Int))), (4, .int (Int32.ofInt (400 + (i : Int)))), (5, .int (Int32.ofInt (400 + (n : Int)))), (0, .ref 165)]) (st' := [.int (Int32.ofInt (-1))]) 1 rfl ?_
              first
                | exact xr_retI2 rfl rfl (hbad (fun h => by unfold xpk at h; omega))
                | (exfalso; omega)
            · refine xr_steps (pc' := 179) (L' := [(7, .int (Int32.ofInt (xat n f (i + 1)))), (6, .int (Int32.ofInt (xat n f i))), (1, .int (Int32.ofInt ((D + 1 : Nat) : Int))), (2, .int (Int32.ofInt 4)), (3, .int (Int32.ofInt (cnt : Int))), (4, .int (Int32.ofInt (400 + (i : Int)))), (5, .int (Int32.ofInt (400 + (n : Int)))), (0, .ref 165)]) (st' := [.int (Int32.ofInt (xat n f (i + 1)))]) 1 rfl ?_
              obtain ⟨bl, hbl⟩ := mo_bool (97 ≤ xat n f (i + 1) ∧ xat n f (i + 1) ≤ 122)
              refine xr_call (q := (.invokestatic 111, 3, 210, 1)) (av := [.int (Int32.ofInt (xat n f (i + 1)))]) (rest := []) rfl rfl (by decide) rfl rfl (Nat.le_of_ble_eq_true rfl) (mo_210 (by omega) hbl) ?_
              rintro _ _ ⟨rfl, eA⟩
              rw [eA]
              clear eA
              refine xr_if_eq rfl (by omega) (fun z41 => ?_) (fun z41 => ?_)
              · refine xr_steps (pc' := 232) (L' := [(7, .int (Int32.ofInt (xat n f (i + 1)))), (6, .int (Int32.ofInt (xat n f i))), (1, .int (Int32.ofInt ((D + 1 : Nat) : Int))), (2, .int (Int32.ofInt 4)), (3, .int (Int32.ofInt (cnt : Int))), (4, .int (Int32.ofInt (400 + (i : Int)))), (5, .int (Int32.ofInt (400 + (n : Int)))), (0, .ref 165)]) (st' := [.int (Int32.ofInt (-1))]) 1 rfl ?_
                first
                  | exact xr_retI2 rfl rfl (hbad (fun h => by unfold xpk at h; omega))
                  | (exfalso; omega)
              · refine xr_steps (pc' := 189) (L' := [(7, .int (Int32.ofInt (xat n f (i + 1)))), (6, .int (Int32.ofInt (xat n f i))), (1, .int (Int32.ofInt ((D + 1 : Nat) : Int))), (2, .int (Int32.ofInt 4)), (3, .int (Int32.ofInt (cnt : Int))), (4, .int (Int32.ofInt (400 + (i : Int)))), (5, .int (Int32.ofInt (400 + (n : Int)))), (0, .ref 165)]) (st' := [.int (Int32.ofInt 2), .int (Int32.ofInt (400 + (i : Int))), .ref 165]) 3 rfl ?_
                refine xr_iadd rfl ?_
                refine xr_call (q := (.invokevirtual 103, 3, 209, 2)) (av := [.ref 165, .int (Int32.ofInt ((400 + (i : Int)) + 2))]) (rest := []) rfl rfl (by decide) rfl (ym_rcv hA rfl) (Nat.le_of_ble_eq_true rfl) (mo_209t (i := i + 2) hA hx (by omega) (by omega)) ?_
                rintro _ _ ⟨rfl, eA⟩
                rw [eA]
                clear eA
                have hx42 := xtx_ye hx (i + 2)
                refine xr_steps (pc' := 195) (L' := [(7, .int (Int32.ofInt (xat n f (i + 1)))), (6, .int (Int32.ofInt (xat n f i))), (1, .int (Int32.ofInt ((D + 1 : Nat) : Int))), (2, .int (Int32.ofInt 4)), (3, .int (Int32.ofInt (cnt : Int))), (4, .int (Int32.ofInt (400 + (i : Int)))), (5, .int (Int32.ofInt (400 + (n : Int)))), (0, .ref 165)]) (st' := [.int (Int32.ofInt 34), .int (Int32.ofInt (xat n f (i + 2)))]) 1 rfl ?_
                refine xr_icmp_ne rfl (by omega) (by omega) (fun z43 => ?_) (fun z43 => ?_)
                · refine xr_steps (pc' := 232) (L' := [(7, .int (Int32.ofInt (xat n f (i + 1)))), (6, .int (Int32.ofInt (xat n f i))), (1, .int (Int32.ofInt ((D + 1 : Nat) : Int))), (2, .int (Int32.ofInt 4)), (3, .int (Int32.ofInt (cnt : Int))), (4, .int (Int32.ofInt (400 + (i : Int)))), (5, .int (Int32.ofInt (400 + (n : Int)))), (0, .ref 165)]) (st' := [.int (Int32.ofInt (-1))]) 1 rfl ?_
                  first
                    | exact xr_retI2 rfl rfl (hbad (fun h => by unfold xpk at h; omega))
                    | (exfalso; omega)
                · refine xr_steps (pc' := 202) (L' := [(7, .int (Int32.ofInt (xat n f (i + 1)))), (6, .int (Int32.ofInt (xat n f i))), (1, .int (Int32.ofInt ((D + 1 : Nat) : Int))), (2, .int (Int32.ofInt 4)), (3, .int (Int32.ofInt (cnt : Int))), (4, .int (Int32.ofInt (400 + (i : Int)))), (5, .int (Int32.ofInt (400 + (n : Int)))), (0, .ref 165)]) (st' := [.int (Int32.ofInt 3), .int (Int32.ofInt (400 + (i : Int))), .ref 165]) 3 rfl ?_
                  refine xr_iadd rfl ?_
                  refine xr_call (q := (.invokevirtual 103, 3, 209, 2)) (av := [.ref 165, .int (Int32.ofInt ((400 + (i : Int)) + 3))]) (rest := []) rfl rfl (by decide) rfl (ym_rcv hA rfl) (Nat.le_of_ble_eq_true rfl) (mo_209t (i := i + 3) hA hx (by omega) (by omega)) ?_
                  rintro _ _ ⟨rfl, eA⟩
                  rw [eA]
                  clear eA
                  have hx44 := xtx_ye hx (i + 3)
                  refine xr_steps (pc' := 208) (L' := [(7, .int (Int32.ofInt (xat n f (i + 1)))), (6, .int (Int32.ofInt (xat n f i))), (1, .int (Int32.ofInt ((D + 1 : Nat) : Int))), (2, .int (Int32.ofInt 4)), (3, .int (Int32.ofInt (cnt : Int))), (4, .int (Int32.ofInt (400 + (i : Int)))), (5, .int (Int32.ofInt (400 + (n : Int)))), (0, .ref 165)]) (st' := [.int (Int32.ofInt 58), .int (Int32.ofInt (xat n f (i + 3)))]) 1 rfl ?_
                  refine xr_icmp_ne rfl (by omega) (by omega) (fun z45 => ?_) (fun z45 => ?_)
                  · refine xr_steps (pc' := 232) (L' := [(7, .int (Int32.ofInt (xat n f (i + 1)))), (6, .int (Int32.ofInt (xat n f i))), (1, .int (Int32.ofInt ((D + 1 : Nat) : Int))), (2, .int (Int32.ofInt 4)), (3, .int (Int32.ofInt (cnt : Int))), (4, .int (Int32.ofInt (400 + (i : Int)))), (5, .int (Int32.ofInt (400 + (n : Int)))), (0, .ref 165)]) (st' := [.int (Int32.ofInt (-1))]) 1 rfl ?_
                    first
                      | exact xr_retI2 rfl rfl (hbad (fun h => by unfold xpk at h; omega))
                      | (exfalso; omega)
                  · refine xr_steps (pc' := 212) (L' := [(7, .int (Int32.ofInt (xat n f (i + 1)))), (6, .int (Int32.ofInt (xat n f i))), (1, .int (Int32.ofInt ((D + 1 : Nat) : Int))), (2, .int (Int32.ofInt 4)), (3, .int (Int32.ofInt (cnt : Int))), (4, .int (Int32.ofInt (400 + (i : Int)))), (5, .int (Int32.ofInt (400 + (n : Int)))), (0, .ref 165)]) (st' := [.ref 165]) 1 rfl ?_
                    refine xr_getf (v := .ref 179) rfl (ym_165 hA) rfl ?_
                    refine xr_steps (pc' := 217) (L' := [(7, .int (Int32.ofInt (xat n f (i + 1)))), (6, .int (Int32.ofInt (xat n f i))), (1, .int (Int32.ofInt ((D + 1 : Nat) : Int))), (2, .int (Int32.ofInt 4)), (3, .int (Int32.ofInt (cnt : Int))), (4, .int (Int32.ofInt (400 + (i : Int)))), (5, .int (Int32.ofInt (400 + (n : Int)))), (0, .ref 165)]) (st' := [.int (Int32.ofInt 1), .int (Int32.ofInt ((D + 1 : Nat) : Int)), .ref 179]) 2 rfl ?_
                    refine xr_isub rfl ?_
                    rw [show ((D + 1 : Nat) : Int) - 1 = (D : Int) by omega]
                    refine ym_iaload (e := T 179 (D : Int).toNat) hA rfl rfl (by decide) (by omega) (by omega) rfl ?_
                    rw [show (D : Int).toNat = D by omega]
                    refine xr_steps (pc' := 223) (L' := [(7, .int (Int32.ofInt (xat n f (i + 1)))), (6, .int (Int32.ofInt (xat n f i))), (1, .int (Int32.ofInt ((D + 1 : Nat) : Int))), (2, .int (Int32.ofInt 4)), (3, .int (Int32.ofInt (cnt : Int))), (4, .int (Int32.ofInt (400 + (i : Int)))), (5, .int (Int32.ofInt (400 + (n : Int)))), (0, .ref 165)]) (st' := [.int (Int32.ofInt 97), .int (Int32.ofInt (xat n f (i + 1))), .int (Int32.ofInt (T 179 D))]) 2 rfl ?_
                    refine xr_isub rfl ?_
                    obtain ⟨c, hc⟩ : ∃ c : Nat, xat n f (i + 1) - 97 = (c : Int) := ⟨(xat n f (i + 1) - 97).toNat, by omega⟩
                    rw [hc]
                    refine xr_steps (pc' := 227) (L' := [(7, .int (Int32.ofInt (xat n f (i + 1)))), (6, .int (Int32.ofInt (xat n f i))), (1, .int (Int32.ofInt ((D + 1 : Nat) : Int))), (2, .int (Int32.ofInt 4)), (3, .int (Int32.ofInt (cnt : Int))), (4, .int (Int32.ofInt (400 + (i : Int)))), (5, .int (Int32.ofInt (400 + (n : Int)))), (0, .ref 165)]) (st' := [.int ((Int32.ofInt (T 179 D) >>> (Int32.ofInt (c : Int) &&& 31)) &&& Int32.ofInt 1)]) 3 rfl ?_
                    rw [xbt_get _ (by omega)]
                    obtain ⟨bt, hbt⟩ : ∃ bt : Int, bt = if xbt (Int32.ofInt (T 179 D)) c = true then 1 else 0 := ⟨_, rfl⟩
                    rw [← hbt]
                    have hb01 : (bt = 1 ∧ xbt (Int32.ofInt (T 179 D)) c = true) ∨ (bt = 0 ∧ ¬ xbt (Int32.ofInt (T 179 D)) c = true) := by
                      rw [hbt]
                      by_cases hz : xbt (Int32.ofInt (T 179 D)) c = true
                      · rw [if_pos hz]; exact Or.inl ⟨rfl, hz⟩
                      · rw [if_neg hz]; exact Or.inr ⟨rfl, hz⟩
                    refine xr_steps (pc' := 228) (L' := [(7, .int (Int32.ofInt (xat n f (i + 1)))), (6, .int (Int32.ofInt (xat n f i))), (1, .int (Int32.ofInt ((D + 1 : Nat) : Int))), (2, .int (Int32.ofInt 4)), (3, .int (Int32.ofInt (cnt : Int))), (4, .int (Int32.ofInt (400 + (i : Int)))), (5, .int (Int32.ofInt (400 + (n : Int)))), (0, .ref 165)]) (st' := [.int (Int32.ofInt 1), .int (Int32.ofInt bt)]) 1 rfl ?_
                    refine xr_icmp_ne rfl (by omega) (by omega) (fun z46 => ?_) (fun z46 => ?_)
                    · refine xr_steps (pc' := 234) (L' := [(7, .int (Int32.ofInt (xat n f (i + 1)))), (6, .int (Int32.ofInt (xat n f i))), (1, .int (Int32.ofInt ((D + 1 : Nat) : Int))), (2, .int (Int32.ofInt 4)), (3, .int (Int32.ofInt (cnt : Int))), (4, .int (Int32.ofInt (400 + (i : Int)))), (5, .int (Int32.ofInt (400 + (n : Int)))), (0, .ref 165)]) (st' := [.ref 165]) 1 rfl ?_
                      refine xr_getf (v := .ref 179) rfl (ym_165 hA) rfl ?_
                      refine xr_steps (pc' := 239) (L' := [(7, .int (Int32.ofInt (xat n f (i + 1)))), (6, .int (Int32.ofInt (xat n f i))), (1, .int (Int32.ofInt ((D + 1 : Nat) : Int))), (2, .int (Int32.ofInt 4)), (3, .int (Int32.ofInt (cnt : Int))), (4, .int (Int32.ofInt (400 + (i : Int)))), (5, .int (Int32.ofInt (400 + (n : Int)))), (0, .ref 165)]) (st' := [.int (Int32.ofInt 1), .int (Int32.ofInt ((D + 1 : Nat) : Int)), .ref 179]) 2 rfl ?_
                      refine xr_isub rfl ?_
                      rw [show ((D + 1 : Nat) : Int) - 1 = (D : Int) by omega]
                      refine xr_steps (pc' := 241) (L' := [(7, .int (Int32.ofInt (xat n f (i + 1)))), (6, .int (Int32.ofInt (xat n f i))), (1, .int (Int32.ofInt ((D + 1 : Nat) : Int))), (2, .int (Int32.ofInt 4)), (3, .int (Int32.ofInt (cnt : Int))), (4, .int (Int32.ofInt (400 + (i : Int)))), (5, .int (Int32.ofInt (400 + (n : Int)))), (0, .ref 165)]) (st' := [.ref 165, .int (Int32.ofInt (D : Int)), .ref 179]) 1 rfl ?_
                      refine xr_getf (v := .ref 179) rfl (ym_165 hA) rfl ?_
                      refine xr_steps (pc' := 246) (L' := [(7, .int (Int32.ofInt (xat n f (i + 1)))), (6, .int (Int32.ofInt (xat n f i))), (1, .int (Int32.ofInt ((D + 1 : Nat) : Int))), (2, .int (Int32.ofInt 4)), (3, .int (Int32.ofInt (cnt : Int))), (4, .int (Int32.ofInt (400 + (i : Int)))), (5, .int (Int32.ofInt (400 + (n : Int)))), (0, .ref 165)]) (st' := [.int (Int32.ofInt 1), .int (Int32.ofInt ((D + 1 : Nat) : Int)), .ref 179, .int (Int32.ofInt (D : Int)), .ref 179]) 2 rfl ?_
                      refine xr_isub rfl ?_
                      rw [show ((D + 1 : Nat) : Int) - 1 = (D : Int) by omega]
                      refine ym_iaload (e := T 179 (D : Int).toNat) hA rfl rfl (by decide) (by omega) (by omega) rfl ?_
                      rw [show (D : Int).toNat = D by omega]
                      refine xr_steps (pc' := 253) (L' := [(7, .int (Int32.ofInt (xat n f (i + 1)))), (6, .int (Int32.ofInt (xat n f i))), (1, .int (Int32.ofInt ((D + 1 : Nat) : Int))), (2, .int (Int32.ofInt 4)), (3, .int (Int32.ofInt (cnt : Int))), (4, .int (Int32.ofInt (400 + (i : Int)))), (5, .int (Int32.ofInt (400 + (n : Int)))), (0, .ref 165)]) (st' := [.int (Int32.ofInt 97), .int (Int32.ofInt (xat n f (i + 1))), .int (Int32.ofInt 1), .int (Int32.ofInt (T 179 D)), .int (Int32.ofInt (D : Int)), .ref 179]) 3 rfl ?_
                      refine xr_isub rfl ?_
                      rw [hc]
                      refine xr_steps (pc' := 256) (L' := [(7, .int (Int32.ofInt (xat n f (i + 1)))), (6, .int (Int32.ofInt (xat n f i))), (1, .int (Int32.ofInt ((D + 1 : Nat) : Int))), (2, .int (Int32.ofInt 4)), (3, .int (Int32.ofInt (cnt : Int))), (4, .int (Int32.ofInt (400 + (i : Int)))), (5, .int (Int32.ofInt (400 + (n : Int)))), (0, .ref 165)]) (st' := [.int (Int32.ofInt (T 179 D) ||| (Int32.ofInt 1 <<< (Int32.ofInt (c : Int) &&& 31))), .int (Int32.ofInt (D : Int)), .ref 179]) 2 rfl ?_
                      obtain ⟨ke, hke⟩ : ∃ ke : Int, Int32.ofInt (T 179 D) ||| (Int32.ofInt 1 <<< (Int32.ofInt (c : Int) &&& 31)) = Int32.ofInt ke := ⟨_, (Int32.ofInt_toInt _).symm⟩
                      rw [hke]
                      refine ym_iastore hA rfl rfl (by decide) (by omega) (by omega) ?_
                      rw [show (D : Int).toNat = D by omega]
                      refine xr_steps (pc' := 259) (L' := [(2, .int (Int32.ofInt 0)), (7, .int (Int32.ofInt (xat n f (i + 1)))), (6, .int (Int32.ofInt (xat n f i))), (1, .int (Int32.ofInt ((D + 1 : Nat) : Int))), (3, .int (Int32.ofInt (cnt : Int))), (4, .int (Int32.ofInt (400 + (i : Int)))), (5, .int (Int32.ofInt (400 + (n : Int)))), (0, .ref 165)]) (st' := []) 2 rfl ?_
                      refine xr_iinc (L' := [(4, .int (Int32.ofInt ((400 + (i : Int)) + 4))), (2, .int (Int32.ofInt 0)), (7, .int (Int32.ofInt (xat n f (i + 1)))), (6, .int (Int32.ofInt (xat n f i))), (1, .int (Int32.ofInt ((D + 1 : Nat) : Int))), (3, .int (Int32.ofInt (cnt : Int))), (5, .int (Int32.ofInt (400 + (n : Int)))), (0, .ref 165)]) rfl rfl rfl ?_
                      refine xr_steps (pc' := 21) (L' := [(4, .int (Int32.ofInt ((400 + (i : Int)) + 4))), (2, .int (Int32.ofInt 0)), (7, .int (Int32.ofInt (xat n f (i + 1)))), (6, .int (Int32.ofInt (xat n f i))), (1, .int (Int32.ofInt ((D + 1 : Nat) : Int))), (3, .int (Int32.ofInt (cnt : Int))), (5, .int (Int32.ofInt (400 + (n : Int)))), (0, .ref 165)]) (st' := []) 2 rfl ?_
                      refine xr_loc (L := [(1, .int (Int32.ofInt ((D + 1 : Nat) : Int))), (2, .int (Int32.ofInt 0)), (3, .int (Int32.ofInt (cnt : Int))), (4, .int (Int32.ofInt ((400 + (i : Int)) + 4))), (5, .int (Int32.ofInt (400 + (n : Int)))), (0, .ref 165)]) (show [1, 2, 3, 4, 5, 0].Nodup by decide) ⟨rfl, rfl, rfl, rfl, rfl, rfl, trivial⟩ ?_
                      rw [show 400 + (i : Int) + 4 = 400 + ((i + 4 : Nat) : Int) by omega]
                      refine hgo c ke (by omega) (by unfold xpk; omega) ?_ hke.symm
                      rcases hb01 with h | h
                      · omega
                      · exact h.2
                    · refine xr_steps (pc' := 232) (L' := [(7, .int (Int32.ofInt (xat n f (i + 1)))), (6, .int (Int32.ofInt (xat n f i))), (1, .int (Int32.ofInt ((D + 1 : Nat) : Int))), (2, .int (Int32.ofInt 4)), (3, .int (Int32.ofInt (cnt : Int))), (4, .int (Int32.ofInt (400 + (i : Int)))), (5, .int (Int32.ofInt (400 + (n : Int)))), (0, .ref 165)]) (st' := [.int (Int32.ofInt (-1))]) 1 rfl ?_
                      refine xr_retI2 rfl rfl (hbad (fun h => ?_))
                      have := h.2 c (by omega)
                      rcases hb01 with h | h
                      · exact this h.2
                      · omega
        · exfalso; omega
      · refine xr_steps (pc' := 62) (L' := [(6, .int (Int32.ofInt (xat n f i))), (1, .int (Int32.ofInt ((D + 1 : Nat) : Int))), (2, .int (Int32.ofInt 4)), (3, .int (Int32.ofInt (cnt : Int))), (4, .int (Int32.ofInt (400 + (i : Int)))), (5, .int (Int32.ofInt (400 + (n : Int)))), (0, .ref 165)]) (st' := [.int (Int32.ofInt 1), .int (Int32.ofInt 4)]) 2 rfl ?_
        refine xr_icmp_eq rfl (by omega) (by omega) (fun z47 => ?_) (fun z47 => ?_)
        · exfalso; omega
        · refine xr_steps (pc' := 67) (L' := [(6, .int (Int32.ofInt (xat n f i))), (1, .int (Int32.ofInt ((D + 1 : Nat) : Int))), (2, .int (Int32.ofInt 4)), (3, .int (Int32.ofInt (cnt : Int))), (4, .int (Int32.ofInt (400 + (i : Int)))), (5, .int (Int32.ofInt (400 + (n : Int)))), (0, .ref 165)]) (st' := [.int (Int32.ofInt 3), .int (Int32.ofInt 4)]) 2 rfl ?_
          refine xr_icmp_ne rfl (by omega) (by omega) (fun z48 => ?_) (fun z48 => ?_)
          · refine xr_steps (pc' := 114) (L' := [(6, .int (Int32.ofInt (xat n f i))), (1, .int (Int32.ofInt ((D + 1 : Nat) : Int))), (2, .int (Int32.ofInt 4)), (3, .int (Int32.ofInt (cnt : Int))), (4, .int (Int32.ofInt (400 + (i : Int)))), (5, .int (Int32.ofInt (400 + (n : Int)))), (0, .ref 165)]) (st' := [.int (Int32.ofInt 1), .int (Int32.ofInt 4)]) 2 rfl ?_
            refine xr_icmp_ne rfl (by omega) (by omega) (fun z49 => ?_) (fun z49 => ?_)
            · refine xr_steps (pc' := 157) (L' := [(6, .int (Int32.ofInt (xat n f i))), (1, .int (Int32.ofInt ((D + 1 : Nat) : Int))), (2, .int (Int32.ofInt 4)), (3, .int (Int32.ofInt (cnt : Int))), (4, .int (Int32.ofInt (400 + (i : Int)))), (5, .int (Int32.ofInt (400 + (n : Int)))), (0, .ref 165)]) (st' := [.int (Int32.ofInt 2), .int (Int32.ofInt 4)]) 2 rfl ?_
              refine xr_icmp_le rfl (by omega) (by omega) (fun z50 => ?_) (fun z50 => ?_)
              · exfalso; omega
              · refine xr_steps (pc' := 164) (L' := [(6, .int (Int32.ofInt (xat n f i))), (1, .int (Int32.ofInt ((D + 1 : Nat) : Int))), (2, .int (Int32.ofInt 4)), (3, .int (Int32.ofInt (cnt : Int))), (4, .int (Int32.ofInt (400 + (i : Int)))), (5, .int (Int32.ofInt (400 + (n : Int)))), (0, .ref 165)]) (st' := [.int (Int32.ofInt 1), .int (Int32.ofInt (400 + (i : Int))), .ref 165]) 3 rfl ?_
                refine xr_iadd rfl ?_
                refine xr_call (q := (.invokevirtual 103, 3, 209, 2)) (av := [.ref 165, .int (Int32.ofInt ((400 + (i : Int)) + 1))]) (rest := []) rfl rfl (by decide) rfl (ym_rcv hA rfl) (Nat.le_of_ble_eq_true rfl) (mo_209t (i := i + 1) hA hx (by omega) (by omega)) ?_
                rintro _ _ ⟨rfl, eA⟩
                rw [eA]
                clear eA
                have hx51 := xtx_ye hx (i + 1)
                refine xr_steps (pc' := 174) (L' := [(7, .int (Int32.ofInt (xat n f (i + 1)))), (6, .int (Int32.ofInt (xat n f i))), (1, .int (Int32.ofInt ((D + 1 : Nat) : Int))), (2, .int (Int32.ofInt 4)), (3, .int (Int32.ofInt (cnt : Int))), (4, .int (Int32.ofInt (400 + (i : Int)))), (5, .int (Int32.ofInt (400 + (n : Int)))), (0, .ref 165)]) (st' := [.int (Int32.ofInt 34), .int (Int32.ofInt (xat n f i))]) 3 rfl ?_
                refine xr_icmp_ne rfl (by omega) (by omega) (fun z52 => ?_) (fun z52 => ?_)
                · refine xr_steps (pc' := 232) (L' := [(7, .int (Int32.ofInt (xat n f (i + 1)))), (6, .int (Int32.ofInt (xat n f i))), (1, .int (Int32.ofInt ((D + 1 : Nat) : Int))), (2, .int (Int32.ofInt 4)), (3, .int (Int32.ofInt (cnt : Int))), (4, .int (Int32.ofInt (400 + (i : Int)))), (5, .int (Int32.ofInt (400 + (n : Int)))), (0, .ref 165)]) (st' := [.int (Int32.ofInt (-1))]) 1 rfl ?_
                  first
                    | exact xr_retI2 rfl rfl (hbad (fun h => by unfold xpk at h; omega))
                    | (exfalso; omega)
                · refine xr_steps (pc' := 179) (L' := [(7, .int (Int32.ofInt (xat n f (i + 1)))), (6, .int (Int32.ofInt (xat n f i))), (1, .int (Int32.ofInt ((D + 1 : Nat) : Int))), (2, .int (Int32.ofInt 4)), (3, .int (Int32.ofInt (cnt : Int))), (4, .int (Int32.ofInt (400 + (i : Int)))), (5, .int (Int32.ofInt (400 + (n : Int)))), (0, .ref 165)]) (st' := [.int (Int32.ofInt (xat n f (i + 1)))]) 1 rfl ?_
                  obtain ⟨bl, hbl⟩ := mo_bool (97 ≤ xat n f (i + 1) ∧ xat n f (i + 1) ≤ 122)
                  refine xr_call (q := (.invokestatic 111, 3, 210, 1)) (av := [.int (Int32.ofInt (xat n f (i + 1)))]) (rest := []) rfl rfl (by decide) rfl rfl (Nat.le_of_ble_eq_true rfl) (mo_210 (by omega) hbl) ?_
                  rintro _ _ ⟨rfl, eA⟩
                  rw [eA]
                  clear eA
                  refine xr_if_eq rfl (by omega) (fun z53 => ?_) (fun z53 => ?_)
                  · refine xr_steps (pc' := 232) (L' := [(7, .int (Int32.ofInt (xat n f (i + 1)))), (6, .int (Int32.ofInt (xat n f i))), (1, .int (Int32.ofInt ((D + 1 : Nat) : Int))), (2, .int (Int32.ofInt 4)), (3, .int (Int32.ofInt (cnt : Int))), (4, .int (Int32.ofInt (400 + (i : Int)))), (5, .int (Int32.ofInt (400 + (n : Int)))), (0, .ref 165)]) (st' := [.int (Int32.ofInt (-1))]) 1 rfl ?_
                    first
                      | exact xr_retI2 rfl rfl (hbad (fun h => by unfold xpk at h; omega))
                      | (exfalso; omega)
                  · refine xr_steps (pc' := 189) (L' := [(7, .int (Int32.ofInt (xat n f (i + 1)))), (6, .int (Int32.ofInt (xat n f i))), (1, .int (Int32.ofInt ((D + 1 : Nat) : Int))), (2, .int (Int32.ofInt 4)), (3, .int (Int32.ofInt (cnt : Int))), (4, .int (Int32.ofInt (400 + (i : Int)))), (5, .int (Int32.ofInt (400 + (n : Int)))), (0, .ref 165)]) (st' := [.int (Int32.ofInt 2), .int (Int32.ofInt (400 + (i : Int))), .ref 165]) 3 rfl ?_
                    refine xr_iadd rfl ?_
                    refine xr_call (q := (.invokevirtual 103, 3, 209, 2)) (av := [.ref 165, .int (Int32.ofInt ((400 + (i : Int)) + 2))]) (rest := []) rfl rfl (by decide) rfl (ym_rcv hA rfl) (Nat.le_of_ble_eq_true rfl) (mo_209t (i := i + 2) hA hx (by omega) (by omega)) ?_
                    rintro _ _ ⟨rfl, eA⟩
                    rw [eA]
                    clear eA
                    have hx54 := xtx_ye hx (i + 2)
                    refine xr_steps (pc' := 195) (L' := [(7, .int (Int32.ofInt (xat n f (i + 1)))), (6, .int (Int32.ofInt (xat n f i))), (1, .int (Int32.ofInt ((D + 1 : Nat) : Int))), (2, .int (Int32.ofInt 4)), (3, .int (Int32.ofInt (cnt : Int))), (4, .int (Int32.ofInt (400 + (i : Int)))), (5, .int (Int32.ofInt (400 + (n : Int)))), (0, .ref 165)]) (st' := [.int (Int32.ofInt 34), .int (Int32.ofInt (xat n f (i + 2)))]) 1 rfl ?_
                    refine xr_icmp_ne rfl (by omega) (by omega) (fun z55 => ?_) (fun z55 => ?_)
                    · refine xr_steps (pc' := 232) (L' := [(7, .int (Int32.ofInt (xat n f (i + 1)))), (6, .int (Int32.ofInt (xat n f i))), (1, .int (Int32.ofInt ((D + 1 : Nat) : Int))), (2, .int (Int32.ofInt 4)), (3, .int (Int32.ofInt (cnt : Int))), (4, .int (Int32.ofInt (400 + (i : Int)))), (5, .int (Int32.ofInt (400 + (n : Int)))), (0, .ref 165)]) (st' := [.int (Int32.ofInt (-1))]) 1 rfl ?_
                      first
                        | exact xr_retI2 rfl rfl (hbad (fun h => by unfold xpk at h; omega))
                        | (exfalso; omega)
                    · refine xr_steps (pc' := 202) (L' := [(7, .int (Int32.ofInt (xat n f (i + 1)))), (6, .int (Int32.ofInt (xat n f i))), (1, .int (Int32.ofInt ((D + 1 : Nat) : Int))), (2, .int (Int32.ofInt 4)), (3, .int (Int32.ofInt (cnt : Int))), (4, .int (Int32.ofInt (400 + (i : Int)))), (5, .int (Int32.ofInt (400 + (n : Int)))), (0, .ref 165)]) (st' := [.int (Int32.ofInt 3), .int (Int32.ofInt (400 + (i : Int))), .ref 165]) 3 rfl ?_
                      refine xr_iadd rfl ?_
                      refine xr_call (q := (.invokevirtual 103, 3, 209, 2)) (av := [.ref 165, .int (Int32.ofInt ((400 + (i : Int)) + 3))]) (rest := []) rfl rfl (by decide) rfl (ym_rcv hA rfl) (Nat.le_of_ble_eq_true rfl) (mo_209t (i := i + 3) hA hx (by omega) (by omega)) ?_
                      rintro _ _ ⟨rfl, eA⟩
                      rw [eA]
                      clear eA
                      have hx56 := xtx_ye hx (i + 3)
                      refine xr_steps (pc' := 208) (L' := [(7, .int (Int32.ofInt (xat n f (i + 1)))), (6, .int (Int32.ofInt (xat n f i))), (1, .int (Int32.ofInt ((D + 1 : Nat) : Int))), (2, .int (Int32.ofInt 4)), (3, .int (Int32.ofInt (cnt : Int))), (4, .int (Int32.ofInt (400 + (i : Int)))), (5, .int (Int32.ofInt (400 + (n : Int)))), (0, .ref 165)]) (st' := [.int (Int32.ofInt 58), .int (Int32.ofInt (xat n f (i + 3)))]) 1 rfl ?_
                      refine xr_icmp_ne rfl (by omega) (by omega) (fun z57 => ?_) (fun z57 => ?_)
                      · refine xr_steps (pc' := 232) (L' := [(7, .int (Int32.ofInt (xat n f (i + 1)))), (6, .int (Int32.ofInt (xat n f i))), (1, .int (Int32.ofInt ((D + 1 : Nat) : Int))), (2, .int (Int32.ofInt 4)), (3, .int (Int32.ofInt (cnt : Int))), (4, .int (Int32.ofInt (400 + (i : Int)))), (5, .int (Int32.ofInt (400 + (n : Int)))), (0, .ref 165)]) (st' := [.int (Int32.ofInt (-1))]) 1 rfl ?_
                        first
                          | exact xr_retI2 rfl rfl (hbad (fun h => by unfold xpk at h; omega))
                          | (exfalso; omega)
                      · refine xr_steps (pc' := 212) (L' := [(7, .int (Int32.ofInt (xat n f (i + 1)))), (6, .int (Int32.ofInt (xat n f i))), (1, .int (Int32.ofInt ((D + 1 : Nat) : Int))), (2, .int (Int32.ofInt 4)), (3, .int (Int32.ofInt (cnt : Int))), (4, .int (Int32.ofInt (400 + (i : Int)))), (5, .int (Int32.ofInt (400 + (n : Int)))), (0, .ref 165)]) (st' := [.ref 165]) 1 rfl ?_
                        refine xr_getf (v := .ref 179) rfl (ym_165 hA) rfl ?_
                        refine xr_steps (pc' := 217) (L' := [(7, .int (Int32.ofInt (xat n f (i + 1)))), (6, .int (Int32.ofInt (xat n f i))), (1, .int (Int32.ofInt ((D + 1 : Nat) : Int))), (2, .int (Int32.ofInt 4)), (3, .int (Int32.ofInt (cnt : Int))), (4, .int (Int32.ofInt (400 + (i : Int)))), (5, .int (Int32.ofInt (400 + (n : Int)))), (0, .ref 165)]) (st' := [.int (Int32.ofInt 1), .int (Int32.ofInt ((D + 1 : Nat) : Int)), .ref 179]) 2 rfl ?_
                        refine xr_isub rfl ?_
                        rw [show ((D + 1 : Nat) : Int) - 1 = (D : Int) by omega]
                        refine ym_iaload (e := T 179 (D : Int).toNat) hA rfl rfl (by decide) (by omega) (by omega) rfl ?_
                        rw [show (D : Int).toNat = D by omega]
                        refine xr_steps (pc' := 223) (L' := [(7, .int (Int32.ofInt (xat n f (i + 1)))), (6, .int (Int32.ofInt (xat n f i))), (1, .int (Int32.ofInt ((D + 1 : Nat) : Int))), (2, .int (Int32.ofInt 4)), (3, .int (Int32.ofInt (cnt : Int))), (4, .int (Int32.ofInt (400 + (i : Int)))), (5, .int (Int32.ofInt (400 + (n : Int)))), (0, .ref 165)]) (st' := [.int (Int32.ofInt 97), .int (Int32.ofInt (xat n f (i + 1))), .int (Int32.ofInt (T 179 D))]) 2 rfl ?_
                        refine xr_isub rfl ?_
                        obtain ⟨c, hc⟩ : ∃ c : Nat, xat n f (i + 1) - 97 = (c : Int) := ⟨(xat n f (i + 1) - 97).toNat, by omega⟩
                        rw [hc]
                        refine xr_steps (pc' := 227) (L' := [(7, .int (Int32.ofInt (xat n f (i + 1)))), (6, .int (Int32.ofInt (xat n f i))), (1, .int (Int32.ofInt ((D + 1 : Nat) : Int))), (2, .int (Int32.ofInt 4)), (3, .int (Int32.ofInt (cnt : Int))), (4, .int (Int32.ofInt (400 + (i : Int)))), (5, .int (Int32.ofInt (400 + (n : Int)))), (0, .ref 165)]) (st' := [.int ((Int32.ofInt (T 179 D) >>> (Int32.ofInt (c : Int) &&& 31)) &&& Int32.ofInt 1)]) 3 rfl ?_
                        rw [xbt_get _ (by omega)]
                        obtain ⟨bt, hbt⟩ : ∃ bt : Int, bt = if xbt (Int32.ofInt (T 179 D)) c = true then 1 else 0 := ⟨_, rfl⟩
                        rw [← hbt]
                        have hb01 : (bt = 1 ∧ xbt (Int32.ofInt (T 179 D)) c = true) ∨ (bt = 0 ∧ ¬ xbt (Int32.ofInt (T 179 D)) c = true) := by
                          rw [hbt]
                          by_cases hz : xbt (Int32.ofInt (T 179 D)) c = true
                          · rw [if_pos hz]; exact Or.inl ⟨rfl, hz⟩
                          · rw [if_neg hz]; exact Or.inr ⟨rfl, hz⟩
                        refine xr_steps (pc' := 228) (L' := [(7, .int (Int32.ofInt (xat n f (i + 1)))), (6, .int (Int32.ofInt (xat n f i))), (1, .int (Int32.ofInt ((D + 1 : Nat) : Int))), (2, .int (Int32.ofInt 4)), (3, .int (Int32.ofInt (cnt : Int))), (4, .int (Int32.ofInt (400 + (i : Int)))), (5, .int (Int32.ofInt (400 + (n : Int)))), (0, .ref 165)]) (st' := [.int (Int32.ofInt 1), .int (Int32.ofInt bt)]) 1 rfl ?_
                        refine xr_icmp_ne rfl (by omega) (by omega) (fun z58 => ?_) (fun z58 => ?_)
                        · refine xr_steps (pc' := 234) (L' := [(7, .int (Int32.ofInt (xat n f (i + 1)))), (6, .int (Int32.ofInt (xat n f i))), (1, .int (Int32.ofInt ((D + 1 : Nat) : Int))), (2, .int (Int32.ofInt 4)), (3, .int (Int32.ofInt (cnt : Int))), (4, .int (Int32.ofInt (400 + (i : Int)))), (5, .int (Int32.ofInt (400 + (n : Int)))), (0, .ref 165)]) (st' := [.ref 165]) 1 rfl ?_
                          refine xr_getf (v := .ref 179) rfl (ym_165 hA) rfl ?_
                          refine xr_steps (pc' := 239) (L' := [(7, .int (Int32.ofInt (xat n f (i + 1)))), (6, .int (Int32.ofInt (xat n f i))), (1, .int (Int32.ofInt ((D + 1 : Nat) : Int))), (2, .int (Int32.ofInt 4)), (3, .int (Int32.ofInt (cnt : Int))), (4, .int (Int32.ofInt (400 + (i : Int)))), (5, .int (Int32.ofInt (400 + (n : Int)))), (0, .ref 165)]) (st' := [.int (Int32.ofInt 1), .int (Int32.ofInt ((D + 1 : Nat) : Int)), .ref 179]) 2 rfl ?_
                          refine xr_isub rfl ?_
                          rw [show ((D + 1 : Nat) : Int) - 1 = (D : Int) by omega]
                          refine xr_steps (pc' := 241) (L' := [(7, .int (Int32.ofInt (xat n f (i + 1)))), (6, .int (Int32.ofInt (xat n f i))), (1, .int (Int32.ofInt ((D + 1 : Nat) : Int))), (2, .int (Int32.ofInt 4)), (3, .int (Int32.ofInt (cnt : Int))), (4, .int (Int32.ofInt (400 + (i : Int)))), (5, .int (Int32.ofInt (400 + (n : Int)))), (0, .ref 165)]) (st' := [.ref 165, .int (Int32.ofInt (D : Int)), .ref 179]) 1 rfl ?_
                          refine xr_getf (v := .ref 179) rfl (ym_165 hA) rfl ?_
                          refine xr_steps (pc' := 246) (L' := [(7, .int (Int32.ofInt (xat n f (i + 1)))), (6, .int (Int32.ofInt (xat n f i))), (1, .int (Int32.ofInt ((D + 1 : Nat) : Int))), (2, .int (Int32.ofInt 4)), (3, .int (Int32.ofInt (cnt : Int))), (4, .int (Int32.ofInt (400 + (i : Int)))), (5, .int (Int32.ofInt (400 + (n : Int)))), (0, .ref 165)]) (st' := [.int (Int32.ofInt 1), .int (Int32.ofInt ((D + 1 : Nat) : Int)), .ref 179, .int (Int32.ofInt (D : Int)), .ref 179]) 2 rfl ?_
                          refine xr_isub rfl ?_
                          rw [show ((D + 1 : Nat) : Int) - 1 = (D : Int) by omega]
                          refine ym_iaload (e := T 179 (D : Int).toNat) hA rfl rfl (by decide) (by omega) (by omega) rfl ?_
                          rw [show (D : Int).toNat = D by omega]
                          refine xr_steps (pc' := 253) (L' := [(7, .int (Int32.ofInt (xat n f (i + 1)))), (6, .int (Int32.ofInt (xat n f i))), (1, .int (Int32.ofInt ((D + 1 : Nat) : Int))), (2, .int (Int32.ofInt 4)), (3, .int (Int32.ofInt (cnt : Int))), (4, .int (Int32.ofInt (400 + (i : Int)))), (5, .int (Int32.ofInt (400 + (n : Int)))), (0, .ref 165)]) (st' := [.int (Int32.ofInt 97), .int (Int32.ofInt (xat n f (i + 1))), .int (Int32.ofInt 1), .int (Int32.ofInt (T 179 D)), .int (Int32.ofInt (D : Int)), .ref 179]) 3 rfl ?_
                          refine xr_isub rfl ?_
                          rw [hc]
                          refine xr_steps (pc' := 256) (L' := [(7, .int (Int32.ofInt (xat n f (i + 1)))), (6, .int (Int32.ofInt (xat n f i))), (1, .int (Int32.ofInt ((D + 1 : Nat) : Int))), (2, .int (Int32.ofInt 4)), (3, .int (Int32.ofInt (cnt : Int))), (4, .int (Int32.ofInt (400 + (i : Int)))), (5, .int (Int32.ofInt (400 + (n : Int)))), (0, .ref 165)]) (st' := [.int (Int32.ofInt (T 179 D) ||| (Int32.ofInt 1 <<< (Int32.ofInt (c : Int) &&& 31))), .int (Int32.ofInt (D : Int)), .ref 179]) 2 rfl ?_
                          obtain ⟨ke, hke⟩ : ∃ ke : Int, Int32.ofInt (T 179 D) ||| (Int32.ofInt 1 <<< (Int32.ofInt (c : Int) &&& 31)) = Int32.ofInt ke := ⟨_, (Int32.ofInt_toInt _).symm⟩
                          rw [hke]
                          refine ym_iastore hA rfl rfl (by decide) (by omega) (by omega) ?_
                          rw [show (D : Int).toNat = D by omega]
                          refine xr_steps (pc' := 259) (L' := [(2, .int (Int32.ofInt 0)), (7, .int (Int32.ofInt (xat n f (i + 1)))), (6, .int (Int32.ofInt (xat n f i))), (1, .int (Int32.ofInt ((D + 1 : Nat) : Int))), (3, .int (Int32.ofInt (cnt : Int))), (4, .int (Int32.ofInt (400 + (i : Int)))), (5, .int (Int32.ofInt (400 + (n : Int)))), (0, .ref 165)]) (st' := []) 2 rfl ?_
                          refine xr_iinc (L' := [(4, .int (Int32.ofInt ((400 + (i : Int)) + 4))), (2, .int (Int32.ofInt 0)), (7, .int (Int32.ofInt (xat n f (i + 1)))), (6, .int (Int32.ofInt (xat n f i))), (1, .int (Int32.ofInt ((D + 1 : Nat) : Int))), (3, .int (Int32.ofInt (cnt : Int))), (5, .int (Int32.ofInt (400 + (n : Int)))), (0, .ref 165)]) rfl rfl rfl ?_
                          refine xr_steps (pc' := 21) (L' := [(4, .int (Int32.ofInt ((400 + (i : Int)) + 4))), (2, .int (Int32.ofInt 0)), (7, .int (Int32.ofInt (xat n f (i + 1)))), (6, .int (Int32.ofInt (xat n f i))), (1, .int (Int32.ofInt ((D + 1 : Nat) : Int))), (3, .int (Int32.ofInt (cnt : Int))), (5, .int (Int32.ofInt (400 + (n : Int)))), (0, .ref 165)]) (st' := []) 2 rfl ?_
                          refine xr_loc (L := [(1, .int (Int32.ofInt ((D + 1 : Nat) : Int))), (2, .int (Int32.ofInt 0)), (3, .int (Int32.ofInt (cnt : Int))), (4, .int (Int32.ofInt ((400 + (i : Int)) + 4))), (5, .int (Int32.ofInt (400 + (n : Int)))), (0, .ref 165)]) (show [1, 2, 3, 4, 5, 0].Nodup by decide) ⟨rfl, rfl, rfl, rfl, rfl, rfl, trivial⟩ ?_
                          rw [show 400 + (i : Int) + 4 = 400 + ((i + 4 : Nat) : Int) by omega]
                          refine hgo c ke (by omega) (by unfold xpk; omega) ?_ hke.symm
                          rcases hb01 with h | h
                          · omega
                          · exact h.2
                        · refine xr_steps (pc' := 232) (L' := [(7, .int (Int32.ofInt (xat n f (i + 1)))), (6, .int (Int32.ofInt (xat n f i))), (1, .int (Int32.ofInt ((D + 1 : Nat) : Int))), (2, .int (Int32.ofInt 4)), (3, .int (Int32.ofInt (cnt : Int))), (4, .int (Int32.ofInt (400 + (i : Int)))), (5, .int (Int32.ofInt (400 + (n : Int)))), (0, .ref 165)]) (st' := [.int (Int32.ofInt (-1))]) 1 rfl ?_
                          refine xr_retI2 rfl rfl (hbad (fun h => ?_))
                          have := h.2 c (by omega)
                          rcases hb01 with h | h
                          · exact this h.2
                          · omega
            · exfalso; omega
          · exfalso; omega
    · refine xr_steps (pc' := 45) (L' := [(6, .int (Int32.ofInt (xat n f i))), (1, .int (Int32.ofInt ((D + 1 : Nat) : Int))), (2, .int (Int32.ofInt 4)), (3, .int (Int32.ofInt (cnt : Int))), (4, .int (Int32.ofInt (400 + (i : Int)))), (5, .int (Int32.ofInt (400 + (n : Int)))), (0, .ref 165)]) (st' := [.int (Int32.ofInt 1), .int (Int32.ofInt 4)]) 2 rfl ?_
      refine xr_icmp_eq rfl (by omega) (by omega) (fun z59 => ?_) (fun z59 => ?_)
      · exfalso; omega
      · refine xr_steps (pc' := 50) (L' := [(6, .int (Int32.ofInt (xat n f i))), (1, .int (Int32.ofInt ((D + 1 : Nat) : Int))), (2, .int (Int32.ofInt 4)), (3, .int (Int32.ofInt (cnt : Int))), (4, .int (Int32.ofInt (400 + (i : Int)))), (5, .int (Int32.ofInt (400 + (n : Int)))), (0, .ref 165)]) (st' := [.int (Int32.ofInt 2), .int (Int32.ofInt 4)]) 2 rfl ?_
        refine xr_icmp_eq rfl (by omega) (by omega) (fun z60 => ?_) (fun z60 => ?_)
        · exfalso; omega
        · refine xr_steps (pc' := 57) (L' := [(6, .int (Int32.ofInt (xat n f i))), (1, .int (Int32.ofInt ((D + 1 : Nat) : Int))), (2, .int (Int32.ofInt 4)), (3, .int (Int32.ofInt (cnt : Int))), (4, .int (Int32.ofInt (400 + (i : Int)))), (5, .int (Int32.ofInt (400 + (n : Int)))), (0, .ref 165)]) (st' := [.int (Int32.ofInt 125), .int (Int32.ofInt (xat n f i))]) 2 rfl ?_
          refine xr_icmp_ne rfl (by omega) (by omega) (fun z61 => ?_) (fun z61 => ?_)
          · refine xr_steps (pc' := 114) (L' := [(6, .int (Int32.ofInt (xat n f i))), (1, .int (Int32.ofInt ((D + 1 : Nat) : Int))), (2, .int (Int32.ofInt 4)), (3, .int (Int32.ofInt (cnt : Int))), (4, .int (Int32.ofInt (400 + (i : Int)))), (5, .int (Int32.ofInt (400 + (n : Int)))), (0, .ref 165)]) (st' := [.int (Int32.ofInt 1), .int (Int32.ofInt 4)]) 2 rfl ?_
            refine xr_icmp_ne rfl (by omega) (by omega) (fun z62 => ?_) (fun z62 => ?_)
            · refine xr_steps (pc' := 157) (L' := [(6, .int (Int32.ofInt (xat n f i))), (1, .int (Int32.ofInt ((D + 1 : Nat) : Int))), (2, .int (Int32.ofInt 4)), (3, .int (Int32.ofInt (cnt : Int))), (4, .int (Int32.ofInt (400 + (i : Int)))), (5, .int (Int32.ofInt (400 + (n : Int)))), (0, .ref 165)]) (st' := [.int (Int32.ofInt 2), .int (Int32.ofInt 4)]) 2 rfl ?_
              refine xr_icmp_le rfl (by omega) (by omega) (fun z63 => ?_) (fun z63 => ?_)
              · exfalso; omega
              · refine xr_steps (pc' := 164) (L' := [(6, .int (Int32.ofInt (xat n f i))), (1, .int (Int32.ofInt ((D + 1 : Nat) : Int))), (2, .int (Int32.ofInt 4)), (3, .int (Int32.ofInt (cnt : Int))), (4, .int (Int32.ofInt (400 + (i : Int)))), (5, .int (Int32.ofInt (400 + (n : Int)))), (0, .ref 165)]) (st' := [.int (Int32.ofInt 1), .int (Int32.ofInt (400 + (i : Int))), .ref 165]) 3 rfl ?_
                refine xr_iadd rfl ?_
                refine xr_call (q := (.invokevirtual 103, 3, 209, 2)) (av := [.ref 165, .int (Int32.ofInt ((400 + (i : Int)) + 1))]) (rest := []) rfl rfl (by decide) rfl (ym_rcv hA rfl) (Nat.le_of_ble_eq_true rfl) (mo_209t (i := i + 1) hA hx (by omega) (by omega)) ?_
                rintro _ _ ⟨rfl, eA⟩
                rw [eA]
                clear eA
                have hx64 := xtx_ye hx (i + 1)
                refine xr_steps (pc' := 174) (L' := [(7, .int (Int32.ofInt (xat n f (i + 1)))), (6, .int (Int32.ofInt (xat n f i))), (1, .int (Int32.ofInt ((D + 1 : Nat) : Int))), (2, .int (Int32.ofInt 4)), (3, .int (Int32.ofInt (cnt : Int))), (4, .int (Int32.ofInt (400 + (i : Int)))), (5, .int (Int32.ofInt (400 + (n : Int)))), (0, .ref 165)]) (st' := [.int (Int32.ofInt 34), .int (Int32.ofInt (xat n f i))]) 3 rfl ?_
                refine xr_icmp_ne rfl (by omega) (by omega) (fun z65 => ?_) (fun z65 => ?_)
                · refine xr_steps (pc' := 232) (L' := [(7, .int (Int32.ofInt (xat n f (i + 1)))), (6, .int (Int32.ofInt (xat n f i))), (1, .int (Int32.ofInt ((D + 1 : Nat) : Int))), (2, .int (Int32.ofInt 4)), (3, .int (Int32.ofInt (cnt : Int))), (4, .int (Int32.ofInt (400 + (i : Int)))), (5, .int (Int32.ofInt (400 + (n : Int)))), (0, .ref 165)]) (st' := [.int (Int32.ofInt (-1))]) 1 rfl ?_
                  first
                    | exact xr_retI2 rfl rfl (hbad (fun h => by unfold xpk at h; omega))
                    | (exfalso; omega)
                · refine xr_steps (pc' := 179) (L' := [(7, .int (Int32.ofInt (xat n f (i + 1)))), (6, .int (Int32.ofInt (xat n f i))), (1, .int (Int32.ofInt ((D + 1 : Nat) : Int))), (2, .int (Int32.ofInt 4)), (3, .int (Int32.ofInt (cnt : Int))), (4, .int (Int32.ofInt (400 + (i : Int)))), (5, .int (Int32.ofInt (400 + (n : Int)))), (0, .ref 165)]) (st' := [.int (Int32.ofInt (xat n f (i + 1)))]) 1 rfl ?_
                  obtain ⟨bl, hbl⟩ := mo_bool (97 ≤ xat n f (i + 1) ∧ xat n f (i + 1) ≤ 122)
                  refine xr_call (q := (.invokestatic 111, 3, 210, 1)) (av := [.int (Int32.ofInt (xat n f (i + 1)))]) (rest := []) rfl rfl (by decide) rfl rfl (Nat.le_of_ble_eq_true rfl) (mo_210 (by omega) hbl) ?_
                  rintro _ _ ⟨rfl, eA⟩
                  rw [eA]
                  clear eA
                  refine xr_if_eq rfl (by omega) (fun z66 => ?_) (fun z66 => ?_)
                  · refine xr_steps (pc' := 232) (L' := [(7, .int (Int32.ofInt (xat n f (i + 1)))), (6, .int (Int32.ofInt (xat n f i))), (1, .int (Int32.ofInt ((D + 1 : Nat) : Int))), (2, .int (Int32.ofInt 4)), (3, .int (Int32.ofInt (cnt : Int))), (4, .int (Int32.ofInt (400 + (i : Int)))), (5, .int (Int32.ofInt (400 + (n : Int)))), (0, .ref 165)]) (st' := [.int (Int32.ofInt (-1))]) 1 rfl ?_
                    first
                      | exact xr_retI2 rfl rfl (hbad (fun h => by unfold xpk at h; omega))
                      | (exfalso; omega)
                  · refine xr_steps (pc' := 189) (L' := [(7, .int (Int32.ofInt (xat n f (i + 1)))), (6, .int (Int32.ofInt (xat n f i))), (1, .int (Int32.ofInt ((D + 1 : Nat) : Int))), (2, .int (Int32.ofInt 4)), (3, .int (Int32.ofInt (cnt : Int))), (4, .int (Int32.ofInt (400 + (i : Int)))), (5, .int (Int32.ofInt (400 + (n : Int)))), (0, .ref 165)]) (st' := [.int (Int32.ofInt 2), .int (Int32.ofInt (400 + (i : Int))), .ref 165]) 3 rfl ?_
                    refine xr_iadd rfl ?_
                    refine xr_call (q := (.invokevirtual 103, 3, 209, 2)) (av := [.ref 165, .int (Int32.ofInt ((400 + (i : Int)) + 2))]) (rest := []) rfl rfl (by decide) rfl (ym_rcv hA rfl) (Nat.le_of_ble_eq_true rfl) (mo_209t (i := i + 2) hA hx (by omega) (by omega)) ?_
                    rintro _ _ ⟨rfl, eA⟩
                    rw [eA]
                    clear eA
                    have hx67 := xtx_ye hx (i + 2)
                    refine xr_steps (pc' := 195) (L' := [(7, .int (Int32.ofInt (xat n f (i + 1)))), (6, .int (Int32.ofInt (xat n f i))), (1, .int (Int32.ofInt ((D + 1 : Nat) : Int))), (2, .int (Int32.ofInt 4)), (3, .int (Int32.ofInt (cnt : Int))), (4, .int (Int32.ofInt (400 + (i : Int)))), (5, .int (Int32.ofInt (400 + (n : Int)))), (0, .ref 165)]) (st' := [.int (Int32.ofInt 34), .int (Int32.ofInt (xat n f (i + 2)))]) 1 rfl ?_
                    refine xr_icmp_ne rfl (by omega) (by omega) (fun z68 => ?_) (fun z68 => ?_)
                    · refine xr_steps (pc' := 232) (L' := [(7, .int (Int32.ofInt (xat n f (i + 1)))), (6, .int (Int32.ofInt (xat n f i))), (1, .int (Int32.ofInt ((D + 1 : Nat) : Int))), (2, .int (Int32.ofInt 4)), (3, .int (Int32.ofInt (cnt : Int))), (4, .int (Int32.ofInt (400 + (i : Int)))), (5, .int (Int32.ofInt (400 + (n : Int)))), (0, .ref 165)]) (st' := [.int (Int32.ofInt (-1))]) 1 rfl ?_
                      first
                        | exact xr_retI2 rfl rfl (hbad (fun h => by unfold xpk at h; omega))
                        | (exfalso; omega)
                    · refine xr_steps (pc' := 202) (L' := [(7, .int (Int32.ofInt (xat n f (i + 1)))), (6, .int (Int32.ofInt (xat n f i))), (1, .int (Int32.ofInt ((D + 1 : Nat) : Int))), (2, .int (Int32.ofInt 4)), (3, .int (Int32.ofInt (cnt : Int))), (4, .int (Int32.ofInt (400 + (i : Int)))), (5, .int (Int32.ofInt (400 + (n : Int)))), (0, .ref 165)]) (st' := [.int (Int32.ofInt 3), .int (Int32.ofInt (400 + (i : Int))), .ref 165]) 3 rfl ?_
                      refine xr_iadd rfl ?_
                      refine xr_call (q := (.invokevirtual 103, 3, 209, 2)) (av := [.ref 165, .int (Int32.ofInt ((400 + (i : Int)) + 3))]) (rest := []) rfl rfl (by decide) rfl (ym_rcv hA rfl) (Nat.le_of_ble_eq_true rfl) (mo_209t (i := i + 3) hA hx (by omega) (by omega)) ?_
                      rintro _ _ ⟨rfl, eA⟩
                      rw [eA]
                      clear eA
                      have hx69 := xtx_ye hx (i + 3)
                      refine xr_steps (pc' := 208) (L' := [(7, .int (Int32.ofInt (xat n f (i + 1)))), (6, .int (Int32.ofInt (xat n f i))), (1, .int (Int32.ofInt ((D + 1 : Nat) : Int))), (2, .int (Int32.ofInt 4)), (3, .int (Int32.ofInt (cnt : Int))), (4, .int (Int32.ofInt (400 + (i : Int)))), (5, .int (Int32.ofInt (400 + (n : Int)))), (0, .ref 165)]) (st' := [.int (Int32.ofInt 58), .int (Int32.ofInt (xat n f (i + 3)))]) 1 rfl ?_
                      refine xr_icmp_ne rfl (by omega) (by omega) (fun z70 => ?_) (fun z70 => ?_)
                      · refine xr_steps (pc' := 232) (L' := [(7, .int (Int32.ofInt (xat n f (i + 1)))), (6, .int (Int32.ofInt (xat n f i))), (1, .int (Int32.ofInt ((D + 1 : Nat) : Int))), (2, .int (Int32.ofInt 4)), (3, .int (Int32.ofInt (cnt : Int))), (4, .int (Int32.ofInt (400 + (i : Int)))), (5, .int (Int32.ofInt (400 + (n : Int)))), (0, .ref 165)]) (st' := [.int (Int32.ofInt (-1))]) 1 rfl ?_
                        first
                          | exact xr_retI2 rfl rfl (hbad (fun h => by unfold xpk at h; omega))
                          | (exfalso; omega)
                      · refine xr_steps (pc' := 212) (L' := [(7, .int (Int32.ofInt (xat n f (i + 1)))), (6, .int (Int32.ofInt (xat n f i))), (1, .int (Int32.ofInt ((D + 1 : Nat) : Int))), (2, .int (Int32.ofInt 4)), (3, .int (Int32.ofInt (cnt : Int))), (4, .int (Int32.ofInt (400 + (i : Int)))), (5, .int (Int32.ofInt (400 + (n : Int)))), (0, .ref 165)]) (st' := [.ref 165]) 1 rfl ?_
                        refine xr_getf (v := .ref 179) rfl (ym_165 hA) rfl ?_
                        refine xr_steps (pc' := 217) (L' := [(7, .int (Int32.ofInt (xat n f (i + 1)))), (6, .int (Int32.ofInt (xat n f i))), (1, .int (Int32.ofInt ((D + 1 : Nat) : Int))), (2, .int (Int32.ofInt 4)), (3, .int (Int32.ofInt (cnt : Int))), (4, .int (Int32.ofInt (400 + (i : Int)))), (5, .int (Int32.ofInt (400 + (n : Int)))), (0, .ref 165)]) (st' := [.int (Int32.ofInt 1), .int (Int32.ofInt ((D + 1 : Nat) : Int)), .ref 179]) 2 rfl ?_
                        refine xr_isub rfl ?_
                        rw [show ((D + 1 : Nat) : Int) - 1 = (D : Int) by omega]
                        refine ym_iaload (e := T 179 (D : Int).toNat) hA rfl rfl (by decide) (by omega) (by omega) rfl ?_
                        rw [show (D : Int).toNat = D by omega]
                        refine xr_steps (pc' := 223) (L' := [(7, .int (Int32.ofInt (xat n f (i + 1)))), (6, .int (Int32.ofInt (xat n f i))), (1, .int (Int32.ofInt ((D + 1 : Nat) : Int))), (2, .int (Int32.ofInt 4)), (3, .int (Int32.ofInt (cnt : Int))), (4, .int (Int32.ofInt (400 + (i : Int)))), (5, .int (Int32.ofInt (400 + (n : Int)))), (0, .ref 165)]) (st' := [.int (Int32.ofInt 97), .int (Int32.ofInt (xat n f (i + 1))), .int (Int32.ofInt (T 179 D))]) 2 rfl ?_
                        refine xr_isub rfl ?_
                        obtain ⟨c, hc⟩ : ∃ c : Nat, xat n f (i + 1) - 97 = (c : Int) := ⟨(xat n f (i + 1) - 97).toNat, by omega⟩
                        rw [hc]
                        refine xr_steps (pc' := 227) (L' := [(7, .int (Int32.ofInt (xat n f (i + 1)))), (6, .int (Int32.ofInt (xat n f i))), (1, .int (Int32.ofInt ((D + 1 : Nat) : Int))), (2, .int (Int32.ofInt 4)), (3, .int (Int32.ofInt (cnt : Int))), (4, .int (Int32.ofInt (400 + (i : Int)))), (5, .int (Int32.ofInt (400 + (n : Int)))), (0, .ref 165)]) (st' := [.int ((Int32.ofInt (T 179 D) >>> (Int32.ofInt (c : Int) &&& 31)) &&& Int32.ofInt 1)]) 3 rfl ?_
                        rw [xbt_get _ (by omega)]
                        obtain ⟨bt, hbt⟩ : ∃ bt : Int, bt = if xbt (Int32.ofInt (T 179 D)) c = true then 1 else 0 := ⟨_, rfl⟩
                        rw [← hbt]
                        have hb01 : (bt = 1 ∧ xbt (Int32.ofInt (T 179 D)) c = true) ∨ (bt = 0 ∧ ¬ xbt (Int32.ofInt (T 179 D)) c = true) := by
                          rw [hbt]
                          by_cases hz : xbt (Int32.ofInt (T 179 D)) c = true
                          · rw [if_pos hz]; exact Or.inl ⟨rfl, hz⟩
                          · rw [if_neg hz]; exact Or.inr ⟨rfl, hz⟩
                        refine xr_steps (pc' := 228) (L' := [(7, .int (Int32.ofInt (xat n f (i + 1)))), (6, .int (Int32.ofInt (xat n f i))), (1, .int (Int32.ofInt ((D + 1 : Nat) : Int))), (2, .int (Int32.ofInt 4)), (3, .int (Int32.ofInt (cnt : Int))), (4, .int (Int32.ofInt (400 + (i : Int)))), (5, .int (Int32.ofInt (400 + (n : Int)))), (0, .ref 165)]) (st' := [.int (Int32.ofInt 1), .int (Int32.ofInt bt)]) 1 rfl ?_
                        refine xr_icmp_ne rfl (by omega) (by omega) (fun z71 => ?_) (fun z71 => ?_)
                        · refine xr_steps (pc' := 234) (L' := [(7, .int (Int32.ofInt (xat n f (i + 1)))), (6, .int (Int32.ofInt (xat n f i))), (1, .int (Int32.ofInt ((D + 1 : Nat) : Int))), (2, .int (Int32.ofInt 4)), (3, .int (Int32.ofInt (cnt : Int))), (4, .int (Int32.ofInt (400 + (i : Int)))), (5, .int (Int32.ofInt (400 + (n : Int)))), (0, .ref 165)]) (st' := [.ref 165]) 1 rfl ?_
                          refine xr_getf (v := .ref 179) rfl (ym_165 hA) rfl ?_
                          refine xr_steps (pc' := 239) (L' := [(7, .int (Int32.ofInt (xat n f (i + 1)))), (6, .int (Int32.ofInt (xat n f i))), (1, .int (Int32.ofInt ((D + 1 : Nat) : Int))), (2, .int (Int32.ofInt 4)), (3, .int (Int32.ofInt (cnt : Int))), (4, .int (Int32.ofInt (400 + (i : Int)))), (5, .int (Int32.ofInt (400 + (n : Int)))), (0, .ref 165)]) (st' := [.int (Int32.ofInt 1), .int (Int32.ofInt ((D + 1 : Nat) : Int)), .ref 179]) 2 rfl ?_
                          refine xr_isub rfl ?_
                          rw [show ((D + 1 : Nat) : Int) - 1 = (D : Int) by omega]
                          refine xr_steps (pc' := 241) (L' := [(7, .int (Int32.ofInt (xat n f (i + 1)))), (6, .int (Int32.ofInt (xat n f i))), (1, .int (Int32.ofInt ((D + 1 : Nat) : Int))), (2, .int (Int32.ofInt 4)), (3, .int (Int32.ofInt (cnt : Int))), (4, .int (Int32.ofInt (400 + (i : Int)))), (5, .int (Int32.ofInt (400 + (n : Int)))), (0, .ref 165)]) (st' := [.ref 165, .int (Int32.ofInt (D : Int)), .ref 179]) 1 rfl ?_
                          refine xr_getf (v := .ref 179) rfl (ym_165 hA) rfl ?_
                          refine xr_steps (pc' := 246) (L' := [(7, .int (Int32.ofInt (xat n f (i + 1)))), (6, .int (Int32.ofInt (xat n f i))), (1, .int (Int32.ofInt ((D + 1 : Nat) : Int))), (2, .int (Int32.ofInt 4)), (3, .int (Int32.ofInt (cnt : Int))), (4, .int (Int32.ofInt (400 + (i : Int)))), (5, .int (Int32.ofInt (400 + (n : Int)))), (0, .ref 165)]) (st' := [.int (Int32.ofInt 1), .int (Int32.ofInt ((D + 1 : Nat) : Int)), .ref 179, .int (Int32.ofInt (D : Int)), .ref 179]) 2 rfl ?_
                          refine xr_isub rfl ?_
                          rw [show ((D + 1 : Nat) : Int) - 1 = (D : Int) by omega]
                          refine ym_iaload (e := T 179 (D : Int).toNat) hA rfl rfl (by decide) (by omega) (by omega) rfl ?_
                          rw [show (D : Int).toNat = D by omega]
                          refine xr_steps (pc' := 253) (L' := [(7, .int (Int32.ofInt (xat n f (i + 1)))), (6, .int (Int32.ofInt (xat n f i))), (1, .int (Int32.ofInt ((D + 1 : Nat) : Int))), (2, .int (Int32.ofInt 4)), (3, .int (Int32.ofInt (cnt : Int))), (4, .int (Int32.ofInt (400 + (i : Int)))), (5, .int (Int32.ofInt (400 + (n : Int)))), (0, .ref 165)]) (st' := [.int (Int32.ofInt 97), .int (Int32.ofInt (xat n f (i + 1))), .int (Int32.ofInt 1), .int (Int32.ofInt (T 179 D)), .int (Int32.ofInt (D : Int)), .ref 179]) 3 rfl ?_
                          refine xr_isub rfl ?_
                          rw [hc]
                          refine xr_steps (pc' := 256) (L' := [(7, .int (Int32.ofInt (xat n f (i + 1)))), (6, .int (Int32.ofInt (xat n f i))), (1, .int (Int32.ofInt ((D + 1 : Nat) : Int))), (2, .int (Int32.ofInt 4)), (3, .int (Int32.ofInt (cnt : Int))), (4, .int (Int32.ofInt (400 + (i : Int)))), (5, .int (Int32.ofInt (400 + (n : Int)))), (0, .ref 165)]) (st' := [.int (Int32.ofInt (T 179 D) ||| (Int32.ofInt 1 <<< (Int32.ofInt (c : Int) &&& 31))), .int (Int32.ofInt (D : Int)), .ref 179]) 2 rfl ?_
                          obtain ⟨ke, hke⟩ : ∃ ke : Int, Int32.ofInt (T 179 D) ||| (Int32.ofInt 1 <<< (Int32.ofInt (c : Int) &&& 31)) = Int32.ofInt ke := ⟨_, (Int32.ofInt_toInt _).symm⟩
                          rw [hke]
                          refine ym_iastore hA rfl rfl (by decide) (by omega) (by omega) ?_
                          rw [show (D : Int).toNat = D by omega]
                          refine xr_steps (pc' := 259) (L' := [(2, .int (Int32.ofInt 0)), (7, .int (Int32.ofInt (xat n f (i + 1)))), (6, .int (Int32.ofInt (xat n f i))), (1, .int (Int32.ofInt ((D + 1 : Nat) : Int))), (3, .int (Int32.ofInt (cnt : Int))), (4, .int (Int32.ofInt (400 + (i : Int)))), (5, .int (Int32.ofInt (400 + (n : Int)))), (0, .ref 165)]) (st' := []) 2 rfl ?_
                          refine xr_iinc (L' := [(4, .int (Int32.ofInt ((400 + (i : Int)) + 4))), (2, .int (Int32.ofInt 0)), (7, .int (Int32.ofInt (xat n f (i + 1)))), (6, .int (Int32.ofInt (xat n f i))), (1, .int (Int32.ofInt ((D + 1 : Nat) : Int))), (3, .int (Int32.ofInt (cnt : Int))), (5, .int (Int32.ofInt (400 + (n : Int)))), (0, .ref 165)]) rfl rfl rfl ?_
                          refine xr_steps (pc' := 21) (L' := [(4, .int (Int32.ofInt ((400 + (i : Int)) + 4))), (2, .int (Int32.ofInt 0)), (7, .int (Int32.ofInt (xat n f (i + 1)))), (6, .int (Int32.ofInt (xat n f i))), (1, .int (Int32.ofInt ((D + 1 : Nat) : Int))), (3, .int (Int32.ofInt (cnt : Int))), (5, .int (Int32.ofInt (400 + (n : Int)))), (0, .ref 165)]) (st' := []) 2 rfl ?_
                          refine xr_loc (L := [(1, .int (Int32.ofInt ((D + 1 : Nat) : Int))), (2, .int (Int32.ofInt 0)), (3, .int (Int32.ofInt (cnt : Int))), (4, .int (Int32.ofInt ((400 + (i : Int)) + 4))), (5, .int (Int32.ofInt (400 + (n : Int)))), (0, .ref 165)]) (show [1, 2, 3, 4, 5, 0].Nodup by decide) ⟨rfl, rfl, rfl, rfl, rfl, rfl, trivial⟩ ?_
                          rw [show 400 + (i : Int) + 4 = 400 + ((i + 4 : Nat) : Int) by omega]
                          refine hgo c ke (by omega) (by unfold xpk; omega) ?_ hke.symm
                          rcases hb01 with h | h
                          · omega
                          · exact h.2
                        · refine xr_steps (pc' := 232) (L' := [(7, .int (Int32.ofInt (xat n f (i + 1)))), (6, .int (Int32.ofInt (xat n f i))), (1, .int (Int32.ofInt ((D + 1 : Nat) : Int))), (2, .int (Int32.ofInt 4)), (3, .int (Int32.ofInt (cnt : Int))), (4, .int (Int32.ofInt (400 + (i : Int)))), (5, .int (Int32.ofInt (400 + (n : Int)))), (0, .ref 165)]) (st' := [.int (Int32.ofInt (-1))]) 1 rfl ?_
                          refine xr_retI2 rfl rfl (hbad (fun h => ?_))
                          have := h.2 c (by omega)
                          rcases hb01 with h | h
                          · exact this h.2
                          · omega
            · exfalso; omega
          · refine xr_steps (pc' := 62) (L' := [(6, .int (Int32.ofInt (xat n f i))), (1, .int (Int32.ofInt ((D + 1 : Nat) : Int))), (2, .int (Int32.ofInt 4)), (3, .int (Int32.ofInt (cnt : Int))), (4, .int (Int32.ofInt (400 + (i : Int)))), (5, .int (Int32.ofInt (400 + (n : Int)))), (0, .ref 165)]) (st' := [.int (Int32.ofInt 1), .int (Int32.ofInt 4)]) 2 rfl ?_
            refine xr_icmp_eq rfl (by omega) (by omega) (fun z72 => ?_) (fun z72 => ?_)
            · exfalso; omega
            · refine xr_steps (pc' := 67) (L' := [(6, .int (Int32.ofInt (xat n f i))), (1, .int (Int32.ofInt ((D + 1 : Nat) : Int))), (2, .int (Int32.ofInt 4)), (3, .int (Int32.ofInt (cnt : Int))), (4, .int (Int32.ofInt (400 + (i : Int)))), (5, .int (Int32.ofInt (400 + (n : Int)))), (0, .ref 165)]) (st' := [.int (Int32.ofInt 3), .int (Int32.ofInt 4)]) 2 rfl ?_
              refine xr_icmp_ne rfl (by omega) (by omega) (fun z73 => ?_) (fun z73 => ?_)
              · refine xr_steps (pc' := 114) (L' := [(6, .int (Int32.ofInt (xat n f i))), (1, .int (Int32.ofInt ((D + 1 : Nat) : Int))), (2, .int (Int32.ofInt 4)), (3, .int (Int32.ofInt (cnt : Int))), (4, .int (Int32.ofInt (400 + (i : Int)))), (5, .int (Int32.ofInt (400 + (n : Int)))), (0, .ref 165)]) (st' := [.int (Int32.ofInt 1), .int (Int32.ofInt 4)]) 2 rfl ?_
                refine xr_icmp_ne rfl (by omega) (by omega) (fun z74 => ?_) (fun z74 => ?_)
                · refine xr_steps (pc' := 157) (L' := [(6, .int (Int32.ofInt (xat n f i))), (1, .int (Int32.ofInt ((D + 1 : Nat) : Int))), (2, .int (Int32.ofInt 4)), (3, .int (Int32.ofInt (cnt : Int))), (4, .int (Int32.ofInt (400 + (i : Int)))), (5, .int (Int32.ofInt (400 + (n : Int)))), (0, .ref 165)]) (st' := [.int (Int32.ofInt 2), .int (Int32.ofInt 4)]) 2 rfl ?_
                  refine xr_icmp_le rfl (by omega) (by omega) (fun z75 => ?_) (fun z75 => ?_)
                  · exfalso; omega
                  · refine xr_steps (pc' := 164) (L' := [(6, .int (Int32.ofInt (xat n f i))), (1, .int (Int32.ofInt ((D + 1 : Nat) : Int))), (2, .int (Int32.ofInt 4)), (3, .int (Int32.ofInt (cnt : Int))), (4, .int (Int32.ofInt (400 + (i : Int)))), (5, .int (Int32.ofInt (400 + (n : Int)))), (0, .ref 165)]) (st' := [.int (Int32.ofInt 1), .int (Int32.ofInt (400 + (i : Int))), .ref 165]) 3 rfl ?_
                    refine xr_iadd rfl ?_
                    refine xr_call (q := (.invokevirtual 103, 3, 209, 2)) (av := [.ref 165, .int (Int32.ofInt ((400 + (i : Int)) + 1))]) (rest := []) rfl rfl (by decide) rfl (ym_rcv hA rfl) (Nat.le_of_ble_eq_true rfl) (mo_209t (i := i + 1) hA hx (by omega) (by omega)) ?_
                    rintro _ _ ⟨rfl, eA⟩
                    rw [eA]
                    clear eA
                    have hx76 := xtx_ye hx (i + 1)
                    refine xr_steps (pc' := 174) (L' := [(7, .int (Int32.ofInt (xat n f (i + 1)))), (6, .int (Int32.ofInt (xat n f i))), (1, .int (Int32.ofInt ((D + 1 : Nat) : Int))), (2, .int (Int32.ofInt 4)), (3, .int (Int32.ofInt (cnt : Int))), (4, .int (Int32.ofInt (400 + (i : Int)))), (5, .int (Int32.ofInt (400 + (n : Int)))), (0, .ref 165)]) (st' := [.int (Int32.ofInt 34), .int (Int32.ofInt (xat n f i))]) 3 rfl ?_
                    refine xr_icmp_ne rfl (by omega) (by omega) (fun z77 => ?_) (fun z77 => ?_)
                    · refine xr_steps (pc' := 232) (L' := [(7, .int (Int32.ofInt (xat n f (i + 1)))), (6, .int (Int32.ofInt (xat n f i))), (1, .int (Int32.ofInt ((D + 1 : Nat) : Int))), (2, .int (Int32.ofInt 4)), (3, .int (Int32.ofInt (cnt : Int))), (4, .int (Int32.ofInt (400 + (i : Int)))), (5, .int (Int32.ofInt (400 + (n : Int)))), (0, .ref 165)]) (st' := [.int (Int32.ofInt (-1))]) 1 rfl ?_
                      first
                        | exact xr_retI2 rfl rfl (hbad (fun h => by unfold xpk at h; omega))
                        | (exfalso; omega)
                    · refine xr_steps (pc' := 179) (L' := [(7, .int (Int32.ofInt (xat n f (i + 1)))), (6, .int (Int32.ofInt (xat n f i))), (1, .int (Int32.ofInt ((D + 1 : Nat) : Int))), (2, .int (Int32.ofInt 4)), (3, .int (Int32.ofInt (cnt : Int))), (4, .int (Int32.ofInt (400 + (i : Int)))), (5, .int (Int32.ofInt (400 + (n : Int)))), (0, .ref 165)]) (st' := [.int (Int32.ofInt (xat n f (i + 1)))]) 1 rfl ?_
                      obtain ⟨bl, hbl⟩ := mo_bool (97 ≤ xat n f (i + 1) ∧ xat n f (i + 1) ≤ 122)
                      refine xr_call (q := (.invokestatic 111, 3, 210, 1)) (av := [.int (Int32.ofInt (xat n f (i + 1)))]) (rest := []) rfl rfl (by decide) rfl rfl (Nat.le_of_ble_eq_true rfl) (mo_210 (by omega) hbl) ?_
                      rintro _ _ ⟨rfl, eA⟩
                      rw [eA]
                      clear eA
                      refine xr_if_eq rfl (by omega) (fun z78 => ?_) (fun z78 => ?_)
                      · refine xr_steps (pc' := 232) (L' := [(7, .int (Int32.ofInt (xat n f (i + 1)))), (6, .int (Int32.ofInt (xat n f i))), (1, .int (Int32.ofInt ((D + 1 : Nat) : Int))), (2, .int (Int32.ofInt 4)), (3, .int (Int32.ofInt (cnt : Int))), (4, .int (Int32.ofInt (400 + (i : Int)))), (5, .int (Int32.ofInt (400 + (n : Int)))), (0, .ref 165)]) (st' := [.int (Int32.ofInt (-1))]) 1 rfl ?_
                        first
                          | exact xr_retI2 rfl rfl (hbad (fun h => by unfold xpk at h; omega))
                          | (exfalso; omega)
                      · refine xr_steps (pc' := 189) (L' := [(7, .int (Int32.ofInt (xat n f (i + 1)))), (6, .int (Int32.ofInt (xat n f i))), (1, .int (Int32.ofInt ((D + 1 : Nat) : Int))), (2, .int (Int32.ofInt 4)), (3, .int (Int32.ofInt (cnt : Int))), (4, .int (Int32.ofInt (400 + (i : Int)))), (5, .int (Int32.ofInt (400 + (n : Int)))), (0, .ref 165)]) (st' := [.int (Int32.ofInt 2), .int (Int32.ofInt (400 + (i : Int))), .ref 165]) 3 rfl ?_
                        refine xr_iadd rfl ?_
                        refine xr_call (q := (.invokevirtual 103, 3, 209, 2)) (av := [.ref 165, .int (Int32.ofInt ((400 + (i : Int)) + 2))]) (rest := []) rfl rfl (by decide) rfl (ym_rcv hA rfl) (Nat.le_of_ble_eq_true rfl) (mo_209t (i := i + 2) hA hx (by omega) (by omega)) ?_
                        rintro _ _ ⟨rfl, eA⟩
                        rw [eA]
                        clear eA
                        have hx79 := xtx_ye hx (i + 2)
                        refine xr_steps (pc' := 195) (L' := [(7, .int (Int32.ofInt (xat n f (i + 1)))), (6, .int (Int32.ofInt (xat n f i))), (1, .int (Int32.ofInt ((D + 1 : Nat) : Int))), (2, .int (Int32.ofInt 4)), (3, .int (Int32.ofInt (cnt : Int))), (4, .int (Int32.ofInt (400 + (i : Int)))), (5, .int (Int32.ofInt (400 + (n : Int)))), (0, .ref 165)]) (st' := [.int (Int32.ofInt 34), .int (Int32.ofInt (xat n f (i + 2)))]) 1 rfl ?_
                        refine xr_icmp_ne rfl (by omega) (by omega) (fun z80 => ?_) (fun z80 => ?_)
                        · refine xr_steps (pc' := 232) (L' := [(7, .int (Int32.ofInt (xat n f (i + 1)))), (6, .int (Int32.ofInt (xat n f i))), (1, .int (Int32.ofInt ((D + 1 : Nat) : Int))), (2, .int (Int32.ofInt 4)), (3, .int (Int32.ofInt (cnt : Int))), (4, .int (Int32.ofInt (400 + (i : Int)))), (5, .int (Int32.ofInt (400 + (n : Int)))), (0, .ref 165)]) (st' := [.int (Int32.ofInt (-1))]) 1 rfl ?_
                          first
                            | exact xr_retI2 rfl rfl (hbad (fun h => by unfold xpk at h; omega))
                            | (exfalso; omega)
                        · refine xr_steps (pc' := 202) (L' := [(7, .int (Int32.ofInt (xat n f (i + 1)))), (6, .int (Int32.ofInt (xat n f i))), (1, .int (Int32.ofInt ((D + 1 : Nat) : Int))), (2, .int (Int32.ofInt 4)), (3, .int (Int32.ofInt (cnt : Int))), (4, .int (Int32.ofInt (400 + (i : Int)))), (5, .int (Int32.ofInt (400 + (n : Int)))), (0, .ref 165)]) (st' := [.int (Int32.ofInt 3), .int (Int32.ofInt (400 + (i : Int))), .ref 165]) 3 rfl ?_
                          refine xr_iadd rfl ?_
                          refine xr_call (q := (.invokevirtual 103, 3, 209, 2)) (av := [.ref 165, .int (Int32.ofInt ((400 + (i : Int)) + 3))]) (rest := []) rfl rfl (by decide) rfl (ym_rcv hA rfl) (Nat.le_of_ble_eq_true rfl) (mo_209t (i := i + 3) hA hx (by omega) (by omega)) ?_
                          rintro _ _ ⟨rfl, eA⟩
                          rw [eA]
                          clear eA
                          have hx81 := xtx_ye hx (i + 3)
                          refine xr_steps (pc' := 208) (L' := [(7, .int (Int32.ofInt (xat n f (i + 1)))), (6, .int (Int32.ofInt (xat n f i))), (1, .int (Int32.ofInt ((D + 1 : Nat) : Int))), (2, .int (Int32.ofInt 4)), (3, .int (Int32.ofInt (cnt : Int))), (4, .int (Int32.ofInt (400 + (i : Int)))), (5, .int (Int32.ofInt (400 + (n : Int)))), (0, .ref 165)]) (st' := [.int (Int32.ofInt 58), .int (Int32.ofInt (xat n f (i + 3)))]) 1 rfl ?_
                          refine xr_icmp_ne rfl (by omega) (by omega) (fun z82 => ?_) (fun z82 => ?_)
                          · refine xr_steps (pc' := 232) (L' := [(7, .int (Int32.ofInt (xat n f (i + 1)))), (6, .int (Int32.ofInt (xat n f i))), (1, .int (Int32.ofInt ((D + 1 : Nat) : Int))), (2, .int (Int32.ofInt 4)), (3, .int (Int32.ofInt (cnt : Int))), (4, .int (Int32.ofInt (400 + (i : Int)))), (5, .int (Int32.ofInt (400 + (n : Int)))), (0, .ref 165)]) (st' := [.int (Int32.ofInt (-1))]) 1 rfl ?_
                            first
                              | exact xr_retI2 rfl rfl (hbad (fun h => by unfold xpk at h; omega))
                              | (exfalso; omega)
                          · refine xr_steps (pc' := 212) (L' := [(7, .int (Int32.ofInt (xat n f (i + 1)))), (6, .int (Int32.ofInt (xat n f i))), (1, .int (Int32.ofInt ((D + 1 : Nat) : Int))), (2, .int (Int32.ofInt 4)), (3, .int (Int32.ofInt (cnt : Int))), (4, .int (Int32.ofInt (400 + (i : Int)))), (5, .int (Int32.ofInt (400 + (n : Int)))), (0, .ref 165)]) (st' := [.ref 165]) 1 rfl ?_
                            refine xr_getf (v := .ref 179) rfl (ym_165 hA) rfl ?_
                            refine xr_steps (pc' := 217) (L' := [(7, .int (Int32.ofInt (xat n f (i + 1)))), (6, .int (Int32.ofInt (xat n f i))), (1, .int (Int32.ofInt ((D + 1 : Nat) : Int))), (2, .int (Int32.ofInt 4)), (3, .int (Int32.ofInt (cnt : Int))), (4, .int (Int32.ofInt (400 + (i : Int)))), (5, .int (Int32.ofInt (400 + (n : Int)))), (0, .ref 165)]) (st' := [.int (Int32.ofInt 1), .int (Int32.ofInt ((D + 1 : Nat) : Int)), .ref 179]) 2 rfl ?_
                            refine xr_isub rfl ?_
                            rw [show ((D + 1 : Nat) : Int) - 1 = (D : Int) by omega]
                            refine ym_iaload (e := T 179 (D : Int).toNat) hA rfl rfl (by decide) (by omega) (by omega) rfl ?_
                            rw [show (D : Int).toNat = D by omega]
                            refine xr_steps (pc' := 223) (L' := [(7, .int (Int32.ofInt (xat n f (i + 1)))), (6, .int (Int32.ofInt (xat n f i))), (1, .int (Int32.ofInt ((D + 1 : Nat) : Int))), (2, .int (Int32.ofInt 4)), (3, .int (Int32.ofInt (cnt : Int))), (4, .int (Int32.ofInt (400 + (i : Int)))), (5, .int (Int32.ofInt (400 + (n : Int)))), (0, .ref 165)]) (st' := [.int (Int32.ofInt 97), .int (Int32.ofInt (xat n f (i + 1))), .int (Int32.ofInt (T 179 D))]) 2 rfl ?_
                            refine xr_isub rfl ?_
                            obtain ⟨c, hc⟩ : ∃ c : Nat, xat n f (i + 1) - 97 = (c : Int) := ⟨(xat n f (i + 1) - 97).toNat, by omega⟩
                            rw [hc]
                            refine xr_steps (pc' := 227) (L' := [(7, .int (Int32.ofInt (xat n f (i + 1)))), (6, .int (Int32.ofInt (xat n f i))), (1, .int (Int32.ofInt ((D + 1 : Nat) : Int))), (2, .int (Int32.ofInt 4)), (3, .int (Int32.ofInt (cnt : Int))), (4, .int (Int32.ofInt (400 + (i : Int)))), (5, .int (Int32.ofInt (400 + (n : Int)))), (0, .ref 165)]) (st' := [.int ((Int32.ofInt (T 179 D) >>> (Int32.ofInt (c : Int) &&& 31)) &&& Int32.ofInt 1)]) 3 rfl ?_
                            rw [xbt_get _ (by omega)]
                            obtain ⟨bt, hbt⟩ : ∃ bt : Int, bt = if xbt (Int32.ofInt (T 179 D)) c = true then 1 else 0 := ⟨_, rfl⟩
                            rw [← hbt]
                            have hb01 : (bt = 1 ∧ xbt (Int32.ofInt (T 179 D)) c = true) ∨ (bt = 0 ∧ ¬ xbt (Int32.ofInt (T 179 D)) c = true) := by
                              rw [hbt]
                              by_cases hz : xbt (Int32.ofInt (T 179 D)) c = true
                              · rw [if_pos hz]; exact Or.inl ⟨rfl, hz⟩
                              · rw [if_neg hz]; exact Or.inr ⟨rfl, hz⟩
                            refine xr_steps (pc' := 228) (L' := [(7, .int (Int32.ofInt (xat n f (i + 1)))), (6, .int (Int32.ofInt (xat n f i))), (1, .int (Int32.ofInt ((D + 1 : Nat) : Int))), (2, .int (Int32.ofInt 4)), (3, .int (Int32.ofInt (cnt : Int))), (4, .int (Int32.ofInt (400 + (i : Int)))), (5, .int (Int32.ofInt (400 + (n : Int)))), (0, .ref 165)]) (st' := [.int (Int32.ofInt 1), .int (Int32.ofInt bt)]) 1 rfl ?_
                            refine xr_icmp_ne rfl (by omega) (by omega) (fun z83 => ?_) (fun z83 => ?_)
                            · refine xr_steps (pc' := 234) (L' := [(7, .int (Int32.ofInt (xat n f (i + 1)))), (6, .int (Int32.ofInt (xat n f i))), (1, .int (Int32.ofInt ((D + 1 : Nat) : Int))), (2, .int (Int32.ofInt 4)), (3, .int (Int32.ofInt (cnt : Int))), (4, .int (Int32.ofInt (400 + (i : Int)))), (5, .int (Int32.ofInt (400 + (n : Int)))), (0, .ref 165)]) (st' := [.ref 165]) 1 rfl ?_
                              refine xr_getf (v := .ref 179) rfl (ym_165 hA) rfl ?_
                              refine xr_steps (pc' := 239) (L' := [(7, .int (Int32.ofInt (xat n f (i + 1)))), (6, .int (Int32.ofInt (xat n f i))), (1, .int (Int32.ofInt ((D + 1 : Nat) : Int))), (2, .int (Int32.ofInt 4)), (3, .int (Int32.ofInt (cnt : Int))), (4, .int (Int32.ofInt (400 + (i : Int)))), (5, .int (Int32.ofInt (400 + (n : Int)))), (0, .ref 165)]) (st' := [.int (Int32.ofInt 1), .int (Int32.ofInt ((D + 1 : Nat) : Int)), .ref 179]) 2 rfl ?_
                              refine xr_isub rfl ?_
                              rw [show ((D + 1 : Nat) : Int) - 1 = (D : Int) by omega]
                              refine xr_steps (pc' := 241) (L' := [(7, .int (Int32.ofInt (xat n f (i + 1)))), (6, .int (Int32.ofInt (xat n f i))), (1, .int (Int32.ofInt ((D + 1 : Nat) : Int))), (2, .int (Int32.ofInt 4)), (3, .int (Int32.ofInt (cnt : Int))), (4, .int (Int32.ofInt (400 + (i : Int)))), (5, .int (Int32.ofInt (400 + (n : Int)))), (0, .ref 165)]) (st' := [.ref 165, .int (Int32.ofInt (D : Int)), .ref 179]) 1 rfl ?_
                              refine xr_getf (v := .ref 179) rfl (ym_165 hA) rfl ?_
                              refine xr_steps (pc' := 246) (L' := [(7, .int (Int32.ofInt (xat n f (i + 1)))), (6, .int (Int32.ofInt (xat n f i))), (1, .int (Int32.ofInt ((D + 1 : Nat) : Int))), (2, .int (Int32.ofInt 4)), (3, .int (Int32.ofInt (cnt : Int))), (4, .int (Int32.ofInt (400 + (i : Int)))), (5, .int (Int32.ofInt (400 + (n : Int)))), (0, .ref 165)]) (st' := [.int (Int32.ofInt 1), .int (Int32.ofInt ((D + 1 : Nat) : Int)), .ref 179, .int (Int32.ofInt (D : Int)), .ref 179]) 2 rfl ?_
                              refine xr_isub rfl ?_
                              rw [show ((D + 1 : Nat) : Int) - 1 = (D : Int) by omega]
                              refine ym_iaload (e := T 179 (D : Int).toNat) hA rfl rfl (by decide) (by omega) (by omega) rfl ?_
                              rw [show (D : Int).toNat = D by omega]
                              refine xr_steps (pc' := 253) (L' := [(7, .int (Int32.ofInt (xat n f (i + 1)))), (6, .int (Int32.ofInt (xat n f i))), (1, .int (Int32.ofInt ((D + 1 : Nat) : Int))), (2, .int (Int32.ofInt 4)), (3, .int (Int32.ofInt (cnt : Int))), (4, .int (Int32.ofInt (400 + (i : Int)))), (5, .int (Int32.ofInt (400 + (n : Int)))), (0, .ref 165)]) (st' := [.int (Int32.ofInt 97), .int (Int32.ofInt (xat n f (i + 1))), .int (Int32.ofInt 1), .int (Int32.ofInt (T 179 D)), .int (Int32.ofInt (D : Int)), .ref 179]) 3 rfl ?_
                              refine xr_isub rfl ?_
                              rw [hc]
                              refine xr_steps (pc' := 256) (L' := [(7, .int (Int32.ofInt (xat n f (i + 1)))), (6, .int (Int32.ofInt (xat n f i))), (1, .int (Int32.ofInt ((D + 1 : Nat) : Int))), (2, .int (Int32.ofInt 4)), (3, .int (Int32.ofInt (cnt : Int))), (4, .int (Int32.ofInt (400 + (i : Int)))), (5, .int (Int32.ofInt (400 + (n : Int)))), (0, .ref 165)]) (st' := [.int (Int32.ofInt (T 179 D) ||| (Int32.ofInt 1 <<< (Int32.ofInt (c : Int) &&& 31))), .int (Int32.ofInt (D : Int)), .ref 179]) 2 rfl ?_
                              obtain ⟨ke, hke⟩ : ∃ ke : Int, Int32.ofInt (T 179 D) ||| (Int32.ofInt 1 <<< (Int32.ofInt (c : Int) &&& 31)) = Int32.ofInt ke := ⟨_, (Int32.ofInt_toInt _).symm⟩
                              rw [hke]
                              refine ym_iastore hA rfl rfl (by decide) (by omega) (by omega) ?_
                              rw [show (D : Int).toNat = D by omega]
                              refine xr_steps (pc' := 259) (L' := [(2, .int (Int32.ofInt 0)), (7, .int (Int32.ofInt (xat n f (i + 1)))), (6, .int (Int32.ofInt (xat n f i))), (1, .int (Int32.ofInt ((D + 1 : Nat) : Int))), (3, .int (Int32.ofInt (cnt : Int))), (4, .int (Int32.ofInt (400 + (i : Int)))), (5, .int (Int32.ofInt (400 + (n : Int)))), (0, .ref 165)]) (st' := []) 2 rfl ?_
                              refine xr_iinc (L' := [(4, .int (Int32.ofInt ((400 + (i : Int)) + 4))), (2, .int (Int32.ofInt 0)), (7, .int (Int32.ofInt (xat n f (i + 1)))), (6, .int (Int32.ofInt (xat n f i))), (1, .int (Int32.ofInt ((D + 1 : Nat) : Int))), (3, .int (Int32.ofInt (cnt : Int))), (5, .int (Int32.ofInt (400 + (n : Int)))), (0, .ref 165)]) rfl rfl rfl ?_
                              refine xr_steps (pc' := 21) (L' := [(4, .int (Int32.ofInt ((400 + (i : Int)) + 4))), (2, .int (Int32.ofInt 0)), (7, .int (Int32.ofInt (xat n f (i + 1)))), (6, .int (Int32.ofInt (xat n f i))), (1, .int (Int32.ofInt ((D + 1 : Nat) : Int))), (3, .int (Int32.ofInt (cnt : Int))), (5, .int (Int32.ofInt (400 + (n : Int)))), (0, .ref 165)]) (st' := []) 2 rfl ?_
                              refine xr_loc (L := [(1, .int (Int32.ofInt ((D + 1 : Nat) : Int))), (2, .int (Int32.ofInt 0)), (3, .int (Int32.ofInt (cnt : Int))), (4, .int (Int32.ofInt ((400 + (i : Int)) + 4))), (5, .int (Int32.ofInt (400 + (n : Int)))), (0, .ref 165)]) (show [1, 2, 3, 4, 5, 0].Nodup by decide) ⟨rfl, rfl, rfl, rfl, rfl, rfl, trivial⟩ ?_
                              rw [show 400 + (i : Int) + 4 = 400 + ((i + 4 : Nat) : Int) by omega]
                              refine hgo c ke (by omega) (by unfold xpk; omega) ?_ hke.symm
                              rcases hb01 with h | h
                              · omega
                              · exact h.2
                            · refine xr_steps (pc' := 232) (L' := [(7, .int (Int32.ofInt (xat n f (i + 1)))), (6, .int (Int32.ofInt (xat n f i))), (1, .int (Int32.ofInt ((D + 1 : Nat) : Int))), (2, .int (Int32.ofInt 4)), (3, .int (Int32.ofInt (cnt : Int))), (4, .int (Int32.ofInt (400 + (i : Int)))), (5, .int (Int32.ofInt (400 + (n : Int)))), (0, .ref 165)]) (st' := [.int (Int32.ofInt (-1))]) 1 rfl ?_
                              refine xr_retI2 rfl rfl (hbad (fun h => ?_))
                              have := h.2 c (by omega)
                              rcases hb01 with h | h
                              · exact this h.2
                              · omega
                · exfalso; omega
              · exfalso; omega
end MV
