/-! The law's loop: its reads of the script, its cases, out of what the calls do -/
section YLR
variable {w : Value} {pc n : Nat} {L : xb_L} {st : List Value} {A : xb_H} {Q : Int32 → xb_H → Prop} {xs : Nat → Int32} {i : Int}
/-- script[i + j] is read -/
theorem yl_arg (j : Int) (hj : j = 1 ∨ j = 2) (h1 : xb_gP (xt_G w) 260 pc = some (.aload_n 0, 1, 0, 0)) (h2 : xb_gP (xt_G w) 260 (pc + 1) = some (.iload 4, 2, 0, 0)) (h3 : xb_gP (xt_G w) 260 (pc + 3) = some (.iconst j, 1, 0, 0)) (h4 : xb_gP (xt_G w) 260 (pc + 4) = some (.iadd, 1, 0, 0)) (h5 : xb_gP (xt_G w) 260 (pc + 5) = some (.iaload, 1, 0, 0))
    (hL0 : xb_ld L 0 = some (.ref 20)) (hL4 : xb_ld L 4 = some (.int (Int32.ofInt i))) (hA : xb_get A 20 = some (.inl (.int, n, .inl xs))) (hi : 0 ≤ i ∧ i + 3 ≤ n ∧ n ≤ 1536) (k : xl_ok (xt_G w) (pc + 6) L (.int (xs (i + j).toNat) :: st) A Q) : xl_ok (xt_G w) pc L st A Q := by
  refine xl_pure (r := (pc + 1, L, .ref 20 :: st, A)) h1 (Or.inl rfl) ?_ ?_
  · show xb_aldx pc 1 0 L A st = _
    unfold xb_aldx
    rw [hL0]
  refine xl_pure (r := (pc + 3, L, .int (Int32.ofInt i) :: .ref 20 :: st, A)) h2 (Or.inl rfl) ?_ ?_
  · show xb_ildx (pc + 1) 2 4 L A _ = _
    unfold xb_ildx
    rw [hL4]
  refine xl_pure (r := (pc + 4, L, .int (Int32.ofInt j) :: .int (Int32.ofInt i) :: .ref 20 :: st, A)) h3 (Or.inl rfl) rfl ?_
  refine xl_pure (r := (pc + 5, L, .int (Int32.ofInt (i + j)) :: .ref 20 :: st, A)) h4 (Or.inl rfl) ?_ ?_
  · rw [Int32.ofInt_add]
    rfl
  obtain ⟨e1, e2⟩ := xr_in (i := i + j) (n := n) (by omega) (by omega) (by omega)
  refine xl_pure (r := (pc + 6, L, .int (xs (i + j).toNat) :: st, A)) h5 (Or.inl rfl) ?_ k
  show xb_ial xb_isI (pc + 5) L A (.int (Int32.ofInt (i + j)) :: .ref 20 :: st) = _
  unfold xb_ial
  simp only [hA]
  rw [if_pos ⟨rfl, e1⟩, e2]
/-- two equal ints: the law goes on -/
theorem yl_eq {x : Int32} {off : Int} (h : xb_gP (xt_G w) 260 pc = some (.if_icmp .eq off, 3, 596, 0)) (k : xl_ok (xt_G w) 596 L st A Q) : xl_ok (xt_G w) pc L (.int x :: .int x :: st) A Q := by
  refine xl_pure (r := (596, L, st, A)) h (Or.inl rfl) ?_ k
  show some (if decide (x = x) = true then 596 else pc + 3, L, st, A) = _
  rw [if_pos (decide_eq_true rfl)]
end YLR
/-! the rows of the law, one by one -/
theorem yl_P32 (w : Value) : xb_gP (xt_G w) 260 32 = some (.aload_n 0, 1, 0, 0) := by rw [xd_gP]; decide +kernel
theorem yl_P33 (w : Value) : xb_gP (xt_G w) 260 33 = some (.iload 4, 2, 0, 0) := by rw [xd_gP]; decide +kernel
theorem yl_P35 (w : Value) : xb_gP (xt_G w) 260 35 = some (.iaload, 1, 0, 0) := by rw [xd_gP]; decide +kernel
theorem yl_P36 (w : Value) : xb_gP (xt_G w) 260 36 = some (.bipush 15, 2, 0, 0) := by rw [xd_gP]; decide +kernel
theorem yl_P38 (w : Value) : xb_gP (xt_G w) 260 38 = some (.iand, 1, 0, 0) := by rw [xd_gP]; decide +kernel
theorem yl_P100 (w : Value) : xb_gP (xt_G w) 260 100 = some (.aload_n 1, 1, 0, 0) := by rw [xd_gP]; decide +kernel
theorem yl_P101 (w : Value) : xb_gP (xt_G w) 260 101 = some (.aload_n 0, 1, 0, 0) := by rw [xd_gP]; decide +kernel
theorem yl_P102 (w : Value) : xb_gP (xt_G w) 260 102 = some (.iload 4, 2, 0, 0) := by rw [xd_gP]; decide +kernel
theorem yl_P104 (w : Value) : xb_gP (xt_G w) 260 104 = some (.iconst 1, 1, 0, 0) := by rw [xd_gP]; decide +kernel
theorem yl_P105 (w : Value) : xb_gP (xt_G w) 260 105 = some (.iadd, 1, 0, 0) := by rw [xd_gP]; decide +kernel
theorem yl_P106 (w : Value) : xb_gP (xt_G w) 260 106 = some (.iaload, 1, 0, 0) := by rw [xd_gP]; decide +kernel
theorem yl_P107 (w : Value) : xb_gP (xt_G w) 260 107 = some (.i2l, 1, 0, 0) := by rw [xd_gP]; decide +kernel
theorem yl_P108 (w : Value) : xb_gP (xt_G w) 260 108 = some (.bipush 32, 2, 0, 0) := by rw [xd_gP]; decide +kernel
theorem yl_P110 (w : Value) : xb_gP (xt_G w) 260 110 = some (.lshl, 1, 0, 0) := by rw [xd_gP]; decide +kernel
theorem yl_P111 (w : Value) : xb_gP (xt_G w) 260 111 = some (.aload_n 0, 1, 0, 0) := by rw [xd_gP]; decide +kernel
theorem yl_P112 (w : Value) : xb_gP (xt_G w) 260 112 = some (.iload 4, 2, 0, 0) := by rw [xd_gP]; decide +kernel
theorem yl_P114 (w : Value) : xb_gP (xt_G w) 260 114 = some (.iconst 2, 1, 0, 0) := by rw [xd_gP]; decide +kernel
theorem yl_P115 (w : Value) : xb_gP (xt_G w) 260 115 = some (.iadd, 1, 0, 0) := by rw [xd_gP]; decide +kernel
theorem yl_P116 (w : Value) : xb_gP (xt_G w) 260 116 = some (.iaload, 1, 0, 0) := by rw [xd_gP]; decide +kernel
theorem yl_P117 (w : Value) : xb_gP (xt_G w) 260 117 = some (.i2l, 1, 0, 0) := by rw [xd_gP]; decide +kernel
theorem yl_P118 (w : Value) : xb_gP (xt_G w) 260 118 = some (.ldc2_w 31, 3, 8, 0) := by rw [xd_gP]; decide +kernel
theorem yl_P121 (w : Value) : xb_gP (xt_G w) 260 121 = some (.land, 1, 0, 0) := by rw [xd_gP]; decide +kernel
theorem yl_P122 (w : Value) : xb_gP (xt_G w) 260 122 = some (.lor, 1, 0, 0) := by rw [xd_gP]; decide +kernel
theorem yl_P123 (w : Value) : xb_gP (xt_G w) 260 123 = some (.invokevirtual 33, 3, 11, 2) := by rw [xd_gP]; decide +kernel
theorem yl_P126 (w : Value) : xb_gP (xt_G w) 260 126 = some (.aload_n 2, 1, 0, 0) := by rw [xd_gP]; decide +kernel
theorem yl_P127 (w : Value) : xb_gP (xt_G w) 260 127 = some (.aload_n 0, 1, 0, 0) := by rw [xd_gP]; decide +kernel
theorem yl_P128 (w : Value) : xb_gP (xt_G w) 260 128 = some (.iload 4, 2, 0, 0) := by rw [xd_gP]; decide +kernel
theorem yl_P130 (w : Value) : xb_gP (xt_G w) 260 130 = some (.iconst 1, 1, 0, 0) := by rw [xd_gP]; decide +kernel
theorem yl_P131 (w : Value) : xb_gP (xt_G w) 260 131 = some (.iadd, 1, 0, 0) := by rw [xd_gP]; decide +kernel
theorem yl_P132 (w : Value) : xb_gP (xt_G w) 260 132 = some (.iaload, 1, 0, 0) := by rw [xd_gP]; decide +kernel
theorem yl_P133 (w : Value) : xb_gP (xt_G w) 260 133 = some (.i2l, 1, 0, 0) := by rw [xd_gP]; decide +kernel
theorem yl_P134 (w : Value) : xb_gP (xt_G w) 260 134 = some (.bipush 32, 2, 0, 0) := by rw [xd_gP]; decide +kernel
theorem yl_P136 (w : Value) : xb_gP (xt_G w) 260 136 = some (.lshl, 1, 0, 0) := by rw [xd_gP]; decide +kernel
theorem yl_P137 (w : Value) : xb_gP (xt_G w) 260 137 = some (.aload_n 0, 1, 0, 0) := by rw [xd_gP]; decide +kernel
theorem yl_P138 (w : Value) : xb_gP (xt_G w) 260 138 = some (.iload 4, 2, 0, 0) := by rw [xd_gP]; decide +kernel
theorem yl_P140 (w : Value) : xb_gP (xt_G w) 260 140 = some (.iconst 2, 1, 0, 0) := by rw [xd_gP]; decide +kernel
theorem yl_P141 (w : Value) : xb_gP (xt_G w) 260 141 = some (.iadd, 1, 0, 0) := by rw [xd_gP]; decide +kernel
theorem yl_P142 (w : Value) : xb_gP (xt_G w) 260 142 = some (.iaload, 1, 0, 0) := by rw [xd_gP]; decide +kernel
theorem yl_P143 (w : Value) : xb_gP (xt_G w) 260 143 = some (.i2l, 1, 0, 0) := by rw [xd_gP]; decide +kernel
theorem yl_P144 (w : Value) : xb_gP (xt_G w) 260 144 = some (.ldc2_w 31, 3, 8, 0) := by rw [xd_gP]; decide +kernel
theorem yl_P147 (w : Value) : xb_gP (xt_G w) 260 147 = some (.land, 1, 0, 0) := by rw [xd_gP]; decide +kernel
theorem yl_P148 (w : Value) : xb_gP (xt_G w) 260 148 = some (.lor, 1, 0, 0) := by rw [xd_gP]; decide +kernel
theorem yl_P149 (w : Value) : xb_gP (xt_G w) 260 149 = some (.invokevirtual 37, 3, 205, 2) := by rw [xd_gP]; decide +kernel
theorem yl_P152 (w : Value) : xb_gP (xt_G w) 260 152 = some (.if_icmp .eq 444, 3, 596, 0) := by rw [xd_gP]; decide +kernel
theorem yl_P155 (w : Value) : xb_gP (xt_G w) 260 155 = some (.iconst 0, 1, 0, 0) := by rw [xd_gP]; decide +kernel
theorem yl_P156 (w : Value) : xb_gP (xt_G w) 260 156 = some (.ireturn, 1, 0, 0) := by rw [xd_gP]; decide +kernel
theorem yl_P157 (w : Value) : xb_gP (xt_G w) 260 157 = some (.aload_n 1, 1, 0, 0) := by rw [xd_gP]; decide +kernel
theorem yl_P158 (w : Value) : xb_gP (xt_G w) 260 158 = some (.aload_n 0, 1, 0, 0) := by rw [xd_gP]; decide +kernel
theorem yl_P159 (w : Value) : xb_gP (xt_G w) 260 159 = some (.iload 4, 2, 0, 0) := by rw [xd_gP]; decide +kernel
theorem yl_P161 (w : Value) : xb_gP (xt_G w) 260 161 = some (.iconst 1, 1, 0, 0) := by rw [xd_gP]; decide +kernel
theorem yl_P162 (w : Value) : xb_gP (xt_G w) 260 162 = some (.iadd, 1, 0, 0) := by rw [xd_gP]; decide +kernel
theorem yl_P163 (w : Value) : xb_gP (xt_G w) 260 163 = some (.iaload, 1, 0, 0) := by rw [xd_gP]; decide +kernel
theorem yl_P164 (w : Value) : xb_gP (xt_G w) 260 164 = some (.ifCond .eq 7, 3, 171, 0) := by rw [xd_gP]; decide +kernel
theorem yl_P167 (w : Value) : xb_gP (xt_G w) 260 167 = some (.iconst 1, 1, 0, 0) := by rw [xd_gP]; decide +kernel
theorem yl_P168 (w : Value) : xb_gP (xt_G w) 260 168 = some (.goto 4, 3, 172, 0) := by rw [xd_gP]; decide +kernel
theorem yl_P171 (w : Value) : xb_gP (xt_G w) 260 171 = some (.iconst 0, 1, 0, 0) := by rw [xd_gP]; decide +kernel
theorem yl_P172 (w : Value) : xb_gP (xt_G w) 260 172 = some (.aload_n 3, 1, 0, 0) := by rw [xd_gP]; decide +kernel
theorem yl_P176 (w : Value) : xb_gP (xt_G w) 260 176 = some (.istore 5, 2, 0, 0) := by rw [xd_gP]; decide +kernel
theorem yl_P178 (w : Value) : xb_gP (xt_G w) 260 178 = some (.aload_n 2, 1, 0, 0) := by rw [xd_gP]; decide +kernel
theorem yl_P179 (w : Value) : xb_gP (xt_G w) 260 179 = some (.aload_n 0, 1, 0, 0) := by rw [xd_gP]; decide +kernel
theorem yl_P180 (w : Value) : xb_gP (xt_G w) 260 180 = some (.iload 4, 2, 0, 0) := by rw [xd_gP]; decide +kernel
theorem yl_P182 (w : Value) : xb_gP (xt_G w) 260 182 = some (.iconst 1, 1, 0, 0) := by rw [xd_gP]; decide +kernel
theorem yl_P183 (w : Value) : xb_gP (xt_G w) 260 183 = some (.iadd, 1, 0, 0) := by rw [xd_gP]; decide +kernel
theorem yl_P184 (w : Value) : xb_gP (xt_G w) 260 184 = some (.iaload, 1, 0, 0) := by rw [xd_gP]; decide +kernel
theorem yl_P185 (w : Value) : xb_gP (xt_G w) 260 185 = some (.ifCond .eq 7, 3, 192, 0) := by rw [xd_gP]; decide +kernel
theorem yl_P188 (w : Value) : xb_gP (xt_G w) 260 188 = some (.iconst 1, 1, 0, 0) := by rw [xd_gP]; decide +kernel
theorem yl_P189 (w : Value) : xb_gP (xt_G w) 260 189 = some (.goto 4, 3, 193, 0) := by rw [xd_gP]; decide +kernel
theorem yl_P192 (w : Value) : xb_gP (xt_G w) 260 192 = some (.iconst 0, 1, 0, 0) := by rw [xd_gP]; decide +kernel
theorem yl_P193 (w : Value) : xb_gP (xt_G w) 260 193 = some (.invokevirtual 43, 3, 206, 2) := by rw [xd_gP]; decide +kernel
theorem yl_P196 (w : Value) : xb_gP (xt_G w) 260 196 = some (.istore 6, 2, 0, 0) := by rw [xd_gP]; decide +kernel
theorem yl_P198 (w : Value) : xb_gP (xt_G w) 260 198 = some (.aload_n 2, 1, 0, 0) := by rw [xd_gP]; decide +kernel
theorem yl_P199 (w : Value) : xb_gP (xt_G w) 260 199 = some (.invokevirtual 44, 3, 204, 1) := by rw [xd_gP]; decide +kernel
theorem yl_P202 (w : Value) : xb_gP (xt_G w) 260 202 = some (.iload 5, 2, 0, 0) := by rw [xd_gP]; decide +kernel
theorem yl_P204 (w : Value) : xb_gP (xt_G w) 260 204 = some (.if_icmp .eq 5, 3, 209, 0) := by rw [xd_gP]; decide +kernel
theorem yl_P207 (w : Value) : xb_gP (xt_G w) 260 207 = some (.iconst 0, 1, 0, 0) := by rw [xd_gP]; decide +kernel
theorem yl_P208 (w : Value) : xb_gP (xt_G w) 260 208 = some (.ireturn, 1, 0, 0) := by rw [xd_gP]; decide +kernel
theorem yl_P209 (w : Value) : xb_gP (xt_G w) 260 209 = some (.iload 5, 2, 0, 0) := by rw [xd_gP]; decide +kernel
theorem yl_P211 (w : Value) : xb_gP (xt_G w) 260 211 = some (.ifCond .ne 15, 3, 226, 0) := by rw [xd_gP]; decide +kernel
theorem yl_P214 (w : Value) : xb_gP (xt_G w) 260 214 = some (.aload_n 3, 1, 0, 0) := by rw [xd_gP]; decide +kernel
theorem yl_P215 (w : Value) : xb_gP (xt_G w) 260 215 = some (.iconst 0, 1, 0, 0) := by rw [xd_gP]; decide +kernel
theorem yl_P216 (w : Value) : xb_gP (xt_G w) 260 216 = some (.laload, 1, 0, 0) := by rw [xd_gP]; decide +kernel
theorem yl_P217 (w : Value) : xb_gP (xt_G w) 260 217 = some (.iload 6, 2, 0, 0) := by rw [xd_gP]; decide +kernel
theorem yl_P219 (w : Value) : xb_gP (xt_G w) 260 219 = some (.i2l, 1, 0, 0) := by rw [xd_gP]; decide +kernel
theorem yl_P220 (w : Value) : xb_gP (xt_G w) 260 220 = some (.lcmp, 1, 0, 0) := by rw [xd_gP]; decide +kernel
theorem yl_P221 (w : Value) : xb_gP (xt_G w) 260 221 = some (.ifCond .eq 5, 3, 226, 0) := by rw [xd_gP]; decide +kernel
theorem yl_P224 (w : Value) : xb_gP (xt_G w) 260 224 = some (.iconst 0, 1, 0, 0) := by rw [xd_gP]; decide +kernel
theorem yl_P225 (w : Value) : xb_gP (xt_G w) 260 225 = some (.ireturn, 1, 0, 0) := by rw [xd_gP]; decide +kernel
theorem yl_P226 (w : Value) : xb_gP (xt_G w) 260 226 = some (.goto 370, 3, 596, 0) := by rw [xd_gP]; decide +kernel
theorem yl_P229 (w : Value) : xb_gP (xt_G w) 260 229 = some (.aload_n 1, 1, 0, 0) := by rw [xd_gP]; decide +kernel
theorem yl_P230 (w : Value) : xb_gP (xt_G w) 260 230 = some (.aload_n 0, 1, 0, 0) := by rw [xd_gP]; decide +kernel
theorem yl_P231 (w : Value) : xb_gP (xt_G w) 260 231 = some (.iload 4, 2, 0, 0) := by rw [xd_gP]; decide +kernel
theorem yl_P233 (w : Value) : xb_gP (xt_G w) 260 233 = some (.iconst 1, 1, 0, 0) := by rw [xd_gP]; decide +kernel
theorem yl_P234 (w : Value) : xb_gP (xt_G w) 260 234 = some (.iadd, 1, 0, 0) := by rw [xd_gP]; decide +kernel
theorem yl_P235 (w : Value) : xb_gP (xt_G w) 260 235 = some (.iaload, 1, 0, 0) := by rw [xd_gP]; decide +kernel
theorem yl_P236 (w : Value) : xb_gP (xt_G w) 260 236 = some (.aload_n 3, 1, 0, 0) := by rw [xd_gP]; decide +kernel
theorem yl_P240 (w : Value) : xb_gP (xt_G w) 260 240 = some (.istore 5, 2, 0, 0) := by rw [xd_gP]; decide +kernel
theorem yl_P242 (w : Value) : xb_gP (xt_G w) 260 242 = some (.aload_n 2, 1, 0, 0) := by rw [xd_gP]; decide +kernel
theorem yl_P243 (w : Value) : xb_gP (xt_G w) 260 243 = some (.aload_n 0, 1, 0, 0) := by rw [xd_gP]; decide +kernel
theorem yl_P244 (w : Value) : xb_gP (xt_G w) 260 244 = some (.iload 4, 2, 0, 0) := by rw [xd_gP]; decide +kernel
theorem yl_P246 (w : Value) : xb_gP (xt_G w) 260 246 = some (.iconst 1, 1, 0, 0) := by rw [xd_gP]; decide +kernel
theorem yl_P247 (w : Value) : xb_gP (xt_G w) 260 247 = some (.iadd, 1, 0, 0) := by rw [xd_gP]; decide +kernel
theorem yl_P248 (w : Value) : xb_gP (xt_G w) 260 248 = some (.iaload, 1, 0, 0) := by rw [xd_gP]; decide +kernel
theorem yl_P249 (w : Value) : xb_gP (xt_G w) 260 249 = some (.invokevirtual 51, 3, 207, 2) := by rw [xd_gP]; decide +kernel
theorem yl_P252 (w : Value) : xb_gP (xt_G w) 260 252 = some (.istore 6, 2, 0, 0) := by rw [xd_gP]; decide +kernel
theorem yl_P254 (w : Value) : xb_gP (xt_G w) 260 254 = some (.aload_n 2, 1, 0, 0) := by rw [xd_gP]; decide +kernel
theorem yl_P255 (w : Value) : xb_gP (xt_G w) 260 255 = some (.invokevirtual 44, 3, 204, 1) := by rw [xd_gP]; decide +kernel
theorem yl_P258 (w : Value) : xb_gP (xt_G w) 260 258 = some (.iload 5, 2, 0, 0) := by rw [xd_gP]; decide +kernel
theorem yl_P260 (w : Value) : xb_gP (xt_G w) 260 260 = some (.if_icmp .eq 5, 3, 265, 0) := by rw [xd_gP]; decide +kernel
theorem yl_P263 (w : Value) : xb_gP (xt_G w) 260 263 = some (.iconst 0, 1, 0, 0) := by rw [xd_gP]; decide +kernel
theorem yl_P264 (w : Value) : xb_gP (xt_G w) 260 264 = some (.ireturn, 1, 0, 0) := by rw [xd_gP]; decide +kernel
theorem yl_P265 (w : Value) : xb_gP (xt_G w) 260 265 = some (.iload 5, 2, 0, 0) := by rw [xd_gP]; decide +kernel
theorem yl_P267 (w : Value) : xb_gP (xt_G w) 260 267 = some (.ifCond .ne 15, 3, 282, 0) := by rw [xd_gP]; decide +kernel
theorem yl_P270 (w : Value) : xb_gP (xt_G w) 260 270 = some (.aload_n 3, 1, 0, 0) := by rw [xd_gP]; decide +kernel
theorem yl_P271 (w : Value) : xb_gP (xt_G w) 260 271 = some (.iconst 0, 1, 0, 0) := by rw [xd_gP]; decide +kernel
theorem yl_P272 (w : Value) : xb_gP (xt_G w) 260 272 = some (.laload, 1, 0, 0) := by rw [xd_gP]; decide +kernel
theorem yl_P273 (w : Value) : xb_gP (xt_G w) 260 273 = some (.iload 6, 2, 0, 0) := by rw [xd_gP]; decide +kernel
theorem yl_P275 (w : Value) : xb_gP (xt_G w) 260 275 = some (.i2l, 1, 0, 0) := by rw [xd_gP]; decide +kernel
theorem yl_P276 (w : Value) : xb_gP (xt_G w) 260 276 = some (.lcmp, 1, 0, 0) := by rw [xd_gP]; decide +kernel
theorem yl_P277 (w : Value) : xb_gP (xt_G w) 260 277 = some (.ifCond .eq 5, 3, 282, 0) := by rw [xd_gP]; decide +kernel
theorem yl_P280 (w : Value) : xb_gP (xt_G w) 260 280 = some (.iconst 0, 1, 0, 0) := by rw [xd_gP]; decide +kernel
theorem yl_P281 (w : Value) : xb_gP (xt_G w) 260 281 = some (.ireturn, 1, 0, 0) := by rw [xd_gP]; decide +kernel
theorem yl_P282 (w : Value) : xb_gP (xt_G w) 260 282 = some (.goto 314, 3, 596, 0) := by rw [xd_gP]; decide +kernel
theorem yl_P285 (w : Value) : xb_gP (xt_G w) 260 285 = some (.aload_n 1, 1, 0, 0) := by rw [xd_gP]; decide +kernel
theorem yl_P286 (w : Value) : xb_gP (xt_G w) 260 286 = some (.aload_n 0, 1, 0, 0) := by rw [xd_gP]; decide +kernel
theorem yl_P287 (w : Value) : xb_gP (xt_G w) 260 287 = some (.iload 4, 2, 0, 0) := by rw [xd_gP]; decide +kernel
theorem yl_P289 (w : Value) : xb_gP (xt_G w) 260 289 = some (.iconst 1, 1, 0, 0) := by rw [xd_gP]; decide +kernel
theorem yl_P290 (w : Value) : xb_gP (xt_G w) 260 290 = some (.iadd, 1, 0, 0) := by rw [xd_gP]; decide +kernel
theorem yl_P291 (w : Value) : xb_gP (xt_G w) 260 291 = some (.iaload, 1, 0, 0) := by rw [xd_gP]; decide +kernel
theorem yl_P292 (w : Value) : xb_gP (xt_G w) 260 292 = some (.aload_n 3, 1, 0, 0) := by rw [xd_gP]; decide +kernel
theorem yl_P296 (w : Value) : xb_gP (xt_G w) 260 296 = some (.istore 5, 2, 0, 0) := by rw [xd_gP]; decide +kernel
theorem yl_P298 (w : Value) : xb_gP (xt_G w) 260 298 = some (.aload_n 2, 1, 0, 0) := by rw [xd_gP]; decide +kernel
theorem yl_P299 (w : Value) : xb_gP (xt_G w) 260 299 = some (.aload_n 0, 1, 0, 0) := by rw [xd_gP]; decide +kernel
theorem yl_P300 (w : Value) : xb_gP (xt_G w) 260 300 = some (.iload 4, 2, 0, 0) := by rw [xd_gP]; decide +kernel
theorem yl_P302 (w : Value) : xb_gP (xt_G w) 260 302 = some (.iconst 1, 1, 0, 0) := by rw [xd_gP]; decide +kernel
theorem yl_P303 (w : Value) : xb_gP (xt_G w) 260 303 = some (.iadd, 1, 0, 0) := by rw [xd_gP]; decide +kernel
theorem yl_P304 (w : Value) : xb_gP (xt_G w) 260 304 = some (.iaload, 1, 0, 0) := by rw [xd_gP]; decide +kernel
theorem yl_P305 (w : Value) : xb_gP (xt_G w) 260 305 = some (.invokevirtual 54, 3, 227, 2) := by rw [xd_gP]; decide +kernel
theorem yl_P308 (w : Value) : xb_gP (xt_G w) 260 308 = some (.istore 6, 2, 0, 0) := by rw [xd_gP]; decide +kernel
theorem yl_P310 (w : Value) : xb_gP (xt_G w) 260 310 = some (.aload_n 2, 1, 0, 0) := by rw [xd_gP]; decide +kernel
theorem yl_P311 (w : Value) : xb_gP (xt_G w) 260 311 = some (.invokevirtual 44, 3, 204, 1) := by rw [xd_gP]; decide +kernel
theorem yl_P314 (w : Value) : xb_gP (xt_G w) 260 314 = some (.iload 5, 2, 0, 0) := by rw [xd_gP]; decide +kernel
theorem yl_P316 (w : Value) : xb_gP (xt_G w) 260 316 = some (.if_icmp .eq 5, 3, 321, 0) := by rw [xd_gP]; decide +kernel
theorem yl_P319 (w : Value) : xb_gP (xt_G w) 260 319 = some (.iconst 0, 1, 0, 0) := by rw [xd_gP]; decide +kernel
theorem yl_P320 (w : Value) : xb_gP (xt_G w) 260 320 = some (.ireturn, 1, 0, 0) := by rw [xd_gP]; decide +kernel
theorem yl_P321 (w : Value) : xb_gP (xt_G w) 260 321 = some (.iload 5, 2, 0, 0) := by rw [xd_gP]; decide +kernel
theorem yl_P323 (w : Value) : xb_gP (xt_G w) 260 323 = some (.ifCond .ne 15, 3, 338, 0) := by rw [xd_gP]; decide +kernel
theorem yl_P326 (w : Value) : xb_gP (xt_G w) 260 326 = some (.aload_n 3, 1, 0, 0) := by rw [xd_gP]; decide +kernel
theorem yl_P327 (w : Value) : xb_gP (xt_G w) 260 327 = some (.iconst 0, 1, 0, 0) := by rw [xd_gP]; decide +kernel
theorem yl_P328 (w : Value) : xb_gP (xt_G w) 260 328 = some (.laload, 1, 0, 0) := by rw [xd_gP]; decide +kernel
theorem yl_P329 (w : Value) : xb_gP (xt_G w) 260 329 = some (.iload 6, 2, 0, 0) := by rw [xd_gP]; decide +kernel
theorem yl_P331 (w : Value) : xb_gP (xt_G w) 260 331 = some (.i2l, 1, 0, 0) := by rw [xd_gP]; decide +kernel
theorem yl_P332 (w : Value) : xb_gP (xt_G w) 260 332 = some (.lcmp, 1, 0, 0) := by rw [xd_gP]; decide +kernel
theorem yl_P333 (w : Value) : xb_gP (xt_G w) 260 333 = some (.ifCond .eq 5, 3, 338, 0) := by rw [xd_gP]; decide +kernel
theorem yl_P336 (w : Value) : xb_gP (xt_G w) 260 336 = some (.iconst 0, 1, 0, 0) := by rw [xd_gP]; decide +kernel
theorem yl_P337 (w : Value) : xb_gP (xt_G w) 260 337 = some (.ireturn, 1, 0, 0) := by rw [xd_gP]; decide +kernel
theorem yl_P338 (w : Value) : xb_gP (xt_G w) 260 338 = some (.goto 258, 3, 596, 0) := by rw [xd_gP]; decide +kernel
theorem yl_P341 (w : Value) : xb_gP (xt_G w) 260 341 = some (.aload_n 1, 1, 0, 0) := by rw [xd_gP]; decide +kernel
theorem yl_P342 (w : Value) : xb_gP (xt_G w) 260 342 = some (.aload_n 0, 1, 0, 0) := by rw [xd_gP]; decide +kernel
theorem yl_P343 (w : Value) : xb_gP (xt_G w) 260 343 = some (.iload 4, 2, 0, 0) := by rw [xd_gP]; decide +kernel
theorem yl_P345 (w : Value) : xb_gP (xt_G w) 260 345 = some (.iconst 1, 1, 0, 0) := by rw [xd_gP]; decide +kernel
theorem yl_P346 (w : Value) : xb_gP (xt_G w) 260 346 = some (.iadd, 1, 0, 0) := by rw [xd_gP]; decide +kernel
theorem yl_P347 (w : Value) : xb_gP (xt_G w) 260 347 = some (.iaload, 1, 0, 0) := by rw [xd_gP]; decide +kernel
theorem yl_P348 (w : Value) : xb_gP (xt_G w) 260 348 = some (.aload_n 0, 1, 0, 0) := by rw [xd_gP]; decide +kernel
theorem yl_P349 (w : Value) : xb_gP (xt_G w) 260 349 = some (.iload 4, 2, 0, 0) := by rw [xd_gP]; decide +kernel
theorem yl_P351 (w : Value) : xb_gP (xt_G w) 260 351 = some (.iconst 2, 1, 0, 0) := by rw [xd_gP]; decide +kernel
theorem yl_P352 (w : Value) : xb_gP (xt_G w) 260 352 = some (.iadd, 1, 0, 0) := by rw [xd_gP]; decide +kernel
theorem yl_P353 (w : Value) : xb_gP (xt_G w) 260 353 = some (.iaload, 1, 0, 0) := by rw [xd_gP]; decide +kernel
theorem yl_P354 (w : Value) : xb_gP (xt_G w) 260 354 = some (.invokevirtual 55, 3, 38, 3) := by rw [xd_gP]; decide +kernel
theorem yl_P357 (w : Value) : xb_gP (xt_G w) 260 357 = some (.aload_n 2, 1, 0, 0) := by rw [xd_gP]; decide +kernel
theorem yl_P358 (w : Value) : xb_gP (xt_G w) 260 358 = some (.aload_n 0, 1, 0, 0) := by rw [xd_gP]; decide +kernel
theorem yl_P359 (w : Value) : xb_gP (xt_G w) 260 359 = some (.iload 4, 2, 0, 0) := by rw [xd_gP]; decide +kernel
theorem yl_P361 (w : Value) : xb_gP (xt_G w) 260 361 = some (.iconst 1, 1, 0, 0) := by rw [xd_gP]; decide +kernel
theorem yl_P362 (w : Value) : xb_gP (xt_G w) 260 362 = some (.iadd, 1, 0, 0) := by rw [xd_gP]; decide +kernel
theorem yl_P363 (w : Value) : xb_gP (xt_G w) 260 363 = some (.iaload, 1, 0, 0) := by rw [xd_gP]; decide +kernel
theorem yl_P364 (w : Value) : xb_gP (xt_G w) 260 364 = some (.aload_n 0, 1, 0, 0) := by rw [xd_gP]; decide +kernel
theorem yl_P365 (w : Value) : xb_gP (xt_G w) 260 365 = some (.iload 4, 2, 0, 0) := by rw [xd_gP]; decide +kernel
theorem yl_P367 (w : Value) : xb_gP (xt_G w) 260 367 = some (.iconst 2, 1, 0, 0) := by rw [xd_gP]; decide +kernel
theorem yl_P368 (w : Value) : xb_gP (xt_G w) 260 368 = some (.iadd, 1, 0, 0) := by rw [xd_gP]; decide +kernel
theorem yl_P369 (w : Value) : xb_gP (xt_G w) 260 369 = some (.iaload, 1, 0, 0) := by rw [xd_gP]; decide +kernel
theorem yl_P370 (w : Value) : xb_gP (xt_G w) 260 370 = some (.invokevirtual 59, 3, 225, 3) := by rw [xd_gP]; decide +kernel
theorem yl_P373 (w : Value) : xb_gP (xt_G w) 260 373 = some (.if_icmp .eq 223, 3, 596, 0) := by rw [xd_gP]; decide +kernel
theorem yl_P376 (w : Value) : xb_gP (xt_G w) 260 376 = some (.iconst 0, 1, 0, 0) := by rw [xd_gP]; decide +kernel
theorem yl_P377 (w : Value) : xb_gP (xt_G w) 260 377 = some (.ireturn, 1, 0, 0) := by rw [xd_gP]; decide +kernel
theorem yl_P378 (w : Value) : xb_gP (xt_G w) 260 378 = some (.aload_n 1, 1, 0, 0) := by rw [xd_gP]; decide +kernel
theorem yl_P379 (w : Value) : xb_gP (xt_G w) 260 379 = some (.aload_n 0, 1, 0, 0) := by rw [xd_gP]; decide +kernel
theorem yl_P380 (w : Value) : xb_gP (xt_G w) 260 380 = some (.iload 4, 2, 0, 0) := by rw [xd_gP]; decide +kernel
theorem yl_P382 (w : Value) : xb_gP (xt_G w) 260 382 = some (.iconst 1, 1, 0, 0) := by rw [xd_gP]; decide +kernel
theorem yl_P383 (w : Value) : xb_gP (xt_G w) 260 383 = some (.iadd, 1, 0, 0) := by rw [xd_gP]; decide +kernel
theorem yl_P384 (w : Value) : xb_gP (xt_G w) 260 384 = some (.iaload, 1, 0, 0) := by rw [xd_gP]; decide +kernel
theorem yl_P385 (w : Value) : xb_gP (xt_G w) 260 385 = some (.aload_n 0, 1, 0, 0) := by rw [xd_gP]; decide +kernel
theorem yl_P386 (w : Value) : xb_gP (xt_G w) 260 386 = some (.iload 4, 2, 0, 0) := by rw [xd_gP]; decide +kernel
theorem yl_P388 (w : Value) : xb_gP (xt_G w) 260 388 = some (.iconst 2, 1, 0, 0) := by rw [xd_gP]; decide +kernel
theorem yl_P389 (w : Value) : xb_gP (xt_G w) 260 389 = some (.iadd, 1, 0, 0) := by rw [xd_gP]; decide +kernel
theorem yl_P390 (w : Value) : xb_gP (xt_G w) 260 390 = some (.iaload, 1, 0, 0) := by rw [xd_gP]; decide +kernel
theorem yl_P391 (w : Value) : xb_gP (xt_G w) 260 391 = some (.invokevirtual 60, 3, 43, 3) := by rw [xd_gP]; decide +kernel
theorem yl_P394 (w : Value) : xb_gP (xt_G w) 260 394 = some (.aload_n 2, 1, 0, 0) := by rw [xd_gP]; decide +kernel
theorem yl_P395 (w : Value) : xb_gP (xt_G w) 260 395 = some (.aload_n 0, 1, 0, 0) := by rw [xd_gP]; decide +kernel
theorem yl_P396 (w : Value) : xb_gP (xt_G w) 260 396 = some (.iload 4, 2, 0, 0) := by rw [xd_gP]; decide +kernel
theorem yl_P398 (w : Value) : xb_gP (xt_G w) 260 398 = some (.iconst 1, 1, 0, 0) := by rw [xd_gP]; decide +kernel
theorem yl_P399 (w : Value) : xb_gP (xt_G w) 260 399 = some (.iadd, 1, 0, 0) := by rw [xd_gP]; decide +kernel
theorem yl_P400 (w : Value) : xb_gP (xt_G w) 260 400 = some (.iaload, 1, 0, 0) := by rw [xd_gP]; decide +kernel
theorem yl_P401 (w : Value) : xb_gP (xt_G w) 260 401 = some (.aload_n 0, 1, 0, 0) := by rw [xd_gP]; decide +kernel
theorem yl_P402 (w : Value) : xb_gP (xt_G w) 260 402 = some (.iload 4, 2, 0, 0) := by rw [xd_gP]; decide +kernel
theorem yl_P404 (w : Value) : xb_gP (xt_G w) 260 404 = some (.iconst 2, 1, 0, 0) := by rw [xd_gP]; decide +kernel
theorem yl_P405 (w : Value) : xb_gP (xt_G w) 260 405 = some (.iadd, 1, 0, 0) := by rw [xd_gP]; decide +kernel
theorem yl_P406 (w : Value) : xb_gP (xt_G w) 260 406 = some (.iaload, 1, 0, 0) := by rw [xd_gP]; decide +kernel
theorem yl_P407 (w : Value) : xb_gP (xt_G w) 260 407 = some (.invokevirtual 63, 3, 226, 3) := by rw [xd_gP]; decide +kernel
theorem yl_P410 (w : Value) : xb_gP (xt_G w) 260 410 = some (.if_icmp .eq 186, 3, 596, 0) := by rw [xd_gP]; decide +kernel
theorem yl_P413 (w : Value) : xb_gP (xt_G w) 260 413 = some (.iconst 0, 1, 0, 0) := by rw [xd_gP]; decide +kernel
theorem yl_P414 (w : Value) : xb_gP (xt_G w) 260 414 = some (.ireturn, 1, 0, 0) := by rw [xd_gP]; decide +kernel
theorem yl_P415 (w : Value) : xb_gP (xt_G w) 260 415 = some (.aload_n 1, 1, 0, 0) := by rw [xd_gP]; decide +kernel
theorem yl_P416 (w : Value) : xb_gP (xt_G w) 260 416 = some (.aload_n 0, 1, 0, 0) := by rw [xd_gP]; decide +kernel
theorem yl_P417 (w : Value) : xb_gP (xt_G w) 260 417 = some (.iload 4, 2, 0, 0) := by rw [xd_gP]; decide +kernel
theorem yl_P419 (w : Value) : xb_gP (xt_G w) 260 419 = some (.iconst 1, 1, 0, 0) := by rw [xd_gP]; decide +kernel
theorem yl_P420 (w : Value) : xb_gP (xt_G w) 260 420 = some (.iadd, 1, 0, 0) := by rw [xd_gP]; decide +kernel
theorem yl_P421 (w : Value) : xb_gP (xt_G w) 260 421 = some (.iaload, 1, 0, 0) := by rw [xd_gP]; decide +kernel
theorem yl_P422 (w : Value) : xb_gP (xt_G w) 260 422 = some (.invokevirtual 64, 3, 45, 2) := by rw [xd_gP]; decide +kernel
theorem yl_P425 (w : Value) : xb_gP (xt_G w) 260 425 = some (.aload_n 2, 1, 0, 0) := by rw [xd_gP]; decide +kernel
theorem yl_P426 (w : Value) : xb_gP (xt_G w) 260 426 = some (.aload_n 0, 1, 0, 0) := by rw [xd_gP]; decide +kernel
theorem yl_P427 (w : Value) : xb_gP (xt_G w) 260 427 = some (.iload 4, 2, 0, 0) := by rw [xd_gP]; decide +kernel
theorem yl_P429 (w : Value) : xb_gP (xt_G w) 260 429 = some (.iconst 1, 1, 0, 0) := by rw [xd_gP]; decide +kernel
theorem yl_P430 (w : Value) : xb_gP (xt_G w) 260 430 = some (.iadd, 1, 0, 0) := by rw [xd_gP]; decide +kernel
theorem yl_P431 (w : Value) : xb_gP (xt_G w) 260 431 = some (.iaload, 1, 0, 0) := by rw [xd_gP]; decide +kernel
theorem yl_P432 (w : Value) : xb_gP (xt_G w) 260 432 = some (.invokevirtual 67, 3, 232, 2) := by rw [xd_gP]; decide +kernel
theorem yl_P435 (w : Value) : xb_gP (xt_G w) 260 435 = some (.if_icmp .eq 161, 3, 596, 0) := by rw [xd_gP]; decide +kernel
theorem yl_P438 (w : Value) : xb_gP (xt_G w) 260 438 = some (.iconst 0, 1, 0, 0) := by rw [xd_gP]; decide +kernel
theorem yl_P439 (w : Value) : xb_gP (xt_G w) 260 439 = some (.ireturn, 1, 0, 0) := by rw [xd_gP]; decide +kernel
theorem yl_P440 (w : Value) : xb_gP (xt_G w) 260 440 = some (.aload_n 1, 1, 0, 0) := by rw [xd_gP]; decide +kernel
theorem yl_P441 (w : Value) : xb_gP (xt_G w) 260 441 = some (.aload_n 0, 1, 0, 0) := by rw [xd_gP]; decide +kernel
theorem yl_P442 (w : Value) : xb_gP (xt_G w) 260 442 = some (.iload 4, 2, 0, 0) := by rw [xd_gP]; decide +kernel
theorem yl_P444 (w : Value) : xb_gP (xt_G w) 260 444 = some (.iconst 1, 1, 0, 0) := by rw [xd_gP]; decide +kernel
theorem yl_P445 (w : Value) : xb_gP (xt_G w) 260 445 = some (.iadd, 1, 0, 0) := by rw [xd_gP]; decide +kernel
theorem yl_P446 (w : Value) : xb_gP (xt_G w) 260 446 = some (.iaload, 1, 0, 0) := by rw [xd_gP]; decide +kernel
theorem yl_P447 (w : Value) : xb_gP (xt_G w) 260 447 = some (.aload_n 3, 1, 0, 0) := by rw [xd_gP]; decide +kernel
theorem yl_P451 (w : Value) : xb_gP (xt_G w) 260 451 = some (.istore 5, 2, 0, 0) := by rw [xd_gP]; decide +kernel
theorem yl_P453 (w : Value) : xb_gP (xt_G w) 260 453 = some (.aload_n 2, 1, 0, 0) := by rw [xd_gP]; decide +kernel
theorem yl_P454 (w : Value) : xb_gP (xt_G w) 260 454 = some (.aload_n 0, 1, 0, 0) := by rw [xd_gP]; decide +kernel
theorem yl_P455 (w : Value) : xb_gP (xt_G w) 260 455 = some (.iload 4, 2, 0, 0) := by rw [xd_gP]; decide +kernel
theorem yl_P457 (w : Value) : xb_gP (xt_G w) 260 457 = some (.iconst 1, 1, 0, 0) := by rw [xd_gP]; decide +kernel
theorem yl_P458 (w : Value) : xb_gP (xt_G w) 260 458 = some (.iadd, 1, 0, 0) := by rw [xd_gP]; decide +kernel
theorem yl_P459 (w : Value) : xb_gP (xt_G w) 260 459 = some (.iaload, 1, 0, 0) := by rw [xd_gP]; decide +kernel
theorem yl_P460 (w : Value) : xb_gP (xt_G w) 260 460 = some (.invokevirtual 70, 3, 237, 2) := by rw [xd_gP]; decide +kernel
theorem yl_P463 (w : Value) : xb_gP (xt_G w) 260 463 = some (.istore 6, 2, 0, 0) := by rw [xd_gP]; decide +kernel
theorem yl_P465 (w : Value) : xb_gP (xt_G w) 260 465 = some (.aload_n 2, 1, 0, 0) := by rw [xd_gP]; decide +kernel
theorem yl_P466 (w : Value) : xb_gP (xt_G w) 260 466 = some (.invokevirtual 44, 3, 204, 1) := by rw [xd_gP]; decide +kernel
theorem yl_P469 (w : Value) : xb_gP (xt_G w) 260 469 = some (.iload 5, 2, 0, 0) := by rw [xd_gP]; decide +kernel
theorem yl_P471 (w : Value) : xb_gP (xt_G w) 260 471 = some (.if_icmp .eq 5, 3, 476, 0) := by rw [xd_gP]; decide +kernel
theorem yl_P474 (w : Value) : xb_gP (xt_G w) 260 474 = some (.iconst 0, 1, 0, 0) := by rw [xd_gP]; decide +kernel
theorem yl_P475 (w : Value) : xb_gP (xt_G w) 260 475 = some (.ireturn, 1, 0, 0) := by rw [xd_gP]; decide +kernel
theorem yl_P476 (w : Value) : xb_gP (xt_G w) 260 476 = some (.iload 5, 2, 0, 0) := by rw [xd_gP]; decide +kernel
theorem yl_P478 (w : Value) : xb_gP (xt_G w) 260 478 = some (.ifCond .ne 15, 3, 493, 0) := by rw [xd_gP]; decide +kernel
theorem yl_P481 (w : Value) : xb_gP (xt_G w) 260 481 = some (.aload_n 3, 1, 0, 0) := by rw [xd_gP]; decide +kernel
theorem yl_P482 (w : Value) : xb_gP (xt_G w) 260 482 = some (.iconst 0, 1, 0, 0) := by rw [xd_gP]; decide +kernel
theorem yl_P483 (w : Value) : xb_gP (xt_G w) 260 483 = some (.laload, 1, 0, 0) := by rw [xd_gP]; decide +kernel
theorem yl_P484 (w : Value) : xb_gP (xt_G w) 260 484 = some (.iload 6, 2, 0, 0) := by rw [xd_gP]; decide +kernel
theorem yl_P486 (w : Value) : xb_gP (xt_G w) 260 486 = some (.i2l, 1, 0, 0) := by rw [xd_gP]; decide +kernel
theorem yl_P487 (w : Value) : xb_gP (xt_G w) 260 487 = some (.lcmp, 1, 0, 0) := by rw [xd_gP]; decide +kernel
theorem yl_P488 (w : Value) : xb_gP (xt_G w) 260 488 = some (.ifCond .eq 5, 3, 493, 0) := by rw [xd_gP]; decide +kernel
theorem yl_P491 (w : Value) : xb_gP (xt_G w) 260 491 = some (.iconst 0, 1, 0, 0) := by rw [xd_gP]; decide +kernel
theorem yl_P492 (w : Value) : xb_gP (xt_G w) 260 492 = some (.ireturn, 1, 0, 0) := by rw [xd_gP]; decide +kernel
theorem yl_P493 (w : Value) : xb_gP (xt_G w) 260 493 = some (.goto 103, 3, 596, 0) := by rw [xd_gP]; decide +kernel
theorem yl_P496 (w : Value) : xb_gP (xt_G w) 260 496 = some (.aload_n 1, 1, 0, 0) := by rw [xd_gP]; decide +kernel
theorem yl_P497 (w : Value) : xb_gP (xt_G w) 260 497 = some (.invokevirtual 71, 3, 91, 1) := by rw [xd_gP]; decide +kernel
theorem yl_P500 (w : Value) : xb_gP (xt_G w) 260 500 = some (.aload_n 2, 1, 0, 0) := by rw [xd_gP]; decide +kernel
theorem yl_P501 (w : Value) : xb_gP (xt_G w) 260 501 = some (.invokevirtual 74, 3, 256, 1) := by rw [xd_gP]; decide +kernel
theorem yl_P504 (w : Value) : xb_gP (xt_G w) 260 504 = some (.if_icmp .eq 92, 3, 596, 0) := by rw [xd_gP]; decide +kernel
theorem yl_P507 (w : Value) : xb_gP (xt_G w) 260 507 = some (.iconst 0, 1, 0, 0) := by rw [xd_gP]; decide +kernel
theorem yl_P508 (w : Value) : xb_gP (xt_G w) 260 508 = some (.ireturn, 1, 0, 0) := by rw [xd_gP]; decide +kernel
theorem yl_P509 (w : Value) : xb_gP (xt_G w) 260 509 = some (.aload_n 1, 1, 0, 0) := by rw [xd_gP]; decide +kernel
theorem yl_P510 (w : Value) : xb_gP (xt_G w) 260 510 = some (.aload_n 0, 1, 0, 0) := by rw [xd_gP]; decide +kernel
theorem yl_P511 (w : Value) : xb_gP (xt_G w) 260 511 = some (.iload 4, 2, 0, 0) := by rw [xd_gP]; decide +kernel
theorem yl_P513 (w : Value) : xb_gP (xt_G w) 260 513 = some (.iconst 1, 1, 0, 0) := by rw [xd_gP]; decide +kernel
theorem yl_P514 (w : Value) : xb_gP (xt_G w) 260 514 = some (.iadd, 1, 0, 0) := by rw [xd_gP]; decide +kernel
theorem yl_P515 (w : Value) : xb_gP (xt_G w) 260 515 = some (.iaload, 1, 0, 0) := by rw [xd_gP]; decide +kernel
theorem yl_P516 (w : Value) : xb_gP (xt_G w) 260 516 = some (.invokevirtual 75, 3, 93, 2) := by rw [xd_gP]; decide +kernel
theorem yl_P519 (w : Value) : xb_gP (xt_G w) 260 519 = some (.aload_n 2, 1, 0, 0) := by rw [xd_gP]; decide +kernel
theorem yl_P520 (w : Value) : xb_gP (xt_G w) 260 520 = some (.aload_n 0, 1, 0, 0) := by rw [xd_gP]; decide +kernel
theorem yl_P521 (w : Value) : xb_gP (xt_G w) 260 521 = some (.iload 4, 2, 0, 0) := by rw [xd_gP]; decide +kernel
theorem yl_P523 (w : Value) : xb_gP (xt_G w) 260 523 = some (.iconst 1, 1, 0, 0) := by rw [xd_gP]; decide +kernel
theorem yl_P524 (w : Value) : xb_gP (xt_G w) 260 524 = some (.iadd, 1, 0, 0) := by rw [xd_gP]; decide +kernel
theorem yl_P525 (w : Value) : xb_gP (xt_G w) 260 525 = some (.iaload, 1, 0, 0) := by rw [xd_gP]; decide +kernel
theorem yl_P526 (w : Value) : xb_gP (xt_G w) 260 526 = some (.invokevirtual 78, 3, 257, 2) := by rw [xd_gP]; decide +kernel
theorem yl_P529 (w : Value) : xb_gP (xt_G w) 260 529 = some (.if_icmp .eq 67, 3, 596, 0) := by rw [xd_gP]; decide +kernel
theorem yl_P532 (w : Value) : xb_gP (xt_G w) 260 532 = some (.iconst 0, 1, 0, 0) := by rw [xd_gP]; decide +kernel
theorem yl_P533 (w : Value) : xb_gP (xt_G w) 260 533 = some (.ireturn, 1, 0, 0) := by rw [xd_gP]; decide +kernel
theorem yl_P534 (w : Value) : xb_gP (xt_G w) 260 534 = some (.aload_n 1, 1, 0, 0) := by rw [xd_gP]; decide +kernel
theorem yl_P535 (w : Value) : xb_gP (xt_G w) 260 535 = some (.aload_n 0, 1, 0, 0) := by rw [xd_gP]; decide +kernel
theorem yl_P536 (w : Value) : xb_gP (xt_G w) 260 536 = some (.iload 4, 2, 0, 0) := by rw [xd_gP]; decide +kernel
theorem yl_P538 (w : Value) : xb_gP (xt_G w) 260 538 = some (.iconst 1, 1, 0, 0) := by rw [xd_gP]; decide +kernel
theorem yl_P539 (w : Value) : xb_gP (xt_G w) 260 539 = some (.iadd, 1, 0, 0) := by rw [xd_gP]; decide +kernel
theorem yl_P540 (w : Value) : xb_gP (xt_G w) 260 540 = some (.iaload, 1, 0, 0) := by rw [xd_gP]; decide +kernel
theorem yl_P541 (w : Value) : xb_gP (xt_G w) 260 541 = some (.aload_n 0, 1, 0, 0) := by rw [xd_gP]; decide +kernel
theorem yl_P542 (w : Value) : xb_gP (xt_G w) 260 542 = some (.iload 4, 2, 0, 0) := by rw [xd_gP]; decide +kernel
theorem yl_P544 (w : Value) : xb_gP (xt_G w) 260 544 = some (.iconst 2, 1, 0, 0) := by rw [xd_gP]; decide +kernel
theorem yl_P545 (w : Value) : xb_gP (xt_G w) 260 545 = some (.iadd, 1, 0, 0) := by rw [xd_gP]; decide +kernel
theorem yl_P546 (w : Value) : xb_gP (xt_G w) 260 546 = some (.iaload, 1, 0, 0) := by rw [xd_gP]; decide +kernel
theorem yl_P547 (w : Value) : xb_gP (xt_G w) 260 547 = some (.invokevirtual 79, 3, 96, 3) := by rw [xd_gP]; decide +kernel
theorem yl_P550 (w : Value) : xb_gP (xt_G w) 260 550 = some (.aload_n 2, 1, 0, 0) := by rw [xd_gP]; decide +kernel
theorem yl_P551 (w : Value) : xb_gP (xt_G w) 260 551 = some (.aload_n 0, 1, 0, 0) := by rw [xd_gP]; decide +kernel
theorem yl_P552 (w : Value) : xb_gP (xt_G w) 260 552 = some (.iload 4, 2, 0, 0) := by rw [xd_gP]; decide +kernel
theorem yl_P554 (w : Value) : xb_gP (xt_G w) 260 554 = some (.iconst 1, 1, 0, 0) := by rw [xd_gP]; decide +kernel
theorem yl_P555 (w : Value) : xb_gP (xt_G w) 260 555 = some (.iadd, 1, 0, 0) := by rw [xd_gP]; decide +kernel
theorem yl_P556 (w : Value) : xb_gP (xt_G w) 260 556 = some (.iaload, 1, 0, 0) := by rw [xd_gP]; decide +kernel
theorem yl_P557 (w : Value) : xb_gP (xt_G w) 260 557 = some (.aload_n 0, 1, 0, 0) := by rw [xd_gP]; decide +kernel
theorem yl_P558 (w : Value) : xb_gP (xt_G w) 260 558 = some (.iload 4, 2, 0, 0) := by rw [xd_gP]; decide +kernel
theorem yl_P560 (w : Value) : xb_gP (xt_G w) 260 560 = some (.iconst 2, 1, 0, 0) := by rw [xd_gP]; decide +kernel
theorem yl_P561 (w : Value) : xb_gP (xt_G w) 260 561 = some (.iadd, 1, 0, 0) := by rw [xd_gP]; decide +kernel
theorem yl_P562 (w : Value) : xb_gP (xt_G w) 260 562 = some (.iaload, 1, 0, 0) := by rw [xd_gP]; decide +kernel
theorem yl_P563 (w : Value) : xb_gP (xt_G w) 260 563 = some (.invokevirtual 83, 3, 258, 3) := by rw [xd_gP]; decide +kernel
theorem yl_P566 (w : Value) : xb_gP (xt_G w) 260 566 = some (.if_icmp .eq 30, 3, 596, 0) := by rw [xd_gP]; decide +kernel
theorem yl_P569 (w : Value) : xb_gP (xt_G w) 260 569 = some (.iconst 0, 1, 0, 0) := by rw [xd_gP]; decide +kernel
theorem yl_P570 (w : Value) : xb_gP (xt_G w) 260 570 = some (.ireturn, 1, 0, 0) := by rw [xd_gP]; decide +kernel
theorem yl_P571 (w : Value) : xb_gP (xt_G w) 260 571 = some (.aload_n 1, 1, 0, 0) := by rw [xd_gP]; decide +kernel
theorem yl_P572 (w : Value) : xb_gP (xt_G w) 260 572 = some (.aload_n 0, 1, 0, 0) := by rw [xd_gP]; decide +kernel
theorem yl_P573 (w : Value) : xb_gP (xt_G w) 260 573 = some (.iload 4, 2, 0, 0) := by rw [xd_gP]; decide +kernel
theorem yl_P575 (w : Value) : xb_gP (xt_G w) 260 575 = some (.iconst 1, 1, 0, 0) := by rw [xd_gP]; decide +kernel
theorem yl_P576 (w : Value) : xb_gP (xt_G w) 260 576 = some (.iadd, 1, 0, 0) := by rw [xd_gP]; decide +kernel
theorem yl_P577 (w : Value) : xb_gP (xt_G w) 260 577 = some (.iaload, 1, 0, 0) := by rw [xd_gP]; decide +kernel
theorem yl_P578 (w : Value) : xb_gP (xt_G w) 260 578 = some (.invokevirtual 84, 3, 100, 2) := by rw [xd_gP]; decide +kernel
theorem yl_P581 (w : Value) : xb_gP (xt_G w) 260 581 = some (.aload_n 2, 1, 0, 0) := by rw [xd_gP]; decide +kernel
theorem yl_P582 (w : Value) : xb_gP (xt_G w) 260 582 = some (.aload_n 0, 1, 0, 0) := by rw [xd_gP]; decide +kernel
theorem yl_P583 (w : Value) : xb_gP (xt_G w) 260 583 = some (.iload 4, 2, 0, 0) := by rw [xd_gP]; decide +kernel
theorem yl_P585 (w : Value) : xb_gP (xt_G w) 260 585 = some (.iconst 1, 1, 0, 0) := by rw [xd_gP]; decide +kernel
theorem yl_P586 (w : Value) : xb_gP (xt_G w) 260 586 = some (.iadd, 1, 0, 0) := by rw [xd_gP]; decide +kernel
theorem yl_P587 (w : Value) : xb_gP (xt_G w) 260 587 = some (.iaload, 1, 0, 0) := by rw [xd_gP]; decide +kernel
theorem yl_P588 (w : Value) : xb_gP (xt_G w) 260 588 = some (.invokevirtual 87, 3, 259, 2) := by rw [xd_gP]; decide +kernel
theorem yl_P591 (w : Value) : xb_gP (xt_G w) 260 591 = some (.if_icmp .eq 5, 3, 596, 0) := by rw [xd_gP]; decide +kernel
theorem yl_P594 (w : Value) : xb_gP (xt_G w) 260 594 = some (.iconst 0, 1, 0, 0) := by rw [xd_gP]; decide +kernel
theorem yl_P595 (w : Value) : xb_gP (xt_G w) 260 595 = some (.ireturn, 1, 0, 0) := by rw [xd_gP]; decide +kernel
theorem yl_P596 (w : Value) : xb_gP (xt_G w) 260 596 = some (.iinc 4 3, 3, 0, 0) := by rw [xd_gP]; decide +kernel
theorem yl_P599 (w : Value) : xb_gP (xt_G w) 260 599 = some (.goto (-576), 3, 23, 0) := by rw [xd_gP]; decide +kernel
theorem yl_P602 (w : Value) : xb_gP (xt_G w) 260 602 = some (.iconst 1, 1, 0, 0) := by rw [xd_gP]; decide +kernel
theorem yl_P603 (w : Value) : xb_gP (xt_G w) 260 603 = some (.ireturn, 1, 0, 0) := by rw [xd_gP]; decide +kernel
