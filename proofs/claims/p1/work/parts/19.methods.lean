theorem xm_1 : xt_b1.all (xk_row prog_1_method_1_code 1 (xt_kn0 ++ xt_kf0) (xt_kc0)) = true := by decide +kernel
theorem xp_1 (w : Value) : xk_meth (xt_G w) 1 (⟨"ContractDesk", "<init>", "()V"⟩, prog_1_method_1_code, 1, none) := xk_meth_of (by decide +kernel) xw_38 rfl rfl (by decide) rfl xm_1 (fun q h => (List.mem_append.mp h).elim (xl_n0 w q) (xl_f0 w rfl q)) (xl_c0 w)
theorem xm_3 : xt_b3.all (xk_row prog_26_method_1_code 1 (xt_kn1 ++ xt_kf1) (xt_kc1)) = true := by decide +kernel
theorem xp_3 (w : Value) : xk_meth (xt_G w) 3 (⟨"java/lang/StringBuilder", "<init>", "()V"⟩, prog_26_method_1_code, 1, none) := xk_meth_of (by decide +kernel) xw_46 rfl rfl (by decide) rfl xm_3 (fun q h => (List.mem_append.mp h).elim (xl_n1 w q) (xl_f1 w rfl q)) (xl_c1 w)
theorem xm_4 : xt_b4.all (xk_row prog_15_method_2_code 2 (xt_kn2 ++ xt_kf2) (xt_kc2)) = true := by decide +kernel
theorem xp_4 (w : Value) : xk_meth (xt_G w) 4 (⟨"java/lang/AbstractStringBuilder", "<init>", "(I)V"⟩, prog_15_method_2_code, 2, none) := xk_meth_of (by decide +kernel) xw_49 rfl rfl (by decide) rfl xm_4 (fun q h => (List.mem_append.mp h).elim (xl_n2 w q) (xl_f2 w rfl q)) (xl_c2 w)
theorem xm_5 : xt_b5.all (xk_row prog_28_method_2_code 1 (xt_kn3) (xt_kc3)) = true := by decide +kernel
theorem xp_5 (w : Value) : xk_meth (xt_G w) 5 (⟨"java/lang/StringUTF16", "newBytesFor", "(I)[B"⟩, prog_28_method_2_code, 1, some (.array (.byte))) := xk_meth_of (by decide +kernel) xw_55 rfl rfl (by decide) rfl xm_5 (fun q h => xl_n3 w q h) (xl_c3 w)
theorem xm_6 : xt_b6.all (xk_row prog_28_method_3_code 1 (xt_kn3) (xt_kc3)) = true := by decide +kernel
theorem xp_6 (w : Value) : xk_meth (xt_G w) 6 (⟨"java/lang/StringUTF16", "newBytesLength", "(I)I"⟩, prog_28_method_3_code, 1, some (.int)) := xk_meth_of (by decide +kernel) xw_58 rfl rfl (by decide) rfl xm_6 (fun q h => xl_n3 w q h) (xl_c3 w)
theorem xm_7 : xt_b7.all (xk_row prog_10_method_1_code 1 (xt_kn4 ++ xt_kf4) (xt_kc4)) = true := by decide +kernel
theorem xp_7 (w : Value) : xk_meth (xt_G w) 7 (⟨"ContractDesk$States", "<init>", "()V"⟩, prog_10_method_1_code, 1, none) := xk_meth_of (by decide +kernel) xw_81 rfl rfl (by decide) rfl xm_7 (fun q h => (List.mem_append.mp h).elim (xl_n4 w q) (xl_f4 w rfl q)) (xl_c4 w)
theorem xm_8 : xt_b8.all (xk_row prog_2_method_1_code 2 (xt_kn5 ++ xt_kf5) (xt_kc5)) = true := by decide +kernel
theorem xp_8 (w : Value) : xk_meth (xt_G w) 8 (⟨"ContractDesk$Comparison", "<init>", "()V"⟩, prog_2_method_1_code, 2, none) := xk_meth_of (by decide +kernel) xw_98 rfl rfl (by decide) rfl xm_8 (fun q h => (List.mem_append.mp h).elim (xl_n5 w q) (xl_f5 w rfl q)) (xl_c5 w)
theorem xm_9 : xt_b9.all (xk_row prog_8_method_1_code 2 (xt_kn6 ++ xt_kf6) (xt_kc6)) = true := by decide +kernel
theorem xp_9 (w : Value) : xk_meth (xt_G w) 9 (⟨"ContractDesk$Path", "<init>", "(I)V"⟩, prog_8_method_1_code, 2, none) := xk_meth_of (by decide +kernel) xw_104 rfl rfl (by decide) rfl xm_9 (fun q h => (List.mem_append.mp h).elim (xl_n6 w q) (xl_f6 w rfl q)) (xl_c6 w)
theorem xm_10 : xt_b10.all (xk_row prog_7_method_1_code 1 (xt_kn7 ++ xt_kf7) (xt_kc7)) = true := by decide +kernel
theorem xp_10 (w : Value) : xk_meth (xt_G w) 10 (⟨"ContractDesk$Mismatch", "<init>", "()V"⟩, prog_7_method_1_code, 1, none) := xk_meth_of (by decide +kernel) xw_118 rfl rfl (by decide) rfl xm_10 (fun q h => (List.mem_append.mp h).elim (xl_n7 w q) (xl_f7 w rfl q)) (xl_c7 w)
theorem xm_11 : xt_b11.all (xk_row prog_1_method_2_code 6 (xt_kn0) (xt_kc0)) = true := by decide +kernel
theorem xp_11 (w : Value) : xk_meth (xt_G w) 11 (⟨"ContractDesk", "write", "(J)Z"⟩, prog_1_method_2_code, 6, some (.boolean)) := xk_meth_of (by decide +kernel) xw_161 rfl rfl (by decide) rfl xm_11 (fun q h => xl_n0 w q h) (xl_c0 w)
theorem xm_12 : xt_b12.all (xk_row prog_1_method_14_code 3 (xt_kn0) (xt_kc0)) = true := by decide +kernel
theorem xp_12 (w : Value) : xk_meth (xt_G w) 12 (⟨"ContractDesk", "byteOf", "(JI)I"⟩, prog_1_method_14_code, 3, some (.int)) := xk_meth_of (by decide +kernel) xw_164 rfl rfl (by decide) rfl xm_12 (fun q h => xl_n0 w q h) (xl_c0 w)
theorem xm_13 : xt_b13.all (xk_row prog_26_method_93_code 1 (xt_kn1) (xt_kc1)) = true := by decide +kernel
theorem xp_13 (w : Value) : xk_meth (xt_G w) 13 (⟨"java/lang/StringBuilder", "length", "()I"⟩, prog_26_method_93_code, 1, some (.int)) := xk_meth_of (by decide +kernel) xw_168 rfl rfl (by decide) rfl xm_13 (fun q h => xl_n1 w q h) (xl_c1 w)
theorem xm_14 : xt_b14.all (xk_row prog_15_method_6_code 1 (xt_kn2) (xt_kc2)) = true := by decide +kernel
theorem xp_14 (w : Value) : xk_meth (xt_G w) 14 (⟨"java/lang/AbstractStringBuilder", "length", "()I"⟩, prog_15_method_6_code, 1, some (.int)) := xk_meth_of (by decide +kernel) xw_171 rfl rfl (by decide) rfl xm_14 (fun q h => xl_n2 w q h) (xl_c2 w)
theorem xm_15 : xt_b15.all (xk_row prog_26_method_14_code 2 (xt_kn1) (xt_kc1)) = true := by decide +kernel
theorem xp_15 (w : Value) : xk_meth (xt_G w) 15 (⟨"java/lang/StringBuilder", "append", "(C)Ljava/lang/StringBuilder;"⟩, prog_26_method_14_code, 2, some (.object "java/lang/StringBuilder")) := xk_meth_of (by decide +kernel) xw_175 rfl rfl (by decide) rfl xm_15 (fun q h => xl_n1 w q h) (xl_c1 w)
theorem xm_16 : xt_b16.all (xk_row prog_15_method_31_code 2 (xt_kn2) (xt_kc2)) = true := by decide +kernel
theorem xp_16 (w : Value) : xk_meth (xt_G w) 16 (⟨"java/lang/AbstractStringBuilder", "append", "(C)Ljava/lang/AbstractStringBuilder;"⟩, prog_15_method_31_code, 2, some (.object "java/lang/AbstractStringBuilder")) := xk_meth_of (by decide +kernel) xw_178 rfl rfl (by decide) rfl xm_16 (fun q h => xl_n2 w q h) (xl_c2 w)
theorem xm_17 : xt_b17.all (xk_row prog_15_method_9_code 3 (xt_kn2) (xt_kc2)) = true := by decide +kernel
theorem xp_17 (w : Value) : xk_meth (xt_G w) 17 (⟨"java/lang/AbstractStringBuilder", "ensureCapacityInternal", "(I)V"⟩, prog_15_method_9_code, 3, none) := xk_meth_of (by decide +kernel) xw_182 rfl rfl (by decide) rfl xm_17 (fun q h => xl_n2 w q h) (xl_c2 w)
theorem xm_18 : xt_b18.all (xk_row prog_15_method_10_code 6 (xt_kn2) (xt_kc2)) = true := by decide +kernel
theorem xp_18 (w : Value) : xk_meth (xt_G w) 18 (⟨"java/lang/AbstractStringBuilder", "newCapacity", "(I)I"⟩, prog_15_method_10_code, 6, some (.int)) := xk_meth_of (by decide +kernel) xw_186 rfl rfl (by decide) rfl xm_18 (fun q h => xl_n2 w q h) (xl_c2 w)
theorem xm_19 : xt_b19.all (xk_row prog_40_method_27_code 4 (xt_kn8) (xt_kc8)) = true := by decide +kernel
theorem xp_19 (w : Value) : xk_meth (xt_G w) 19 (⟨"jdk/internal/util/ArraysSupport", "newLength", "(III)I"⟩, prog_40_method_27_code, 4, some (.int)) := xk_meth_of (by decide +kernel) xw_189 rfl rfl (by decide) rfl xm_19 (fun q h => xl_n8 w q h) (xl_c8 w)
theorem xm_21 : xt_b21.all (xk_row prog_40_method_28_code 3 (xt_kn8) (xt_kc8)) = true := by decide +kernel
theorem xp_21 (w : Value) : xk_meth (xt_G w) 21 (⟨"jdk/internal/util/ArraysSupport", "hugeLength", "(II)I"⟩, prog_40_method_28_code, 3, some (.int)) := xk_meth_of (by decide +kernel) xw_196 rfl rfl (by decide) rfl xm_21 (fun q h => xl_n8 w q h) (xl_c8 w)
theorem xm_22 : xt_b22.all (xk_row prog_34_method_121_code 3 (xt_kn9) (xt_kc9)) = true := by decide +kernel
theorem xp_22 (w : Value) : xk_meth (xt_G w) 22 (⟨"java/util/Arrays", "copyOf", "([BI)[B"⟩, prog_34_method_121_code, 3, some (.array (.byte))) := xk_meth_of (by decide +kernel) xw_200 rfl rfl (by decide) rfl xm_22 (fun q h => xl_n9 w q h) (xl_c9 w)
theorem xm_24 : xt_b24.all (xk_row prog_15_method_68_code 1 (xt_kn2) (xt_kc2)) = true := by decide +kernel
theorem xp_24 (w : Value) : xk_meth (xt_G w) 24 (⟨"java/lang/AbstractStringBuilder", "isLatin1", "()Z"⟩, prog_15_method_68_code, 1, some (.boolean)) := xk_meth_of (by decide +kernel) xw_218 rfl rfl (by decide) rfl xm_24 (fun q h => xl_n2 w q h) (xl_c2 w)
theorem xm_25 : xt_b25.all (xk_row prog_27_method_3_code 1 (xt_kn10) (xt_kc10)) = true := by decide +kernel
theorem xp_25 (w : Value) : xk_meth (xt_G w) 25 (⟨"java/lang/StringLatin1", "canEncode", "(C)Z"⟩, prog_27_method_3_code, 1, some (.boolean)) := xk_meth_of (by decide +kernel) xw_221 rfl rfl (by decide) rfl xm_25 (fun q h => xl_n10 w q h) (xl_c10 w)
theorem xm_26 : xt_b26.all (xk_row prog_15_method_11_code 2 (xt_kn2) (xt_kc2)) = true := by decide +kernel
theorem xp_26 (w : Value) : xk_meth (xt_G w) 26 (⟨"java/lang/AbstractStringBuilder", "inflate", "()V"⟩, prog_15_method_11_code, 2, none) := xk_meth_of (by decide +kernel) xw_225 rfl rfl (by decide) rfl xm_26 (fun q h => xl_n2 w q h) (xl_c2 w)
theorem xm_27 : xt_b27.all (xk_row prog_27_method_50_code 5 (xt_kn10) (xt_kc10)) = true := by decide +kernel
theorem xp_27 (w : Value) : xk_meth (xt_G w) 27 (⟨"java/lang/StringLatin1", "inflate", "([BI[BII)V"⟩, prog_27_method_50_code, 5, none) := xk_meth_of (by decide +kernel) xw_228 rfl rfl (by decide) rfl xm_27 (fun q h => xl_n10 w q h) (xl_c10 w)
theorem xm_28 : xt_b28.all (xk_row prog_28_method_86_code 6 (xt_kn3) (xt_kc3)) = true := by decide +kernel
theorem xp_28 (w : Value) : xk_meth (xt_G w) 28 (⟨"java/lang/StringUTF16", "inflate", "([BI[BII)V"⟩, prog_28_method_86_code, 6, none) := xk_meth_of (by decide +kernel) xw_231 rfl rfl (by decide) rfl xm_28 (fun q h => xl_n3 w q h) (xl_c3 w)
theorem xm_29 : xt_b29.all (xk_row prog_28_method_94_code 3 (xt_kn3) (xt_kc3)) = true := by decide +kernel
theorem xp_29 (w : Value) : xk_meth (xt_G w) 29 (⟨"java/lang/StringUTF16", "checkBoundsOffCount", "(II[B)V"⟩, prog_28_method_94_code, 3, none) := xk_meth_of (by decide +kernel) xw_234 rfl rfl (by decide) rfl xm_29 (fun q h => xl_n3 w q h) (xl_c3 w)
theorem xm_30 : xt_b30.all (xk_row prog_28_method_6_code 1 (xt_kn3) (xt_kc3)) = true := by decide +kernel
theorem xp_30 (w : Value) : xk_meth (xt_G w) 30 (⟨"java/lang/StringUTF16", "length", "([B)I"⟩, prog_28_method_6_code, 1, some (.int)) := xk_meth_of (by decide +kernel) xw_237 rfl rfl (by decide) rfl xm_30 (fun q h => xl_n3 w q h) (xl_c3 w)
theorem xm_31 : xt_b31.all (xk_row prog_25_method_157_code 3 (xt_kn11) (xt_kc11)) = true := by decide +kernel
theorem xp_31 (w : Value) : xk_meth (xt_G w) 31 (⟨"java/lang/String", "checkBoundsOffCount", "(III)I"⟩, prog_25_method_157_code, 3, some (.int)) := xk_meth_of (by decide +kernel) xw_240 rfl rfl (by decide) rfl xm_31 (fun q h => xl_n11 w q h) (xl_c11 w)
theorem xm_32 : xt_b32.all (xk_row prog_41_method_13_code 4 ([]) ([])) = true := by decide +kernel
theorem xp_32 (w : Value) : xk_meth (xt_G w) 32 (⟨"jdk/internal/util/Preconditions", "checkFromIndexSize", "(IIILjava/util/function/BiFunction;)I"⟩, prog_41_method_13_code, 4, some (.int)) := xk_meth_of (by decide +kernel) xw_245 rfl rfl (by decide) rfl xm_32 (fun _ h => absurd h List.not_mem_nil) (fun _ h => absurd h List.not_mem_nil)
theorem xm_33 : xt_b33.all (xk_row prog_28_method_4_code 3 (xt_kn3) (xt_kc3)) = true := by decide +kernel
theorem xp_33 (w : Value) : xk_meth (xt_G w) 33 (⟨"java/lang/StringUTF16", "putChar", "([BII)V"⟩, prog_28_method_4_code, 3, none) := xk_meth_of (by decide +kernel) xw_248 rfl rfl (by decide) rfl xm_33 (fun q h => xl_n3 w q h) (xl_c3 w)
theorem xm_34 : xt_b34.all (xk_row prog_28_method_71_code 3 (xt_kn3) (xt_kc3)) = true := by decide +kernel
theorem xp_34 (w : Value) : xk_meth (xt_G w) 34 (⟨"java/lang/StringUTF16", "putCharSB", "([BII)V"⟩, prog_28_method_71_code, 3, none) := xk_meth_of (by decide +kernel) xw_257 rfl rfl (by decide) rfl xm_34 (fun q h => xl_n3 w q h) (xl_c3 w)
theorem xm_35 : xt_b35.all (xk_row prog_28_method_91_code 2 (xt_kn3) (xt_kc3)) = true := by decide +kernel
theorem xp_35 (w : Value) : xk_meth (xt_G w) 35 (⟨"java/lang/StringUTF16", "checkIndex", "(I[B)V"⟩, prog_28_method_91_code, 2, none) := xk_meth_of (by decide +kernel) xw_260 rfl rfl (by decide) rfl xm_35 (fun q h => xl_n3 w q h) (xl_c3 w)
theorem xm_36 : xt_b36.all (xk_row prog_25_method_155_code 2 (xt_kn11) (xt_kc11)) = true := by decide +kernel
theorem xp_36 (w : Value) : xk_meth (xt_G w) 36 (⟨"java/lang/String", "checkIndex", "(II)V"⟩, prog_25_method_155_code, 2, none) := xk_meth_of (by decide +kernel) xw_263 rfl rfl (by decide) rfl xm_36 (fun q h => xl_n11 w q h) (xl_c11 w)
theorem xm_37 : xt_b37.all (xk_row prog_41_method_11_code 3 ([]) ([])) = true := by decide +kernel
theorem xp_37 (w : Value) : xk_meth (xt_G w) 37 (⟨"jdk/internal/util/Preconditions", "checkIndex", "(IILjava/util/function/BiFunction;)I"⟩, prog_41_method_11_code, 3, some (.int)) := xk_meth_of (by decide +kernel) xw_266 rfl rfl (by decide) rfl xm_37 (fun _ h => absurd h List.not_mem_nil) (fun _ h => absurd h List.not_mem_nil)
theorem xm_38 : xt_b38.all (xk_row prog_1_method_6_code 4 (xt_kn0) (xt_kc0)) = true := by decide +kernel
theorem xp_38 (w : Value) : xk_meth (xt_G w) 38 (⟨"ContractDesk", "needs", "(II)Z"⟩, prog_1_method_6_code, 4, some (.boolean)) := xk_meth_of (by decide +kernel) xw_270 rfl rfl (by decide) rfl xm_38 (fun q h => xl_n0 w q h) (xl_c0 w)
theorem xm_39 : xt_b39.all (xk_row prog_1_method_15_code 2 (xt_kn0) (xt_kc0)) = true := by decide +kernel
theorem xp_39 (w : Value) : xk_meth (xt_G w) 39 (⟨"ContractDesk", "find", "(I)LContractDesk$Interaction;"⟩, prog_1_method_15_code, 2, some (.object "ContractDesk$Interaction")) := xk_meth_of (by decide +kernel) xw_274 rfl rfl (by decide) rfl xm_39 (fun q h => xl_n0 w q h) (xl_c0 w)
theorem xm_40 : xt_b40.all (xk_row prog_10_method_2_code 1 (xt_kn4) (xt_kc4)) = true := by decide +kernel
theorem xp_40 (w : Value) : xk_meth (xt_G w) 40 (⟨"ContractDesk$States", "exists", "(I)Z"⟩, prog_10_method_2_code, 1, some (.boolean)) := xk_meth_of (by decide +kernel) xw_277 rfl rfl (by decide) rfl xm_40 (fun q h => xl_n4 w q h) (xl_c4 w)
theorem xm_41 : xt_b41.all (xk_row prog_4_method_8_code 2 (xt_kn12) (xt_kc12)) = true := by decide +kernel
theorem xp_41 (w : Value) : xk_meth (xt_G w) 41 (⟨"ContractDesk$Interaction", "addState", "(I)Z"⟩, prog_4_method_8_code, 2, some (.boolean)) := xk_meth_of (by decide +kernel) xw_281 rfl rfl (by decide) rfl xm_41 (fun q h => xl_n12 w q h) (xl_c12 w)
theorem xm_42 : xt_b42.all (xk_row prog_4_method_9_code 3 (xt_kn12) (xt_kc12)) = true := by decide +kernel
theorem xp_42 (w : Value) : xk_meth (xt_G w) 42 (⟨"ContractDesk$Interaction", "hasState", "(I)Z"⟩, prog_4_method_9_code, 3, some (.boolean)) := xk_meth_of (by decide +kernel) xw_286 rfl rfl (by decide) rfl xm_42 (fun q h => xl_n12 w q h) (xl_c12 w)
theorem xm_43 : xt_b43.all (xk_row prog_1_method_7_code 3 (xt_kn0) (xt_kc0)) = true := by decide +kernel
theorem xp_43 (w : Value) : xk_meth (xt_G w) 43 (⟨"ContractDesk", "handler", "(II)Z"⟩, prog_1_method_7_code, 3, some (.boolean)) := xk_meth_of (by decide +kernel) xw_290 rfl rfl (by decide) rfl xm_43 (fun q h => xl_n0 w q h) (xl_c0 w)
theorem xm_44 : xt_b44.all (xk_row prog_10_method_3_code 3 (xt_kn4) (xt_kc4)) = true := by decide +kernel
theorem xp_44 (w : Value) : xk_meth (xt_G w) 44 (⟨"ContractDesk$States", "assign", "(II)Z"⟩, prog_10_method_3_code, 3, some (.boolean)) := xk_meth_of (by decide +kernel) xw_294 rfl rfl (by decide) rfl xm_44 (fun q h => xl_n4 w q h) (xl_c4 w)
theorem xm_45 : xt_b45.all (xk_row prog_1_method_8_code 4 (xt_kn0) (xt_kc0)) = true := by decide +kernel
theorem xp_45 (w : Value) : xk_meth (xt_G w) 45 (⟨"ContractDesk", "select", "(I)I"⟩, prog_1_method_8_code, 4, some (.int)) := xk_meth_of (by decide +kernel) xw_299 rfl rfl (by decide) rfl xm_45 (fun q h => xl_n0 w q h) (xl_c0 w)
theorem xm_46 : xt_b46.all (xk_row prog_1_method_16_code 2 (xt_kn0) (xt_kc0)) = true := by decide +kernel
theorem xp_46 (w : Value) : xk_meth (xt_G w) 46 (⟨"ContractDesk", "takeText", "()LContractDesk$Cursor;"⟩, prog_1_method_16_code, 2, some (.object "ContractDesk$Cursor")) := xk_meth_of (by decide +kernel) xw_303 rfl rfl (by decide) rfl xm_46 (fun q h => xl_n0 w q h) (xl_c0 w)
theorem xm_47 : xt_b47.all (xk_row prog_26_method_42_code 1 (xt_kn1) (xt_kc1)) = true := by decide +kernel
theorem xp_47 (w : Value) : xk_meth (xt_G w) 47 (⟨"java/lang/StringBuilder", "toString", "()Ljava/lang/String;"⟩, prog_26_method_42_code, 1, some (.object "java/lang/String")) := xk_meth_of (by decide +kernel) xw_309 rfl rfl (by decide) rfl xm_47 (fun q h => xl_n1 w q h) (xl_c1 w)
theorem xm_48 : xt_b48.all (xk_row prog_25_method_53_code 2 (xt_kn11 ++ xt_kf11) (xt_kc11)) = true := by decide +kernel
theorem xp_48 (w : Value) : xk_meth (xt_G w) 48 (⟨"java/lang/String", "<init>", "(Ljava/lang/StringBuilder;)V"⟩, prog_25_method_53_code, 2, none) := xk_meth_of (by decide +kernel) xw_314 rfl rfl (by decide) rfl xm_48 (fun q h => (List.mem_append.mp h).elim (xl_n11 w q) (xl_f11 w rfl q)) (xl_c11 w)
theorem xm_49 : xt_b49.all (xk_row prog_25_method_150_code 5 (xt_kn11 ++ xt_kf11) (xt_kc11)) = true := by decide +kernel
theorem xp_49 (w : Value) : xk_meth (xt_G w) 49 (⟨"java/lang/String", "<init>", "(Ljava/lang/AbstractStringBuilder;Ljava/lang/Void;)V"⟩, prog_25_method_150_code, 5, none) := xk_meth_of (by decide +kernel) xw_317 rfl rfl (by decide) rfl xm_49 (fun q h => (List.mem_append.mp h).elim (xl_n11 w q) (xl_f11 w rfl q)) (xl_c11 w)
theorem xm_50 : xt_b50.all (xk_row prog_15_method_64_code 1 (xt_kn2) (xt_kc2)) = true := by decide +kernel
theorem xp_50 (w : Value) : xk_meth (xt_G w) 50 (⟨"java/lang/AbstractStringBuilder", "getValue", "()[B"⟩, prog_15_method_64_code, 1, some (.array (.byte))) := xk_meth_of (by decide +kernel) xw_323 rfl rfl (by decide) rfl xm_50 (fun q h => xl_n2 w q h) (xl_c2 w)
theorem xm_51 : xt_b51.all (xk_row prog_34_method_132_code 3 (xt_kn9) (xt_kc9)) = true := by decide +kernel
theorem xp_51 (w : Value) : xk_meth (xt_G w) 51 (⟨"java/util/Arrays", "copyOfRange", "([BII)[B"⟩, prog_34_method_132_code, 3, some (.array (.byte))) := xk_meth_of (by decide +kernel) xw_328 rfl rfl (by decide) rfl xm_51 (fun q h => xl_n9 w q h) (xl_c9 w)
theorem xm_52 : xt_b52.all (xk_row prog_34_method_133_code 5 (xt_kn9) (xt_kc9)) = true := by decide +kernel
theorem xp_52 (w : Value) : xk_meth (xt_G w) 52 (⟨"java/util/Arrays", "copyOfRangeByte", "([BII)[B"⟩, prog_34_method_133_code, 5, some (.array (.byte))) := xk_meth_of (by decide +kernel) xw_331 rfl rfl (by decide) rfl xm_52 (fun q h => xl_n9 w q h) (xl_c9 w)
theorem xm_53 : xt_b53.all (xk_row prog_34_method_131_code 2 (xt_kn9) (xt_kc9)) = true := by decide +kernel
theorem xp_53 (w : Value) : xk_meth (xt_G w) 53 (⟨"java/util/Arrays", "checkLength", "(II)V"⟩, prog_34_method_131_code, 2, none) := xk_meth_of (by decide +kernel) xw_334 rfl rfl (by decide) rfl xm_53 (fun q h => xl_n9 w q h) (xl_c9 w)
theorem xm_54 : xt_b54.all (xk_row prog_28_method_17_code 6 (xt_kn3) (xt_kc3)) = true := by decide +kernel
theorem xp_54 (w : Value) : xk_meth (xt_G w) 54 (⟨"java/lang/StringUTF16", "compress", "([BII)[B"⟩, prog_28_method_17_code, 6, some (.array (.byte))) := xk_meth_of (by decide +kernel) xw_338 rfl rfl (by decide) rfl xm_54 (fun q h => xl_n3 w q h) (xl_c3 w)
theorem xm_55 : xt_b55.all (xk_row prog_28_method_22_code 7 (xt_kn3) (xt_kc3)) = true := by decide +kernel
theorem xp_55 (w : Value) : xk_meth (xt_G w) 55 (⟨"java/lang/StringUTF16", "compress", "([BI[BII)I"⟩, prog_28_method_22_code, 7, some (.int)) := xk_meth_of (by decide +kernel) xw_341 rfl rfl (by decide) rfl xm_55 (fun q h => xl_n3 w q h) (xl_c3 w)
theorem xm_56 : xt_b56.all (xk_row prog_28_method_5_code 2 (xt_kn3) (xt_kc3)) = true := by decide +kernel
theorem xp_56 (w : Value) : xk_meth (xt_G w) 56 (⟨"java/lang/StringUTF16", "getChar", "([BI)C"⟩, prog_28_method_5_code, 2, some (.char)) := xk_meth_of (by decide +kernel) xw_344 rfl rfl (by decide) rfl xm_56 (fun q h => xl_n3 w q h) (xl_c3 w)
theorem xm_57 : xt_b57.all (xk_row prog_28_method_15_code 2 (xt_kn3) (xt_kc3)) = true := by decide +kernel
theorem xp_57 (w : Value) : xk_meth (xt_G w) 57 (⟨"java/lang/StringUTF16", "coderFromArrayLen", "([BI)B"⟩, prog_28_method_15_code, 2, some (.byte)) := xk_meth_of (by decide +kernel) xw_348 rfl rfl (by decide) rfl xm_57 (fun q h => xl_n3 w q h) (xl_c3 w)
theorem xm_58 : xt_b58.all (xk_row prog_3_method_1_code 2 (xt_kn13 ++ xt_kf13) (xt_kc13)) = true := by decide +kernel
theorem xp_58 (w : Value) : xk_meth (xt_G w) 58 (⟨"ContractDesk$Cursor", "<init>", "(Ljava/lang/String;)V"⟩, prog_3_method_1_code, 2, none) := xk_meth_of (by decide +kernel) xw_362 rfl rfl (by decide) rfl xm_58 (fun q h => (List.mem_append.mp h).elim (xl_n13 w q) (xl_f13 w rfl q)) (xl_c13 w)
theorem xm_59 : xt_b59.all (xk_row prog_26_method_89_code 2 (xt_kn1) (xt_kc1)) = true := by decide +kernel
theorem xp_59 (w : Value) : xk_meth (xt_G w) 59 (⟨"java/lang/StringBuilder", "setLength", "(I)V"⟩, prog_26_method_89_code, 2, none) := xk_meth_of (by decide +kernel) xw_374 rfl rfl (by decide) rfl xm_59 (fun q h => xl_n1 w q h) (xl_c1 w)
theorem xm_60 : xt_b60.all (xk_row prog_15_method_13_code 2 (xt_kn2) (xt_kc2)) = true := by decide +kernel
theorem xp_60 (w : Value) : xk_meth (xt_G w) 60 (⟨"java/lang/AbstractStringBuilder", "setLength", "(I)V"⟩, prog_15_method_13_code, 2, none) := xk_meth_of (by decide +kernel) xw_377 rfl rfl (by decide) rfl xm_60 (fun q h => xl_n2 w q h) (xl_c2 w)
theorem xm_61 : xt_b61.all (xk_row prog_27_method_48_code 3 (xt_kn10) (xt_kc10)) = true := by decide +kernel
theorem xp_61 (w : Value) : xk_meth (xt_G w) 61 (⟨"java/lang/StringLatin1", "fillNull", "([BII)V"⟩, prog_27_method_48_code, 3, none) := xk_meth_of (by decide +kernel) xw_380 rfl rfl (by decide) rfl xm_61 (fun q h => xl_n10 w q h) (xl_c10 w)
theorem xm_62 : xt_b62.all (xk_row prog_34_method_110_code 5 (xt_kn9) (xt_kc9)) = true := by decide +kernel
theorem xp_62 (w : Value) : xk_meth (xt_G w) 62 (⟨"java/util/Arrays", "fill", "([BIIB)V"⟩, prog_34_method_110_code, 5, none) := xk_meth_of (by decide +kernel) xw_383 rfl rfl (by decide) rfl xm_62 (fun q h => xl_n9 w q h) (xl_c9 w)
theorem xm_63 : xt_b63.all (xk_row prog_34_method_30_code 3 (xt_kn9) (xt_kc9)) = true := by decide +kernel
theorem xp_63 (w : Value) : xk_meth (xt_G w) 63 (⟨"java/util/Arrays", "rangeCheck", "(III)V"⟩, prog_34_method_30_code, 3, none) := xk_meth_of (by decide +kernel) xw_386 rfl rfl (by decide) rfl xm_63 (fun q h => xl_n9 w q h) (xl_c9 w)
theorem xm_64 : xt_b64.all (xk_row prog_28_method_70_code 3 (xt_kn3) (xt_kc3)) = true := by decide +kernel
theorem xp_64 (w : Value) : xk_meth (xt_G w) 64 (⟨"java/lang/StringUTF16", "fillNull", "([BII)V"⟩, prog_28_method_70_code, 3, none) := xk_meth_of (by decide +kernel) xw_389 rfl rfl (by decide) rfl xm_64 (fun q h => xl_n3 w q h) (xl_c3 w)
theorem xm_65 : xt_b65.all (xk_row prog_8_method_3_code 2 (xt_kn6) (xt_kc6)) = true := by decide +kernel
theorem xp_65 (w : Value) : xk_meth (xt_G w) 65 (⟨"ContractDesk$Path", "readPlace", "(LContractDesk$Cursor;)LContractDesk$Path;"⟩, prog_8_method_3_code, 2, some (.object "ContractDesk$Path")) := xk_meth_of (by decide +kernel) xw_393 rfl rfl (by decide) rfl xm_65 (fun q h => xl_n6 w q h) (xl_c6 w)
theorem xm_66 : xt_b66.all (xk_row prog_8_method_4_code 6 (xt_kn6) (xt_kc6)) = true := by decide +kernel
theorem xp_66 (w : Value) : xk_meth (xt_G w) 66 (⟨"ContractDesk$Path", "readPath", "(LContractDesk$Cursor;IZ)LContractDesk$Path;"⟩, prog_8_method_4_code, 6, some (.object "ContractDesk$Path")) := xk_meth_of (by decide +kernel) xw_396 rfl rfl (by decide) rfl xm_66 (fun q h => xl_n6 w q h) (xl_c6 w)
theorem xm_67 : xt_b67.all (xk_row prog_3_method_6_code 2 (xt_kn13) (xt_kc13)) = true := by decide +kernel
theorem xp_67 (w : Value) : xk_meth (xt_G w) 67 (⟨"ContractDesk$Cursor", "accept", "(C)Z"⟩, prog_3_method_6_code, 2, some (.boolean)) := xk_meth_of (by decide +kernel) xw_400 rfl rfl (by decide) rfl xm_67 (fun q h => xl_n13 w q h) (xl_c13 w)
theorem xm_68 : xt_b68.all (xk_row prog_3_method_4_code 1 (xt_kn13) (xt_kc13)) = true := by decide +kernel
theorem xp_68 (w : Value) : xk_meth (xt_G w) 68 (⟨"ContractDesk$Cursor", "peek", "()C"⟩, prog_3_method_4_code, 1, some (.char)) := xk_meth_of (by decide +kernel) xw_404 rfl rfl (by decide) rfl xm_68 (fun q h => xl_n13 w q h) (xl_c13 w)
theorem xm_69 : xt_b69.all (xk_row prog_25_method_54_code 1 (xt_kn11) (xt_kc11)) = true := by decide +kernel
theorem xp_69 (w : Value) : xk_meth (xt_G w) 69 (⟨"java/lang/String", "length", "()I"⟩, prog_25_method_54_code, 1, some (.int)) := xk_meth_of (by decide +kernel) xw_408 rfl rfl (by decide) rfl xm_69 (fun q h => xl_n11 w q h) (xl_c11 w)
theorem xm_70 : xt_b70.all (xk_row prog_25_method_152_code 1 (xt_kn11) (xt_kc11)) = true := by decide +kernel
theorem xp_70 (w : Value) : xk_meth (xt_G w) 70 (⟨"java/lang/String", "coder", "()B"⟩, prog_25_method_152_code, 1, some (.byte)) := xk_meth_of (by decide +kernel) xw_412 rfl rfl (by decide) rfl xm_70 (fun q h => xl_n11 w q h) (xl_c11 w)
theorem xm_71 : xt_b71.all (xk_row prog_25_method_56_code 2 (xt_kn11) (xt_kc11)) = true := by decide +kernel
theorem xp_71 (w : Value) : xk_meth (xt_G w) 71 (⟨"java/lang/String", "charAt", "(I)C"⟩, prog_25_method_56_code, 2, some (.char)) := xk_meth_of (by decide +kernel) xw_416 rfl rfl (by decide) rfl xm_71 (fun q h => xl_n11 w q h) (xl_c11 w)
theorem xm_72 : xt_b72.all (xk_row prog_25_method_154_code 1 (xt_kn11) (xt_kc11)) = true := by decide +kernel
theorem xp_72 (w : Value) : xk_meth (xt_G w) 72 (⟨"java/lang/String", "isLatin1", "()Z"⟩, prog_25_method_154_code, 1, some (.boolean)) := xk_meth_of (by decide +kernel) xw_420 rfl rfl (by decide) rfl xm_72 (fun q h => xl_n11 w q h) (xl_c11 w)
theorem xm_73 : xt_b73.all (xk_row prog_27_method_2_code 2 (xt_kn10) (xt_kc10)) = true := by decide +kernel
theorem xp_73 (w : Value) : xk_meth (xt_G w) 73 (⟨"java/lang/StringLatin1", "charAt", "([BI)C"⟩, prog_27_method_2_code, 2, some (.char)) := xk_meth_of (by decide +kernel) xw_423 rfl rfl (by decide) rfl xm_73 (fun q h => xl_n10 w q h) (xl_c10 w)
theorem xm_74 : xt_b74.all (xk_row prog_28_method_83_code 2 (xt_kn3) (xt_kc3)) = true := by decide +kernel
theorem xp_74 (w : Value) : xk_meth (xt_G w) 74 (⟨"java/lang/StringUTF16", "charAt", "([BI)C"⟩, prog_28_method_83_code, 2, some (.char)) := xk_meth_of (by decide +kernel) xw_427 rfl rfl (by decide) rfl xm_74 (fun q h => xl_n3 w q h) (xl_c3 w)
theorem xm_75 : xt_b75.all (xk_row prog_3_method_5_code 2 (xt_kn13) (xt_kc13)) = true := by decide +kernel
theorem xp_75 (w : Value) : xk_meth (xt_G w) 75 (⟨"ContractDesk$Cursor", "next", "()C"⟩, prog_3_method_5_code, 2, some (.char)) := xk_meth_of (by decide +kernel) xw_434 rfl rfl (by decide) rfl xm_75 (fun q h => xl_n13 w q h) (xl_c13 w)
theorem xm_76 : xt_b76.all (xk_row prog_8_method_5_code 3 (xt_kn6) (xt_kc6)) = true := by decide +kernel
theorem xp_76 (w : Value) : xk_meth (xt_G w) 76 (⟨"ContractDesk$Path", "readKey", "(LContractDesk$Cursor;Z)I"⟩, prog_8_method_5_code, 3, some (.int)) := xk_meth_of (by decide +kernel) xw_437 rfl rfl (by decide) rfl xm_76 (fun q h => xl_n6 w q h) (xl_c6 w)
theorem xm_77 : xt_b77.all (xk_row prog_3_method_8_code 3 (xt_kn13) (xt_kc13)) = true := by decide +kernel
theorem xp_77 (w : Value) : xk_meth (xt_G w) 77 (⟨"ContractDesk$Cursor", "acceptLetters", "(I)I"⟩, prog_3_method_8_code, 3, some (.int)) := xk_meth_of (by decide +kernel) xw_441 rfl rfl (by decide) rfl xm_77 (fun q h => xl_n13 w q h) (xl_c13 w)
theorem xm_78 : xt_b78.all (xk_row prog_8_method_2_code 1 (xt_kn6) (xt_kc6)) = true := by decide +kernel
theorem xp_78 (w : Value) : xk_meth (xt_G w) 78 (⟨"ContractDesk$Path", "keyStep", "(C)I"⟩, prog_8_method_2_code, 1, some (.int)) := xk_meth_of (by decide +kernel) xw_444 rfl rfl (by decide) rfl xm_78 (fun q h => xl_n6 w q h) (xl_c6 w)
theorem xm_79 : xt_b79.all (xk_row prog_8_method_6_code 3 (xt_kn6) (xt_kc6)) = true := by decide +kernel
theorem xp_79 (w : Value) : xk_meth (xt_G w) 79 (⟨"ContractDesk$Path", "readNumber", "(LContractDesk$Cursor;Z)I"⟩, prog_8_method_6_code, 3, some (.int)) := xk_meth_of (by decide +kernel) xw_447 rfl rfl (by decide) rfl xm_79 (fun q h => xl_n6 w q h) (xl_c6 w)
theorem xm_80 : xt_b80.all (xk_row prog_8_method_7_code 5 (xt_kn6) (xt_kc6)) = true := by decide +kernel
theorem xp_80 (w : Value) : xk_meth (xt_G w) 80 (⟨"ContractDesk$Path", "readDigits", "(LContractDesk$Cursor;Z)I"⟩, prog_8_method_7_code, 5, some (.int)) := xk_meth_of (by decide +kernel) xw_450 rfl rfl (by decide) rfl xm_80 (fun q h => xl_n6 w q h) (xl_c6 w)
theorem xm_81 : xt_b81.all (xk_row prog_3_method_9_code 3 (xt_kn13) (xt_kc13)) = true := by decide +kernel
theorem xp_81 (w : Value) : xk_meth (xt_G w) 81 (⟨"ContractDesk$Cursor", "acceptDigits", "(I)I"⟩, prog_3_method_9_code, 3, some (.int)) := xk_meth_of (by decide +kernel) xw_454 rfl rfl (by decide) rfl xm_81 (fun q h => xl_n13 w q h) (xl_c13 w)
theorem xm_82 : xt_b82.all (xk_row prog_8_method_8_code 2 (xt_kn6) (xt_kc6)) = true := by decide +kernel
theorem xp_82 (w : Value) : xk_meth (xt_G w) 82 (⟨"ContractDesk$Path", "enter", "(I)V"⟩, prog_8_method_8_code, 2, none) := xk_meth_of (by decide +kernel) xw_458 rfl rfl (by decide) rfl xm_82 (fun q h => xl_n6 w q h) (xl_c6 w)
theorem xm_83 : xt_b83.all (xk_row prog_3_method_3_code 1 (xt_kn13) (xt_kc13)) = true := by decide +kernel
theorem xp_83 (w : Value) : xk_meth (xt_G w) 83 (⟨"ContractDesk$Cursor", "atEnd", "()Z"⟩, prog_3_method_3_code, 1, some (.boolean)) := xk_meth_of (by decide +kernel) xw_462 rfl rfl (by decide) rfl xm_83 (fun q h => xl_n13 w q h) (xl_c13 w)
theorem xm_84 : xt_b84.all (xk_row prog_4_method_6_code 4 (xt_kn12) (xt_kc12)) = true := by decide +kernel
theorem xp_84 (w : Value) : xk_meth (xt_G w) 84 (⟨"ContractDesk$Interaction", "selected", "(LContractDesk$Path;)I"⟩, prog_4_method_6_code, 4, some (.int)) := xk_meth_of (by decide +kernel) xw_466 rfl rfl (by decide) rfl xm_84 (fun q h => xl_n12 w q h) (xl_c12 w)
theorem xm_85 : xt_b85.all (xk_row prog_9_method_4_code 2 (xt_kn14) (xt_kc14)) = true := by decide +kernel
theorem xp_85 (w : Value) : xk_meth (xt_G w) 85 (⟨"ContractDesk$Rule", "fits", "(LContractDesk$Path;)Z"⟩, prog_9_method_4_code, 2, some (.boolean)) := xk_meth_of (by decide +kernel) xw_470 rfl rfl (by decide) rfl xm_85 (fun q h => xl_n14 w q h) (xl_c14 w)
theorem xm_86 : xt_b86.all (xk_row prog_8_method_12_code 3 (xt_kn6) (xt_kc6)) = true := by decide +kernel
theorem xp_86 (w : Value) : xk_meth (xt_G w) 86 (⟨"ContractDesk$Path", "fits", "(LContractDesk$Path;)Z"⟩, prog_8_method_12_code, 3, some (.boolean)) := xk_meth_of (by decide +kernel) xw_474 rfl rfl (by decide) rfl xm_86 (fun q h => xl_n6 w q h) (xl_c6 w)
theorem xm_87 : xt_b87.all (xk_row prog_8_method_13_code 2 (xt_kn6) (xt_kc6)) = true := by decide +kernel
theorem xp_87 (w : Value) : xk_meth (xt_G w) 87 (⟨"ContractDesk$Path", "stepFits", "(II)Z"⟩, prog_8_method_13_code, 2, some (.boolean)) := xk_meth_of (by decide +kernel) xw_477 rfl rfl (by decide) rfl xm_87 (fun q h => xl_n6 w q h) (xl_c6 w)
theorem xm_88 : xt_b88.all (xk_row prog_9_method_5_code 4 (xt_kn14) (xt_kc14)) = true := by decide +kernel
theorem xp_88 (w : Value) : xk_meth (xt_G w) 88 (⟨"ContractDesk$Rule", "outranks", "(LContractDesk$Rule;)Z"⟩, prog_9_method_5_code, 4, some (.boolean)) := xk_meth_of (by decide +kernel) xw_481 rfl rfl (by decide) rfl xm_88 (fun q h => xl_n14 w q h) (xl_c14 w)
theorem xm_89 : xt_b89.all (xk_row prog_8_method_14_code 3 (xt_kn6) (xt_kc6)) = true := by decide +kernel
theorem xp_89 (w : Value) : xk_meth (xt_G w) 89 (⟨"ContractDesk$Path", "weight", "()I"⟩, prog_8_method_14_code, 3, some (.int)) := xk_meth_of (by decide +kernel) xw_485 rfl rfl (by decide) rfl xm_89 (fun q h => xl_n6 w q h) (xl_c6 w)
theorem xm_90 : xt_b90.all (xk_row prog_8_method_11_code 1 (xt_kn6) (xt_kc6)) = true := by decide +kernel
theorem xp_90 (w : Value) : xk_meth (xt_G w) 90 (⟨"ContractDesk$Path", "length", "()I"⟩, prog_8_method_11_code, 1, some (.int)) := xk_meth_of (by decide +kernel) xw_489 rfl rfl (by decide) rfl xm_90 (fun q h => xl_n6 w q h) (xl_c6 w)
theorem xm_91 : xt_b91.all (xk_row prog_1_method_10_code 1 (xt_kn0) (xt_kc0)) = true := by decide +kernel
theorem xp_91 (w : Value) : xk_meth (xt_G w) 91 (⟨"ContractDesk", "listed", "()I"⟩, prog_1_method_10_code, 1, some (.int)) := xk_meth_of (by decide +kernel) xw_493 rfl rfl (by decide) rfl xm_91 (fun q h => xl_n0 w q h) (xl_c0 w)
theorem xm_92 : xt_b92.all (xk_row prog_2_method_3_code 1 (xt_kn5) (xt_kc5)) = true := by decide +kernel
theorem xp_92 (w : Value) : xk_meth (xt_G w) 92 (⟨"ContractDesk$Comparison", "listedCount", "()I"⟩, prog_2_method_3_code, 1, some (.int)) := xk_meth_of (by decide +kernel) xw_497 rfl rfl (by decide) rfl xm_92 (fun q h => xl_n5 w q h) (xl_c5 w)
theorem xm_93 : xt_b93.all (xk_row prog_1_method_11_code 3 (xt_kn0) (xt_kc0)) = true := by decide +kernel
theorem xp_93 (w : Value) : xk_meth (xt_G w) 93 (⟨"ContractDesk", "mismatch", "(I)I"⟩, prog_1_method_11_code, 3, some (.int)) := xk_meth_of (by decide +kernel) xw_501 rfl rfl (by decide) rfl xm_93 (fun q h => xl_n0 w q h) (xl_c0 w)
theorem xm_94 : xt_b94.all (xk_row prog_2_method_4_code 2 (xt_kn5) (xt_kc5)) = true := by decide +kernel
theorem xp_94 (w : Value) : xk_meth (xt_G w) 94 (⟨"ContractDesk$Comparison", "listedAt", "(I)LContractDesk$Mismatch;"⟩, prog_2_method_4_code, 2, some (.object "ContractDesk$Mismatch")) := xk_meth_of (by decide +kernel) xw_505 rfl rfl (by decide) rfl xm_94 (fun q h => xl_n5 w q h) (xl_c5 w)
theorem xm_95 : xt_b95.all (xk_row prog_7_method_3_code 1 (xt_kn7) (xt_kc7)) = true := by decide +kernel
theorem xp_95 (w : Value) : xk_meth (xt_G w) 95 (⟨"ContractDesk$Mismatch", "kind", "()I"⟩, prog_7_method_3_code, 1, some (.int)) := xk_meth_of (by decide +kernel) xw_510 rfl rfl (by decide) rfl xm_95 (fun q h => xl_n7 w q h) (xl_c7 w)
theorem xm_96 : xt_b96.all (xk_row prog_1_method_12_code 4 (xt_kn0) (xt_kc0)) = true := by decide +kernel
theorem xp_96 (w : Value) : xk_meth (xt_G w) 96 (⟨"ContractDesk", "letter", "(II)I"⟩, prog_1_method_12_code, 4, some (.int)) := xk_meth_of (by decide +kernel) xw_514 rfl rfl (by decide) rfl xm_96 (fun q h => xl_n0 w q h) (xl_c0 w)
theorem xm_97 : xt_b97.all (xk_row prog_7_method_4_code 2 (xt_kn7) (xt_kc7)) = true := by decide +kernel
theorem xp_97 (w : Value) : xk_meth (xt_G w) 97 (⟨"ContractDesk$Mismatch", "placeCode", "(I)I"⟩, prog_7_method_4_code, 2, some (.int)) := xk_meth_of (by decide +kernel) xw_518 rfl rfl (by decide) rfl xm_97 (fun q h => xl_n7 w q h) (xl_c7 w)
theorem xm_98 : xt_b98.all (xk_row prog_26_method_88_code 2 (xt_kn1) (xt_kc1)) = true := by decide +kernel
theorem xp_98 (w : Value) : xk_meth (xt_G w) 98 (⟨"java/lang/StringBuilder", "charAt", "(I)C"⟩, prog_26_method_88_code, 2, some (.char)) := xk_meth_of (by decide +kernel) xw_523 rfl rfl (by decide) rfl xm_98 (fun q h => xl_n1 w q h) (xl_c1 w)
theorem xm_99 : xt_b99.all (xk_row prog_15_method_14_code 5 (xt_kn2) (xt_kc2)) = true := by decide +kernel
theorem xp_99 (w : Value) : xk_meth (xt_G w) 99 (⟨"java/lang/AbstractStringBuilder", "charAt", "(I)C"⟩, prog_15_method_14_code, 5, some (.char)) := xk_meth_of (by decide +kernel) xw_526 rfl rfl (by decide) rfl xm_99 (fun q h => xl_n2 w q h) (xl_c2 w)
theorem xm_100 : xt_b100.all (xk_row prog_1_method_13_code 2 (xt_kn0) (xt_kc0)) = true := by decide +kernel
theorem xp_100 (w : Value) : xk_meth (xt_G w) 100 (⟨"ContractDesk", "event", "(I)I"⟩, prog_1_method_13_code, 2, some (.int)) := xk_meth_of (by decide +kernel) xw_533 rfl rfl (by decide) rfl xm_100 (fun q h => xl_n0 w q h) (xl_c0 w)
theorem xm_101 : xt_b101.all (xk_row prog_10_method_8_code 1 (xt_kn4) (xt_kc4)) = true := by decide +kernel
theorem xp_101 (w : Value) : xk_meth (xt_G w) 101 (⟨"ContractDesk$States", "eventCount", "()I"⟩, prog_10_method_8_code, 1, some (.int)) := xk_meth_of (by decide +kernel) xw_537 rfl rfl (by decide) rfl xm_101 (fun q h => xl_n4 w q h) (xl_c4 w)
theorem xm_102 : xt_b102.all (xk_row prog_10_method_9_code 2 (xt_kn4) (xt_kc4)) = true := by decide +kernel
theorem xp_102 (w : Value) : xk_meth (xt_G w) 102 (⟨"ContractDesk$States", "eventAt", "(I)I"⟩, prog_10_method_9_code, 2, some (.int)) := xk_meth_of (by decide +kernel) xw_541 rfl rfl (by decide) rfl xm_102 (fun q h => xl_n4 w q h) (xl_c4 w)
theorem xm_103 : xt_b103.all (xk_row prog_1_method_3_code 2 (xt_kn0) (xt_kc0)) = true := by decide +kernel
theorem xp_103 (w : Value) : xk_meth (xt_G w) 103 (⟨"ContractDesk", "make", "(Z)I"⟩, prog_1_method_3_code, 2, some (.int)) := xk_meth_of (by decide +kernel) xw_549 rfl rfl (by decide) rfl xm_103 (fun q h => xl_n0 w q h) (xl_c0 w)
theorem xm_108 : xt_b108.all (xk_row prog_4_method_1_code 2 (xt_kn12 ++ xt_kf12) (xt_kc12)) = true := by decide +kernel
theorem xp_108 (w : Value) : xk_meth (xt_G w) 108 (⟨"ContractDesk$Interaction", "<init>", "(Z)V"⟩, prog_4_method_1_code, 2, none) := xk_meth_of (by decide +kernel) xw_614 rfl rfl (by decide) rfl xm_108 (fun q h => (List.mem_append.mp h).elim (xl_n12 w q) (xl_f12 w rfl q)) (xl_c12 w)
theorem xm_109 : xt_b109.all (xk_row prog_1_method_4_code 4 (xt_kn0) (xt_kc0)) = true := by decide +kernel
theorem xp_109 (w : Value) : xk_meth (xt_G w) 109 (⟨"ContractDesk", "body", "(I)I"⟩, prog_1_method_4_code, 4, some (.int)) := xk_meth_of (by decide +kernel) xw_644 rfl rfl (by decide) rfl xm_109 (fun q h => xl_n0 w q h) (xl_c0 w)
theorem xm_110 : xt_b110.all (xk_row prog_11_method_2_code 2 (xt_kn15) (xt_kc15)) = true := by decide +kernel
theorem xp_110 (w : Value) : xk_meth (xt_G w) 110 (⟨"ContractDesk$Value", "read", "(LContractDesk$Cursor;)LContractDesk$Value;"⟩, prog_11_method_2_code, 2, some (.object "ContractDesk$Value")) := xk_meth_of (by decide +kernel) xw_647 rfl rfl (by decide) rfl xm_110 (fun q h => xl_n15 w q h) (xl_c15 w)
theorem xm_111 : xt_b111.all (xk_row prog_11_method_3_code 2 (xt_kn15) (xt_kc15)) = true := by decide +kernel
theorem xp_111 (w : Value) : xk_meth (xt_G w) 111 (⟨"ContractDesk$Value", "readValue", "(LContractDesk$Cursor;I)LContractDesk$Value;"⟩, prog_11_method_3_code, 2, some (.object "ContractDesk$Value")) := xk_meth_of (by decide +kernel) xw_650 rfl rfl (by decide) rfl xm_111 (fun q h => xl_n15 w q h) (xl_c15 w)
theorem xm_112 : xt_b112.all (xk_row prog_11_method_4_code 5 (xt_kn15) (xt_kc15)) = true := by decide +kernel
theorem xp_112 (w : Value) : xk_meth (xt_G w) 112 (⟨"ContractDesk$Value", "readArray", "(LContractDesk$Cursor;I)LContractDesk$Value;"⟩, prog_11_method_4_code, 5, some (.object "ContractDesk$Value")) := xk_meth_of (by decide +kernel) xw_654 rfl rfl (by decide) rfl xm_112 (fun q h => xl_n15 w q h) (xl_c15 w)
theorem xm_113 : xt_b113.all (xk_row prog_11_method_1_code 3 (xt_kn15 ++ xt_kf15) (xt_kc15)) = true := by decide +kernel
theorem xp_113 (w : Value) : xk_meth (xt_G w) 113 (⟨"ContractDesk$Value", "<init>", "(LContractDesk$Kind;Ljava/lang/String;)V"⟩, prog_11_method_1_code, 3, none) := xk_meth_of (by decide +kernel) xw_663 rfl rfl (by decide) rfl xm_113 (fun q h => (List.mem_append.mp h).elim (xl_n15 w q) (xl_f15 w rfl q)) (xl_c15 w)
theorem xm_114 : xt_b114.all (xk_row prog_33_method_2_code 1 (xt_kn16 ++ xt_kf16) (xt_kc16)) = true := by decide +kernel
theorem xp_114 (w : Value) : xk_meth (xt_G w) 114 (⟨"java/util/ArrayList", "<init>", "()V"⟩, prog_33_method_2_code, 1, none) := xk_meth_of (by decide +kernel) xw_669 rfl rfl (by decide) rfl xm_114 (fun q h => (List.mem_append.mp h).elim (xl_n16 w q) (xl_f16 w rfl q)) (xl_c16 w)
theorem xm_115 : xt_b115.all (xk_row prog_32_method_1_code 1 (xt_kn17 ++ xt_kf17) (xt_kc17)) = true := by decide +kernel
theorem xp_115 (w : Value) : xk_meth (xt_G w) 115 (⟨"java/util/AbstractList", "<init>", "()V"⟩, prog_32_method_1_code, 1, none) := xk_meth_of (by decide +kernel) xw_672 rfl rfl (by decide) rfl xm_115 (fun q h => (List.mem_append.mp h).elim (xl_n17 w q) (xl_f17 w rfl q)) (xl_c17 w)
theorem xm_116 : xt_b116.all (xk_row prog_31_method_1_code 1 (xt_kn18 ++ xt_kf18) (xt_kc18)) = true := by decide +kernel
theorem xp_116 (w : Value) : xk_meth (xt_G w) 116 (⟨"java/util/AbstractCollection", "<init>", "()V"⟩, prog_31_method_1_code, 1, none) := xk_meth_of (by decide +kernel) xw_675 rfl rfl (by decide) rfl xm_116 (fun q h => (List.mem_append.mp h).elim (xl_n18 w q) (xl_f18 w rfl q)) (xl_c18 w)
theorem xm_117 : xt_b117.all (xk_row prog_11_method_10_code 2 (xt_kn15) (xt_kc15)) = true := by decide +kernel
theorem xp_117 (w : Value) : xk_meth (xt_G w) 117 (⟨"ContractDesk$Value", "add", "(LContractDesk$Value;)V"⟩, prog_11_method_10_code, 2, none) := xk_meth_of (by decide +kernel) xw_710 rfl rfl (by decide) rfl xm_117 (fun q h => xl_n15 w q h) (xl_c15 w)
theorem xm_118 : xt_b118.all (xk_row prog_33_method_25_code 2 (xt_kn16) (xt_kc16)) = true := by decide +kernel
theorem xp_118 (w : Value) : xk_meth (xt_G w) 118 (⟨"java/util/ArrayList", "add", "(Ljava/lang/Object;)Z"⟩, prog_33_method_25_code, 2, some (.boolean)) := xk_meth_of (by decide +kernel) xw_714 rfl rfl (by decide) rfl xm_118 (fun q h => xl_n16 w q h) (xl_c16 w)
theorem xm_119 : xt_b119.all (xk_row prog_33_method_24_code 4 (xt_kn16) (xt_kc16)) = true := by decide +kernel
theorem xp_119 (w : Value) : xk_meth (xt_G w) 119 (⟨"java/util/ArrayList", "add", "(Ljava/lang/Object;[Ljava/lang/Object;I)V"⟩, prog_33_method_24_code, 4, none) := xk_meth_of (by decide +kernel) xw_718 rfl rfl (by decide) rfl xm_119 (fun q h => xl_n16 w q h) (xl_c16 w)
theorem xm_120 : xt_b120.all (xk_row prog_33_method_7_code 1 (xt_kn16) (xt_kc16)) = true := by decide +kernel
theorem xp_120 (w : Value) : xk_meth (xt_G w) 120 (⟨"java/util/ArrayList", "grow", "()[Ljava/lang/Object;"⟩, prog_33_method_7_code, 1, some (.array (.object "java/lang/Object"))) := xk_meth_of (by decide +kernel) xw_722 rfl rfl (by decide) rfl xm_120 (fun q h => xl_n16 w q h) (xl_c16 w)
theorem xm_121 : xt_b121.all (xk_row prog_33_method_6_code 4 (xt_kn16) (xt_kc16)) = true := by decide +kernel
theorem xp_121 (w : Value) : xk_meth (xt_G w) 121 (⟨"java/util/ArrayList", "grow", "(I)[Ljava/lang/Object;"⟩, prog_33_method_6_code, 4, some (.array (.object "java/lang/Object"))) := xk_meth_of (by decide +kernel) xw_726 rfl rfl (by decide) rfl xm_121 (fun q h => xl_n16 w q h) (xl_c16 w)
theorem xm_122 : xt_b122.all (xk_row prog_34_method_119_code 2 (xt_kn9) (xt_kc9)) = true := by decide +kernel
theorem xp_122 (w : Value) : xk_meth (xt_G w) 122 (⟨"java/util/Arrays", "copyOf", "([Ljava/lang/Object;I)[Ljava/lang/Object;"⟩, prog_34_method_119_code, 2, some (.array (.object "java/lang/Object"))) := xk_meth_of (by decide +kernel) xw_730 rfl rfl (by decide) rfl xm_122 (fun q h => xl_n9 w q h) (xl_c9 w)
theorem xm_123 : xt_b123.all (xk_row prog_34_method_120_code 4 (xt_kn9) (xt_kc9)) = true := by decide +kernel
theorem xp_123 (w : Value) : xk_meth (xt_G w) 123 (⟨"java/util/Arrays", "copyOf", "([Ljava/lang/Object;ILjava/lang/Class;)[Ljava/lang/Object;"⟩, prog_34_method_120_code, 4, some (.array (.object "java/lang/Object"))) := xk_meth_of (by decide +kernel) xw_754 rfl rfl (by decide) rfl xm_123 (fun q h => xl_n9 w q h) (xl_c9 w)
theorem xm_124 : xt_b124.all (xk_row prog_11_method_5_code 6 (xt_kn15) (xt_kc15)) = true := by decide +kernel
theorem xp_124 (w : Value) : xk_meth (xt_G w) 124 (⟨"ContractDesk$Value", "readObject", "(LContractDesk$Cursor;I)LContractDesk$Value;"⟩, prog_11_method_5_code, 6, some (.object "ContractDesk$Value")) := xk_meth_of (by decide +kernel) xw_762 rfl rfl (by decide) rfl xm_124 (fun q h => xl_n15 w q h) (xl_c15 w)
theorem xm_125 : xt_b125.all (xk_row prog_11_method_6_code 2 (xt_kn15) (xt_kc15)) = true := by decide +kernel
theorem xp_125 (w : Value) : xk_meth (xt_G w) 125 (⟨"ContractDesk$Value", "readKey", "(LContractDesk$Cursor;)C"⟩, prog_11_method_6_code, 2, some (.char)) := xk_meth_of (by decide +kernel) xw_767 rfl rfl (by decide) rfl xm_125 (fun q h => xl_n15 w q h) (xl_c15 w)
theorem xm_126 : xt_b126.all (xk_row prog_11_method_17_code 4 (xt_kn15) (xt_kc15)) = true := by decide +kernel
theorem xp_126 (w : Value) : xk_meth (xt_G w) 126 (⟨"ContractDesk$Value", "member", "(C)LContractDesk$Value;"⟩, prog_11_method_17_code, 4, some (.object "ContractDesk$Value")) := xk_meth_of (by decide +kernel) xw_772 rfl rfl (by decide) rfl xm_126 (fun q h => xl_n15 w q h) (xl_c15 w)
theorem xm_127 : xt_b127.all (xk_row prog_33_method_8_code 1 (xt_kn16) (xt_kc16)) = true := by decide +kernel
theorem xp_127 (w : Value) : xk_meth (xt_G w) 127 (⟨"java/util/ArrayList", "size", "()I"⟩, prog_33_method_8_code, 1, some (.int)) := xk_meth_of (by decide +kernel) xw_776 rfl rfl (by decide) rfl xm_127 (fun q h => xl_n16 w q h) (xl_c16 w)
theorem xm_128 : xt_b128.all (xk_row prog_33_method_20_code 2 (xt_kn16) (xt_kc16)) = true := by decide +kernel
theorem xp_128 (w : Value) : xk_meth (xt_G w) 128 (⟨"java/util/ArrayList", "get", "(I)Ljava/lang/Object;"⟩, prog_33_method_20_code, 2, some (.object "java/lang/Object")) := xk_meth_of (by decide +kernel) xw_780 rfl rfl (by decide) rfl xm_128 (fun q h => xl_n16 w q h) (xl_c16 w)
theorem xm_129 : xt_b129.all (xk_row prog_37_method_17_code 2 (xt_kn19) (xt_kc19)) = true := by decide +kernel
theorem xp_129 (w : Value) : xk_meth (xt_G w) 129 (⟨"java/util/Objects", "checkIndex", "(II)I"⟩, prog_37_method_17_code, 2, some (.int)) := xk_meth_of (by decide +kernel) xw_783 rfl rfl (by decide) rfl xm_129 (fun q h => xl_n19 w q h) (xl_c19 w)
theorem xm_130 : xt_b130.all (xk_row prog_33_method_18_code 2 (xt_kn16) (xt_kc16)) = true := by decide +kernel
theorem xp_130 (w : Value) : xk_meth (xt_G w) 130 (⟨"java/util/ArrayList", "elementData", "(I)Ljava/lang/Object;"⟩, prog_33_method_18_code, 2, some (.object "java/lang/Object")) := xk_meth_of (by decide +kernel) xw_788 rfl rfl (by decide) rfl xm_130 (fun q h => xl_n16 w q h) (xl_c16 w)
theorem xm_131 : xt_b131.all (xk_row prog_11_method_7_code 3 (xt_kn15) (xt_kc15)) = true := by decide +kernel
theorem xp_131 (w : Value) : xk_meth (xt_G w) 131 (⟨"ContractDesk$Value", "readString", "(LContractDesk$Cursor;)LContractDesk$Value;"⟩, prog_11_method_7_code, 3, some (.object "ContractDesk$Value")) := xk_meth_of (by decide +kernel) xw_791 rfl rfl (by decide) rfl xm_131 (fun q h => xl_n15 w q h) (xl_c15 w)
theorem xm_132 : xt_b132.all (xk_row prog_3_method_2_code 1 (xt_kn13) (xt_kc13)) = true := by decide +kernel
theorem xp_132 (w : Value) : xk_meth (xt_G w) 132 (⟨"ContractDesk$Cursor", "position", "()I"⟩, prog_3_method_2_code, 1, some (.int)) := xk_meth_of (by decide +kernel) xw_795 rfl rfl (by decide) rfl xm_132 (fun q h => xl_n13 w q h) (xl_c13 w)
theorem xm_133 : xt_b133.all (xk_row prog_3_method_10_code 2 (xt_kn13) (xt_kc13)) = true := by decide +kernel
theorem xp_133 (w : Value) : xk_meth (xt_G w) 133 (⟨"ContractDesk$Cursor", "since", "(I)Ljava/lang/String;"⟩, prog_3_method_10_code, 2, some (.object "java/lang/String")) := xk_meth_of (by decide +kernel) xw_799 rfl rfl (by decide) rfl xm_133 (fun q h => xl_n13 w q h) (xl_c13 w)
theorem xm_134 : xt_b134.all (xk_row prog_25_method_92_code 5 (xt_kn11) (xt_kc11)) = true := by decide +kernel
theorem xp_134 (w : Value) : xk_meth (xt_G w) 134 (⟨"java/lang/String", "substring", "(II)Ljava/lang/String;"⟩, prog_25_method_92_code, 5, some (.object "java/lang/String")) := xk_meth_of (by decide +kernel) xw_803 rfl rfl (by decide) rfl xm_134 (fun q h => xl_n11 w q h) (xl_c11 w)
theorem xm_135 : xt_b135.all (xk_row prog_25_method_158_code 3 (xt_kn11) (xt_kc11)) = true := by decide +kernel
theorem xp_135 (w : Value) : xk_meth (xt_G w) 135 (⟨"java/lang/String", "checkBoundsBeginEnd", "(III)V"⟩, prog_25_method_158_code, 3, none) := xk_meth_of (by decide +kernel) xw_807 rfl rfl (by decide) rfl xm_135 (fun q h => xl_n11 w q h) (xl_c11 w)
theorem xm_136 : xt_b136.all (xk_row prog_41_method_12_code 4 ([]) ([])) = true := by decide +kernel
theorem xp_136 (w : Value) : xk_meth (xt_G w) 136 (⟨"jdk/internal/util/Preconditions", "checkFromToIndex", "(IIILjava/util/function/BiFunction;)I"⟩, prog_41_method_12_code, 4, some (.int)) := xk_meth_of (by decide +kernel) xw_810 rfl rfl (by decide) rfl xm_136 (fun _ h => absurd h List.not_mem_nil) (fun _ h => absurd h List.not_mem_nil)
theorem xm_137 : xt_b137.all (xk_row prog_27_method_47_code 3 (xt_kn10) (xt_kc10)) = true := by decide +kernel
theorem xp_137 (w : Value) : xk_meth (xt_G w) 137 (⟨"java/lang/StringLatin1", "newString", "([BII)Ljava/lang/String;"⟩, prog_27_method_47_code, 3, some (.object "java/lang/String")) := xk_meth_of (by decide +kernel) xw_813 rfl rfl (by decide) rfl xm_137 (fun q h => xl_n10 w q h) (xl_c10 w)
theorem xm_138 : xt_b138.all (xk_row prog_25_method_151_code 3 (xt_kn11 ++ xt_kf11) (xt_kc11)) = true := by decide +kernel
theorem xp_138 (w : Value) : xk_meth (xt_G w) 138 (⟨"java/lang/String", "<init>", "([BB)V"⟩, prog_25_method_151_code, 3, none) := xk_meth_of (by decide +kernel) xw_819 rfl rfl (by decide) rfl xm_138 (fun q h => (List.mem_append.mp h).elim (xl_n11 w q) (xl_f11 w rfl q)) (xl_c11 w)
theorem xm_139 : xt_b139.all (xk_row prog_28_method_69_code 5 (xt_kn3) (xt_kc3)) = true := by decide +kernel
theorem xp_139 (w : Value) : xk_meth (xt_G w) 139 (⟨"java/lang/StringUTF16", "newString", "([BII)Ljava/lang/String;"⟩, prog_28_method_69_code, 5, some (.object "java/lang/String")) := xk_meth_of (by decide +kernel) xw_822 rfl rfl (by decide) rfl xm_139 (fun q h => xl_n3 w q h) (xl_c3 w)
theorem xm_140 : xt_b140.all (xk_row prog_11_method_8_code 3 (xt_kn15) (xt_kc15)) = true := by decide +kernel
theorem xp_140 (w : Value) : xk_meth (xt_G w) 140 (⟨"ContractDesk$Value", "readWord", "(LContractDesk$Cursor;Ljava/lang/String;LContractDesk$Kind;)LContractDesk$Value;"⟩, prog_11_method_8_code, 3, some (.object "ContractDesk$Value")) := xk_meth_of (by decide +kernel) xw_837 rfl rfl (by decide) rfl xm_140 (fun q h => xl_n15 w q h) (xl_c15 w)
theorem xm_141 : xt_b141.all (xk_row prog_3_method_7_code 3 (xt_kn13) (xt_kc13)) = true := by decide +kernel
theorem xp_141 (w : Value) : xk_meth (xt_G w) 141 (⟨"ContractDesk$Cursor", "acceptWord", "(Ljava/lang/String;)Z"⟩, prog_3_method_7_code, 3, some (.boolean)) := xk_meth_of (by decide +kernel) xw_841 rfl rfl (by decide) rfl xm_141 (fun q h => xl_n13 w q h) (xl_c13 w)
theorem xm_142 : xt_b142.all (xk_row prog_11_method_9_code 2 (xt_kn15) (xt_kc15)) = true := by decide +kernel
theorem xp_142 (w : Value) : xk_meth (xt_G w) 142 (⟨"ContractDesk$Value", "readNumber", "(LContractDesk$Cursor;)LContractDesk$Value;"⟩, prog_11_method_9_code, 2, some (.object "ContractDesk$Value")) := xk_meth_of (by decide +kernel) xw_849 rfl rfl (by decide) rfl xm_142 (fun q h => xl_n15 w q h) (xl_c15 w)
theorem xm_144 : xt_b144.all (xk_row prog_4_method_4_code 2 (xt_kn12) (xt_kc12)) = true := by decide +kernel
theorem xp_144 (w : Value) : xk_meth (xt_G w) 144 (⟨"ContractDesk$Interaction", "expect", "(LContractDesk$Value;)Z"⟩, prog_4_method_4_code, 2, some (.boolean)) := xk_meth_of (by decide +kernel) xw_873 rfl rfl (by decide) rfl xm_144 (fun q h => xl_n12 w q h) (xl_c12 w)
theorem xm_145 : xt_b145.all (xk_row prog_11_method_19_code 6 (xt_kn15) (xt_kc15)) = true := by decide +kernel
theorem xp_145 (w : Value) : xk_meth (xt_G w) 145 (⟨"ContractDesk$Value", "areEqual", "(LContractDesk$Value;LContractDesk$Value;I)Z"⟩, prog_11_method_19_code, 6, some (.boolean)) := xk_meth_of (by decide +kernel) xw_876 rfl rfl (by decide) rfl xm_145 (fun q h => xl_n15 w q h) (xl_c15 w)
theorem xm_146 : xt_b146.all (xk_row prog_11_method_18_code 2 (xt_kn15) (xt_kc15)) = true := by decide +kernel
theorem xp_146 (w : Value) : xk_meth (xt_G w) 146 (⟨"ContractDesk$Value", "isAlike", "(LContractDesk$Value;)Z"⟩, prog_11_method_18_code, 2, some (.boolean)) := xk_meth_of (by decide +kernel) xw_880 rfl rfl (by decide) rfl xm_146 (fun q h => xl_n15 w q h) (xl_c15 w)
theorem xm_147 : xt_b147.all (xk_row prog_25_method_66_code 3 (xt_kn11) (xt_kc11)) = true := by decide +kernel
theorem xp_147 (w : Value) : xk_meth (xt_G w) 147 (⟨"java/lang/String", "equals", "(Ljava/lang/Object;)Z"⟩, prog_25_method_66_code, 3, some (.boolean)) := xk_meth_of (by decide +kernel) xw_884 rfl rfl (by decide) rfl xm_147 (fun q h => xl_n11 w q h) (xl_c11 w)
theorem xm_148 : xt_b148.all (xk_row prog_27_method_13_code 3 (xt_kn10) (xt_kc10)) = true := by decide +kernel
theorem xp_148 (w : Value) : xk_meth (xt_G w) 148 (⟨"java/lang/StringLatin1", "equals", "([B[B)Z"⟩, prog_27_method_13_code, 3, some (.boolean)) := xk_meth_of (by decide +kernel) xw_888 rfl rfl (by decide) rfl xm_148 (fun q h => xl_n10 w q h) (xl_c10 w)
theorem xm_149 : xt_b149.all (xk_row prog_11_method_15_code 1 (xt_kn15) (xt_kc15)) = true := by decide +kernel
theorem xp_149 (w : Value) : xk_meth (xt_G w) 149 (⟨"ContractDesk$Value", "size", "()I"⟩, prog_11_method_15_code, 1, some (.int)) := xk_meth_of (by decide +kernel) xw_892 rfl rfl (by decide) rfl xm_149 (fun q h => xl_n15 w q h) (xl_c15 w)
theorem xm_150 : xt_b150.all (xk_row prog_11_method_16_code 2 (xt_kn15) (xt_kc15)) = true := by decide +kernel
theorem xp_150 (w : Value) : xk_meth (xt_G w) 150 (⟨"ContractDesk$Value", "part", "(I)LContractDesk$Value;"⟩, prog_11_method_16_code, 2, some (.object "ContractDesk$Value")) := xk_meth_of (by decide +kernel) xw_896 rfl rfl (by decide) rfl xm_150 (fun q h => xl_n15 w q h) (xl_c15 w)
theorem xm_151 : xt_b151.all (xk_row prog_11_method_14_code 1 (xt_kn15) (xt_kc15)) = true := by decide +kernel
theorem xp_151 (w : Value) : xk_meth (xt_G w) 151 (⟨"ContractDesk$Value", "count", "()I"⟩, prog_11_method_14_code, 1, some (.int)) := xk_meth_of (by decide +kernel) xw_901 rfl rfl (by decide) rfl xm_151 (fun q h => xl_n15 w q h) (xl_c15 w)
theorem xm_152 : xt_b152.all (xk_row prog_1_method_5_code 5 (xt_kn0) (xt_kc0)) = true := by decide +kernel
theorem xp_152 (w : Value) : xk_meth (xt_G w) 152 (⟨"ContractDesk", "rule", "(I)I"⟩, prog_1_method_5_code, 5, some (.int)) := xk_meth_of (by decide +kernel) xw_908 rfl rfl (by decide) rfl xm_152 (fun q h => xl_n0 w q h) (xl_c0 w)
theorem xm_153 : xt_b153.all (xk_row prog_9_method_2_code 3 (xt_kn14) (xt_kc14)) = true := by decide +kernel
theorem xp_153 (w : Value) : xk_meth (xt_G w) 153 (⟨"ContractDesk$Rule", "read", "(LContractDesk$Cursor;)LContractDesk$Rule;"⟩, prog_9_method_2_code, 3, some (.object "ContractDesk$Rule")) := xk_meth_of (by decide +kernel) xw_911 rfl rfl (by decide) rfl xm_153 (fun q h => xl_n14 w q h) (xl_c14 w)
theorem xm_154 : xt_b154.all (xk_row prog_9_method_1_code 2 (xt_kn14 ++ xt_kf14) (xt_kc14)) = true := by decide +kernel
theorem xp_154 (w : Value) : xk_meth (xt_G w) 154 (⟨"ContractDesk$Rule", "<init>", "(LContractDesk$Path;)V"⟩, prog_9_method_1_code, 2, none) := xk_meth_of (by decide +kernel) xw_918 rfl rfl (by decide) rfl xm_154 (fun q h => (List.mem_append.mp h).elim (xl_n14 w q) (xl_f14 w rfl q)) (xl_c14 w)
theorem xm_155 : xt_b155.all (xk_row prog_9_method_3_code 4 (xt_kn14) (xt_kc14)) = true := by decide +kernel
theorem xp_155 (w : Value) : xk_meth (xt_G w) 155 (⟨"ContractDesk$Rule", "readMatchers", "(LContractDesk$Cursor;)Z"⟩, prog_9_method_3_code, 4, some (.boolean)) := xk_meth_of (by decide +kernel) xw_938 rfl rfl (by decide) rfl xm_155 (fun q h => xl_n14 w q h) (xl_c14 w)
theorem xm_156 : xt_b156.all (xk_row prog_6_method_2_code 2 (xt_kn20) (xt_kc20)) = true := by decide +kernel
theorem xp_156 (w : Value) : xk_meth (xt_G w) 156 (⟨"ContractDesk$Matcher", "read", "(LContractDesk$Cursor;)LContractDesk$Matcher;"⟩, prog_6_method_2_code, 2, some (.object "ContractDesk$Matcher")) := xk_meth_of (by decide +kernel) xw_941 rfl rfl (by decide) rfl xm_156 (fun q h => xl_n20 w q h) (xl_c20 w)
theorem xm_157 : xt_b157.all (xk_row prog_6_method_1_code 4 (xt_kn20 ++ xt_kf20) (xt_kc20)) = true := by decide +kernel
theorem xp_157 (w : Value) : xk_meth (xt_G w) 157 (⟨"ContractDesk$Matcher", "<init>", "(CILjava/lang/String;)V"⟩, prog_6_method_1_code, 4, none) := xk_meth_of (by decide +kernel) xw_948 rfl rfl (by decide) rfl xm_157 (fun q h => (List.mem_append.mp h).elim (xl_n20 w q) (xl_f20 w rfl q)) (xl_c20 w)
theorem xm_158 : xt_b158.all (xk_row prog_6_method_3_code 3 (xt_kn20) (xt_kc20)) = true := by decide +kernel
theorem xp_158 (w : Value) : xk_meth (xt_G w) 158 (⟨"ContractDesk$Matcher", "readBound", "(CLContractDesk$Cursor;)LContractDesk$Matcher;"⟩, prog_6_method_3_code, 3, some (.object "ContractDesk$Matcher")) := xk_meth_of (by decide +kernel) xw_962 rfl rfl (by decide) rfl xm_158 (fun q h => xl_n20 w q h) (xl_c20 w)
theorem xm_159 : xt_b159.all (xk_row prog_6_method_4_code 3 (xt_kn20) (xt_kc20)) = true := by decide +kernel
theorem xp_159 (w : Value) : xk_meth (xt_G w) 159 (⟨"ContractDesk$Matcher", "readPart", "(CLContractDesk$Cursor;)LContractDesk$Matcher;"⟩, prog_6_method_4_code, 3, some (.object "ContractDesk$Matcher")) := xk_meth_of (by decide +kernel) xw_967 rfl rfl (by decide) rfl xm_159 (fun q h => xl_n20 w q h) (xl_c20 w)
theorem xm_160 : xt_b160.all (xk_row prog_6_method_5_code 5 (xt_kn20) (xt_kc20)) = true := by decide +kernel
theorem xp_160 (w : Value) : xk_meth (xt_G w) 160 (⟨"ContractDesk$Matcher", "readItems", "(CLContractDesk$Cursor;)LContractDesk$Matcher;"⟩, prog_6_method_5_code, 5, some (.object "ContractDesk$Matcher")) := xk_meth_of (by decide +kernel) xw_973 rfl rfl (by decide) rfl xm_160 (fun q h => xl_n20 w q h) (xl_c20 w)
theorem xm_161 : xt_b161.all (xk_row prog_6_method_6_code 1 (xt_kn20) (xt_kc20)) = true := by decide +kernel
theorem xp_161 (w : Value) : xk_meth (xt_G w) 161 (⟨"ContractDesk$Matcher", "isLoose", "()Z"⟩, prog_6_method_6_code, 1, some (.boolean)) := xk_meth_of (by decide +kernel) xw_979 rfl rfl (by decide) rfl xm_161 (fun q h => xl_n20 w q h) (xl_c20 w)
theorem xm_162 : xt_b162.all (xk_row prog_4_method_5_code 2 (xt_kn12) (xt_kc12)) = true := by decide +kernel
theorem xp_162 (w : Value) : xk_meth (xt_G w) 162 (⟨"ContractDesk$Interaction", "addRule", "(LContractDesk$Rule;)I"⟩, prog_4_method_5_code, 2, some (.int)) := xk_meth_of (by decide +kernel) xw_985 rfl rfl (by decide) rfl xm_162 (fun q h => xl_n12 w q h) (xl_c12 w)
theorem xm_163 : xt_b163.all (xk_row prog_1_method_9_code 5 (xt_kn0) (xt_kc0)) = true := by decide +kernel
theorem xp_163 (w : Value) : xk_meth (xt_G w) 163 (⟨"ContractDesk", "verify", "(I)I"⟩, prog_1_method_9_code, 5, some (.int)) := xk_meth_of (by decide +kernel) xw_992 rfl rfl (by decide) rfl xm_163 (fun q h => xl_n0 w q h) (xl_c0 w)
theorem xm_164 : xt_b164.all (xk_row prog_4_method_3_code 1 (xt_kn12) (xt_kc12)) = true := by decide +kernel
theorem xp_164 (w : Value) : xk_meth (xt_G w) 164 (⟨"ContractDesk$Interaction", "expected", "()LContractDesk$Value;"⟩, prog_4_method_3_code, 1, some (.object "ContractDesk$Value")) := xk_meth_of (by decide +kernel) xw_996 rfl rfl (by decide) rfl xm_164 (fun q h => xl_n12 w q h) (xl_c12 w)
theorem xm_165 : xt_b165.all (xk_row prog_1_method_17_code 3 (xt_kn0) (xt_kc0)) = true := by decide +kernel
theorem xp_165 (w : Value) : xk_meth (xt_G w) 165 (⟨"ContractDesk", "setUpStates", "(LContractDesk$Interaction;)Z"⟩, prog_1_method_17_code, 3, some (.boolean)) := xk_meth_of (by decide +kernel) xw_1000 rfl rfl (by decide) rfl xm_165 (fun q h => xl_n0 w q h) (xl_c0 w)
theorem xm_166 : xt_b166.all (xk_row prog_4_method_10_code 1 (xt_kn12) (xt_kc12)) = true := by decide +kernel
theorem xp_166 (w : Value) : xk_meth (xt_G w) 166 (⟨"ContractDesk$Interaction", "stateCount", "()I"⟩, prog_4_method_10_code, 1, some (.int)) := xk_meth_of (by decide +kernel) xw_1004 rfl rfl (by decide) rfl xm_166 (fun q h => xl_n12 w q h) (xl_c12 w)
theorem xm_167 : xt_b167.all (xk_row prog_4_method_11_code 2 (xt_kn12) (xt_kc12)) = true := by decide +kernel
theorem xp_167 (w : Value) : xk_meth (xt_G w) 167 (⟨"ContractDesk$Interaction", "stateAt", "(I)I"⟩, prog_4_method_11_code, 2, some (.int)) := xk_meth_of (by decide +kernel) xw_1008 rfl rfl (by decide) rfl xm_167 (fun q h => xl_n12 w q h) (xl_c12 w)
theorem xm_168 : xt_b168.all (xk_row prog_10_method_4_code 4 (xt_kn4) (xt_kc4)) = true := by decide +kernel
theorem xp_168 (w : Value) : xk_meth (xt_G w) 168 (⟨"ContractDesk$States", "setUp", "(I)Z"⟩, prog_10_method_4_code, 4, some (.boolean)) := xk_meth_of (by decide +kernel) xw_1012 rfl rfl (by decide) rfl xm_168 (fun q h => xl_n4 w q h) (xl_c4 w)
theorem xm_169 : xt_b169.all (xk_row prog_10_method_6_code 2 (xt_kn4) (xt_kc4)) = true := by decide +kernel
theorem xp_169 (w : Value) : xk_meth (xt_G w) 169 (⟨"ContractDesk$States", "handlerOf", "(I)I"⟩, prog_10_method_6_code, 2, some (.int)) := xk_meth_of (by decide +kernel) xw_1016 rfl rfl (by decide) rfl xm_169 (fun q h => xl_n4 w q h) (xl_c4 w)
theorem xm_170 : xt_b170.all (xk_row prog_10_method_7_code 3 (xt_kn4) (xt_kc4)) = true := by decide +kernel
theorem xp_170 (w : Value) : xk_meth (xt_G w) 170 (⟨"ContractDesk$States", "note", "(II)V"⟩, prog_10_method_7_code, 3, none) := xk_meth_of (by decide +kernel) xw_1020 rfl rfl (by decide) rfl xm_170 (fun q h => xl_n4 w q h) (xl_c4 w)
theorem xm_171 : xt_b171.all (xk_row prog_1_method_18_code 4 (xt_kn0) (xt_kc0)) = true := by decide +kernel
theorem xp_171 (w : Value) : xk_meth (xt_G w) 171 (⟨"ContractDesk", "tearDownStates", "(LContractDesk$Interaction;I)V"⟩, prog_1_method_18_code, 4, none) := xk_meth_of (by decide +kernel) xw_1024 rfl rfl (by decide) rfl xm_171 (fun q h => xl_n0 w q h) (xl_c0 w)
theorem xm_172 : xt_b172.all (xk_row prog_10_method_5_code 2 (xt_kn4) (xt_kc4)) = true := by decide +kernel
theorem xp_172 (w : Value) : xk_meth (xt_G w) 172 (⟨"ContractDesk$States", "tearDown", "(I)V"⟩, prog_10_method_5_code, 2, none) := xk_meth_of (by decide +kernel) xw_1028 rfl rfl (by decide) rfl xm_172 (fun q h => xl_n4 w q h) (xl_c4 w)
theorem xm_173 : xt_b173.all (xk_row prog_2_method_2_code 3 (xt_kn5) (xt_kc5)) = true := by decide +kernel
theorem xp_173 (w : Value) : xk_meth (xt_G w) 173 (⟨"ContractDesk$Comparison", "run", "(LContractDesk$Interaction;LContractDesk$Value;)I"⟩, prog_2_method_2_code, 3, some (.int)) := xk_meth_of (by decide +kernel) xw_1032 rfl rfl (by decide) rfl xm_173 (fun q h => xl_n5 w q h) (xl_c5 w)
theorem xm_174 : xt_b174.all (xk_row prog_8_method_10_code 1 (xt_kn6) (xt_kc6)) = true := by decide +kernel
theorem xp_174 (w : Value) : xk_meth (xt_G w) 174 (⟨"ContractDesk$Path", "clear", "()V"⟩, prog_8_method_10_code, 1, none) := xk_meth_of (by decide +kernel) xw_1036 rfl rfl (by decide) rfl xm_174 (fun q h => xl_n6 w q h) (xl_c6 w)
theorem xm_175 : xt_b175.all (xk_row prog_2_method_6_code 5 (xt_kn5) (xt_kc5)) = true := by decide +kernel
theorem xp_175 (w : Value) : xk_meth (xt_G w) 175 (⟨"ContractDesk$Comparison", "compare", "(LContractDesk$Value;LContractDesk$Value;I)V"⟩, prog_2_method_6_code, 5, none) := xk_meth_of (by decide +kernel) xw_1041 rfl rfl (by decide) rfl xm_175 (fun q h => xl_n5 w q h) (xl_c5 w)
theorem xm_176 : xt_b176.all (xk_row prog_4_method_7_code 2 (xt_kn12) (xt_kc12)) = true := by decide +kernel
theorem xp_176 (w : Value) : xk_meth (xt_G w) 176 (⟨"ContractDesk$Interaction", "ruleAt", "(I)LContractDesk$Rule;"⟩, prog_4_method_7_code, 2, some (.object "ContractDesk$Rule")) := xk_meth_of (by decide +kernel) xw_1046 rfl rfl (by decide) rfl xm_176 (fun q h => xl_n12 w q h) (xl_c12 w)
theorem xm_177 : xt_b177.all (xk_row prog_2_method_5_code 2 (xt_kn5) (xt_kc5)) = true := by decide +kernel
theorem xp_177 (w : Value) : xk_meth (xt_G w) 177 (⟨"ContractDesk$Comparison", "note", "(I)V"⟩, prog_2_method_5_code, 2, none) := xk_meth_of (by decide +kernel) xw_1051 rfl rfl (by decide) rfl xm_177 (fun q h => xl_n5 w q h) (xl_c5 w)
theorem xm_178 : xt_b178.all (xk_row prog_7_method_2_code 3 (xt_kn7) (xt_kc7)) = true := by decide +kernel
theorem xp_178 (w : Value) : xk_meth (xt_G w) 178 (⟨"ContractDesk$Mismatch", "set", "(ILContractDesk$Path;)V"⟩, prog_7_method_2_code, 3, none) := xk_meth_of (by decide +kernel) xw_1055 rfl rfl (by decide) rfl xm_178 (fun q h => xl_n7 w q h) (xl_c7 w)
theorem xm_179 : xt_b179.all (xk_row prog_8_method_15_code 3 (xt_kn6) (xt_kc6)) = true := by decide +kernel
theorem xp_179 (w : Value) : xk_meth (xt_G w) 179 (⟨"ContractDesk$Path", "appendTo", "(Ljava/lang/StringBuilder;)V"⟩, prog_8_method_15_code, 3, none) := xk_meth_of (by decide +kernel) xw_1060 rfl rfl (by decide) rfl xm_179 (fun q h => xl_n6 w q h) (xl_c6 w)
theorem xm_180 : xt_b180.all (xk_row prog_26_method_15_code 2 (xt_kn1) (xt_kc1)) = true := by decide +kernel
theorem xp_180 (w : Value) : xk_meth (xt_G w) 180 (⟨"java/lang/StringBuilder", "append", "(I)Ljava/lang/StringBuilder;"⟩, prog_26_method_15_code, 2, some (.object "java/lang/StringBuilder")) := xk_meth_of (by decide +kernel) xw_1065 rfl rfl (by decide) rfl xm_180 (fun q h => xl_n1 w q h) (xl_c1 w)
theorem xm_181 : xt_b181.all (xk_row prog_15_method_32_code 4 (xt_kn2) (xt_kc2)) = true := by decide +kernel
theorem xp_181 (w : Value) : xk_meth (xt_G w) 181 (⟨"java/lang/AbstractStringBuilder", "append", "(I)Ljava/lang/AbstractStringBuilder;"⟩, prog_15_method_32_code, 4, some (.object "java/lang/AbstractStringBuilder")) := xk_meth_of (by decide +kernel) xw_1068 rfl rfl (by decide) rfl xm_181 (fun q h => xl_n2 w q h) (xl_c2 w)
theorem xm_182 : xt_b182.all (xk_row prog_21_method_13_code 4 (xt_kn21) (xt_kc21)) = true := by decide +kernel
theorem xp_182 (w : Value) : xk_meth (xt_G w) 182 (⟨"java/lang/Integer", "stringSize", "(I)I"⟩, prog_21_method_13_code, 4, some (.int)) := xk_meth_of (by decide +kernel) xw_1071 rfl rfl (by decide) rfl xm_182 (fun q h => xl_n21 w q h) (xl_c21 w)
theorem xm_183 : xt_b183.all (xk_row prog_21_method_12_code 7 (xt_kn21) (xt_kc21)) = true := by decide +kernel
theorem xp_183 (w : Value) : xk_meth (xt_G w) 183 (⟨"java/lang/Integer", "getChars", "(II[B)I"⟩, prog_21_method_12_code, 7, some (.int)) := xk_meth_of (by decide +kernel) xw_1074 rfl rfl (by decide) rfl xm_183 (fun q h => xl_n21 w q h) (xl_c21 w)
theorem xm_184 : xt_b184.all (xk_row prog_28_method_77_code 5 (xt_kn3) (xt_kc3)) = true := by decide +kernel
theorem xp_184 (w : Value) : xk_meth (xt_G w) 184 (⟨"java/lang/StringUTF16", "getChars", "(III[B)I"⟩, prog_28_method_77_code, 5, some (.int)) := xk_meth_of (by decide +kernel) xw_1081 rfl rfl (by decide) rfl xm_184 (fun q h => xl_n3 w q h) (xl_c3 w)
theorem xm_185 : xt_b185.all (xk_row prog_28_method_93_code 3 (xt_kn3) (xt_kc3)) = true := by decide +kernel
theorem xp_185 (w : Value) : xk_meth (xt_G w) 185 (⟨"java/lang/StringUTF16", "checkBoundsBeginEnd", "(II[B)V"⟩, prog_28_method_93_code, 3, none) := xk_meth_of (by decide +kernel) xw_1084 rfl rfl (by decide) rfl xm_185 (fun q h => xl_n3 w q h) (xl_c3 w)
theorem xm_186 : xt_b186.all (xk_row prog_28_method_89_code 7 (xt_kn3) (xt_kc3)) = true := by decide +kernel
theorem xp_186 (w : Value) : xk_meth (xt_G w) 186 (⟨"java/lang/StringUTF16", "getChars", "(II[B)I"⟩, prog_28_method_89_code, 7, some (.int)) := xk_meth_of (by decide +kernel) xw_1088 rfl rfl (by decide) rfl xm_186 (fun q h => xl_n3 w q h) (xl_c3 w)
theorem xm_187 : xt_b187.all (xk_row prog_9_method_7_code 4 (xt_kn14) (xt_kc14)) = true := by decide +kernel
theorem xp_187 (w : Value) : xk_meth (xt_G w) 187 (⟨"ContractDesk$Rule", "holds", "(LContractDesk$Value;LContractDesk$Value;)Z"⟩, prog_9_method_7_code, 4, some (.boolean)) := xk_meth_of (by decide +kernel) xw_1094 rfl rfl (by decide) rfl xm_187 (fun q h => xl_n14 w q h) (xl_c14 w)
theorem xm_188 : xt_b188.all (xk_row prog_6_method_7_code 3 (xt_kn20) (xt_kc20)) = true := by decide +kernel
theorem xp_188 (w : Value) : xk_meth (xt_G w) 188 (⟨"ContractDesk$Matcher", "holds", "(LContractDesk$Value;LContractDesk$Value;)Z"⟩, prog_6_method_7_code, 3, some (.boolean)) := xk_meth_of (by decide +kernel) xw_1101 rfl rfl (by decide) rfl xm_188 (fun q h => xl_n20 w q h) (xl_c20 w)
theorem xm_189 : xt_b189.all (xk_row prog_11_method_11_code 1 (xt_kn15) (xt_kc15)) = true := by decide +kernel
theorem xp_189 (w : Value) : xk_meth (xt_G w) 189 (⟨"ContractDesk$Value", "kind", "()LContractDesk$Kind;"⟩, prog_11_method_11_code, 1, some (.object "ContractDesk$Kind")) := xk_meth_of (by decide +kernel) xw_1105 rfl rfl (by decide) rfl xm_189 (fun q h => xl_n15 w q h) (xl_c15 w)
theorem xm_190 : xt_b190.all (xk_row prog_11_method_12_code 1 (xt_kn15) (xt_kc15)) = true := by decide +kernel
theorem xp_190 (w : Value) : xk_meth (xt_G w) 190 (⟨"ContractDesk$Value", "letters", "()Ljava/lang/String;"⟩, prog_11_method_12_code, 1, some (.object "java/lang/String")) := xk_meth_of (by decide +kernel) xw_1115 rfl rfl (by decide) rfl xm_190 (fun q h => xl_n15 w q h) (xl_c15 w)
theorem xm_191 : xt_b191.all (xk_row prog_6_method_8_code 3 (xt_kn20) (xt_kc20)) = true := by decide +kernel
theorem xp_191 (w : Value) : xk_meth (xt_G w) 191 (⟨"ContractDesk$Matcher", "hasPart", "(Ljava/lang/String;)Z"⟩, prog_6_method_8_code, 3, some (.boolean)) := xk_meth_of (by decide +kernel) xw_1119 rfl rfl (by decide) rfl xm_191 (fun q h => xl_n20 w q h) (xl_c20 w)
theorem xm_192 : xt_b192.all (xk_row prog_6_method_9_code 4 (xt_kn20) (xt_kc20)) = true := by decide +kernel
theorem xp_192 (w : Value) : xk_meth (xt_G w) 192 (⟨"ContractDesk$Matcher", "partStandsAt", "(Ljava/lang/String;I)Z"⟩, prog_6_method_9_code, 4, some (.boolean)) := xk_meth_of (by decide +kernel) xw_1124 rfl rfl (by decide) rfl xm_192 (fun q h => xl_n20 w q h) (xl_c20 w)
theorem xm_193 : xt_b193.all (xk_row prog_6_method_10_code 6 (xt_kn20) (xt_kc20)) = true := by decide +kernel
theorem xp_193 (w : Value) : xk_meth (xt_G w) 193 (⟨"ContractDesk$Matcher", "isAsItemsSay", "(Ljava/lang/String;)Z"⟩, prog_6_method_10_code, 6, some (.boolean)) := xk_meth_of (by decide +kernel) xw_1129 rfl rfl (by decide) rfl xm_193 (fun q h => xl_n20 w q h) (xl_c20 w)
theorem xm_194 : xt_b194.all (xk_row prog_6_method_11_code 8 (xt_kn20) (xt_kc20)) = true := by decide +kernel
theorem xp_194 (w : Value) : xk_meth (xt_G w) 194 (⟨"ContractDesk$Matcher", "endsBehind", "(CCLjava/lang/String;I)I"⟩, prog_6_method_11_code, 8, some (.int)) := xk_meth_of (by decide +kernel) xw_1132 rfl rfl (by decide) rfl xm_194 (fun q h => xl_n20 w q h) (xl_c20 w)
theorem xm_195 : xt_b195.all (xk_row prog_6_method_12_code 2 (xt_kn20) (xt_kc20)) = true := by decide +kernel
theorem xp_195 (w : Value) : xk_meth (xt_G w) 195 (⟨"ContractDesk$Matcher", "hasBit", "(II)Z"⟩, prog_6_method_12_code, 2, some (.boolean)) := xk_meth_of (by decide +kernel) xw_1135 rfl rfl (by decide) rfl xm_195 (fun q h => xl_n20 w q h) (xl_c20 w)
theorem xm_196 : xt_b196.all (xk_row prog_9_method_6_code 1 (xt_kn14) (xt_kc14)) = true := by decide +kernel
theorem xp_196 (w : Value) : xk_meth (xt_G w) 196 (⟨"ContractDesk$Rule", "isLoose", "()Z"⟩, prog_9_method_6_code, 1, some (.boolean)) := xk_meth_of (by decide +kernel) xw_1141 rfl rfl (by decide) rfl xm_196 (fun q h => xl_n14 w q h) (xl_c14 w)
theorem xm_197 : xt_b197.all (xk_row prog_2_method_7_code 9 (xt_kn5) (xt_kc5)) = true := by decide +kernel
theorem xp_197 (w : Value) : xk_meth (xt_G w) 197 (⟨"ContractDesk$Comparison", "compareElements", "(LContractDesk$Value;LContractDesk$Value;ZI)V"⟩, prog_2_method_7_code, 9, none) := xk_meth_of (by decide +kernel) xw_1145 rfl rfl (by decide) rfl xm_197 (fun q h => xl_n5 w q h) (xl_c5 w)
theorem xm_198 : xt_b198.all (xk_row prog_8_method_9_code 1 (xt_kn6) (xt_kc6)) = true := by decide +kernel
theorem xp_198 (w : Value) : xk_meth (xt_G w) 198 (⟨"ContractDesk$Path", "leave", "()V"⟩, prog_8_method_9_code, 1, none) := xk_meth_of (by decide +kernel) xw_1152 rfl rfl (by decide) rfl xm_198 (fun q h => xl_n6 w q h) (xl_c6 w)
theorem xm_199 : xt_b199.all (xk_row prog_2_method_8_code 7 (xt_kn5) (xt_kc5)) = true := by decide +kernel
theorem xp_199 (w : Value) : xk_meth (xt_G w) 199 (⟨"ContractDesk$Comparison", "compareMembers", "(LContractDesk$Value;LContractDesk$Value;I)V"⟩, prog_2_method_8_code, 7, none) := xk_meth_of (by decide +kernel) xw_1157 rfl rfl (by decide) rfl xm_199 (fun q h => xl_n5 w q h) (xl_c5 w)
theorem xm_200 : xt_b200.all (xk_row prog_11_method_13_code 1 (xt_kn15) (xt_kc15)) = true := by decide +kernel
theorem xp_200 (w : Value) : xk_meth (xt_G w) 200 (⟨"ContractDesk$Value", "key", "()C"⟩, prog_11_method_13_code, 1, some (.char)) := xk_meth_of (by decide +kernel) xw_1161 rfl rfl (by decide) rfl xm_200 (fun q h => xl_n15 w q h) (xl_c15 w)
theorem xm_201 : xt_b201.all (xk_row prog_4_method_2_code 1 (xt_kn12) (xt_kc12)) = true := by decide +kernel
theorem xp_201 (w : Value) : xk_meth (xt_G w) 201 (⟨"ContractDesk$Interaction", "isStrict", "()Z"⟩, prog_4_method_2_code, 1, some (.boolean)) := xk_meth_of (by decide +kernel) xw_1167 rfl rfl (by decide) rfl xm_201 (fun q h => xl_n12 w q h) (xl_c12 w)
theorem xm_202 : xt_b202.all (xk_row prog_2_method_9_code 5 (xt_kn5) (xt_kc5)) = true := by decide +kernel
theorem xp_202 (w : Value) : xk_meth (xt_G w) 202 (⟨"ContractDesk$Comparison", "noteUnexpected", "(LContractDesk$Value;LContractDesk$Value;)V"⟩, prog_2_method_9_code, 5, none) := xk_meth_of (by decide +kernel) xw_1171 rfl rfl (by decide) rfl xm_202 (fun q h => xl_n5 w q h) (xl_c5 w)
theorem xm_203 : xt_b203.all (xk_row prog_13_method_1_code 1 (xt_kn22 ++ xt_kf22) (xt_kc22)) = true := by decide +kernel
theorem xp_203 (w : Value) : xk_meth (xt_G w) 203 (⟨"ContractDeskModel", "<init>", "()V"⟩, prog_13_method_1_code, 1, none) := xk_meth_of (by decide +kernel) xw_1176 rfl rfl (by decide) rfl xm_203 (fun q h => (List.mem_append.mp h).elim (xl_n22 w q) (xl_f22 w rfl q)) (xl_c22 w)
theorem xm_204 : xt_b204.all (xk_row prog_13_method_2_code 1 (xt_kn22) (xt_kc22)) = true := by decide +kernel
theorem xp_204 (w : Value) : xk_meth (xt_G w) 204 (⟨"ContractDeskModel", "thrown", "()I"⟩, prog_13_method_2_code, 1, some (.int)) := xk_meth_of (by decide +kernel) xw_1289 rfl rfl (by decide) rfl xm_204 (fun q h => xl_n22 w q h) (xl_c22 w)
theorem xm_205 : xt_b205.all (xk_row prog_13_method_3_code 6 (xt_kn22) (xt_kc22)) = true := by decide +kernel
theorem xp_205 (w : Value) : xk_meth (xt_G w) 205 (⟨"ContractDeskModel", "write", "(J)Z"⟩, prog_13_method_3_code, 6, some (.boolean)) := xk_meth_of (by decide +kernel) xw_1293 rfl rfl (by decide) rfl xm_205 (fun q h => xl_n22 w q h) (xl_c22 w)
theorem xm_206 : xt_b206.all (xk_row prog_13_method_19_code 2 (xt_kn22) (xt_kc22)) = true := by decide +kernel
theorem xp_206 (w : Value) : xk_meth (xt_G w) 206 (⟨"ContractDeskModel", "make", "(Z)I"⟩, prog_13_method_19_code, 2, some (.int)) := xk_meth_of (by decide +kernel) xw_1297 rfl rfl (by decide) rfl xm_206 (fun q h => xl_n22 w q h) (xl_c22 w)
theorem xm_207 : xt_b207.all (xk_row prog_13_method_22_code 5 (xt_kn22) (xt_kc22)) = true := by decide +kernel
theorem xp_207 (w : Value) : xk_meth (xt_G w) 207 (⟨"ContractDeskModel", "body", "(I)I"⟩, prog_13_method_22_code, 5, some (.int)) := xk_meth_of (by decide +kernel) xw_1301 rfl rfl (by decide) rfl xm_207 (fun q h => xl_n22 w q h) (xl_c22 w)
theorem xm_208 : xt_b208.all (xk_row prog_13_method_10_code 8 (xt_kn22) (xt_kc22)) = true := by decide +kernel
theorem xp_208 (w : Value) : xk_meth (xt_G w) 208 (⟨"ContractDeskModel", "values", "()I"⟩, prog_13_method_10_code, 8, some (.int)) := xk_meth_of (by decide +kernel) xw_1305 rfl rfl (by decide) rfl xm_208 (fun q h => xl_n22 w q h) (xl_c22 w)
theorem xm_209 : xt_b209.all (xk_row prog_13_method_7_code 2 (xt_kn22) (xt_kc22)) = true := by decide +kernel
theorem xp_209 (w : Value) : xk_meth (xt_G w) 209 (⟨"ContractDeskModel", "at", "(I)C"⟩, prog_13_method_7_code, 2, some (.char)) := xk_meth_of (by decide +kernel) xw_1309 rfl rfl (by decide) rfl xm_209 (fun q h => xl_n22 w q h) (xl_c22 w)
theorem xm_210 : xt_b210.all (xk_row prog_13_method_5_code 1 (xt_kn22) (xt_kc22)) = true := by decide +kernel
theorem xp_210 (w : Value) : xk_meth (xt_G w) 210 (⟨"ContractDeskModel", "isLetter", "(C)Z"⟩, prog_13_method_5_code, 1, some (.boolean)) := xk_meth_of (by decide +kernel) xw_1312 rfl rfl (by decide) rfl xm_210 (fun q h => xl_n22 w q h) (xl_c22 w)
theorem xm_211 : xt_b211.all (xk_row prog_13_method_9_code 4 (xt_kn22) (xt_kc22)) = true := by decide +kernel
theorem xp_211 (w : Value) : xk_meth (xt_G w) 211 (⟨"ContractDeskModel", "plainEnd", "(I)I"⟩, prog_13_method_9_code, 4, some (.int)) := xk_meth_of (by decide +kernel) xw_1316 rfl rfl (by decide) rfl xm_211 (fun q h => xl_n22 w q h) (xl_c22 w)
theorem xm_212 : xt_b212.all (xk_row prog_13_method_8_code 6 (xt_kn22) (xt_kc22)) = true := by decide +kernel
theorem xp_212 (w : Value) : xk_meth (xt_G w) 212 (⟨"ContractDeskModel", "word", "(ICCCC)Z"⟩, prog_13_method_8_code, 6, some (.boolean)) := xk_meth_of (by decide +kernel) xw_1320 rfl rfl (by decide) rfl xm_212 (fun q h => xl_n22 w q h) (xl_c22 w)
theorem xm_213 : xt_b213.all (xk_row prog_13_method_6_code 1 (xt_kn22) (xt_kc22)) = true := by decide +kernel
theorem xp_213 (w : Value) : xk_meth (xt_G w) 213 (⟨"ContractDeskModel", "digit", "(C)Z"⟩, prog_13_method_6_code, 1, some (.boolean)) := xk_meth_of (by decide +kernel) xw_1323 rfl rfl (by decide) rfl xm_213 (fun q h => xl_n22 w q h) (xl_c22 w)
theorem xm_214 : xt_b214.all (xk_row prog_13_method_20_code 1 (xt_kn22) (xt_kc22)) = true := by decide +kernel
theorem xp_214 (w : Value) : xk_meth (xt_G w) 214 (⟨"ContractDeskModel", "close", "()V"⟩, prog_13_method_20_code, 1, none) := xk_meth_of (by decide +kernel) xw_1327 rfl rfl (by decide) rfl xm_214 (fun q h => xl_n22 w q h) (xl_c22 w)
theorem xm_215 : xt_b215.all (xk_row prog_13_method_4_code 2 (xt_kn22) (xt_kc22)) = true := by decide +kernel
theorem xp_215 (w : Value) : xk_meth (xt_G w) 215 (⟨"ContractDeskModel", "isInteraction", "(I)Z"⟩, prog_13_method_4_code, 2, some (.boolean)) := xk_meth_of (by decide +kernel) xw_1331 rfl rfl (by decide) rfl xm_215 (fun q h => xl_n22 w q h) (xl_c22 w)
theorem xm_216 : xt_b216.all (xk_row prog_13_method_18_code 10 (xt_kn22) (xt_kc22)) = true := by decide +kernel
theorem xp_216 (w : Value) : xk_meth (xt_G w) 216 (⟨"ContractDeskModel", "equal", "(II)Z"⟩, prog_13_method_18_code, 10, some (.boolean)) := xk_meth_of (by decide +kernel) xw_1335 rfl rfl (by decide) rfl xm_216 (fun q h => xl_n22 w q h) (xl_c22 w)
theorem xm_217 : xt_b217.all (xk_row prog_13_method_11_code 3 (xt_kn22) (xt_kc22)) = true := by decide +kernel
theorem xp_217 (w : Value) : xk_meth (xt_G w) 217 (⟨"ContractDeskModel", "kind", "(I)I"⟩, prog_13_method_11_code, 3, some (.int)) := xk_meth_of (by decide +kernel) xw_1339 rfl rfl (by decide) rfl xm_217 (fun q h => xl_n22 w q h) (xl_c22 w)
theorem xm_218 : xt_b218.all (xk_row prog_13_method_17_code 6 (xt_kn22) (xt_kc22)) = true := by decide +kernel
theorem xp_218 (w : Value) : xk_meth (xt_G w) 218 (⟨"ContractDeskModel", "sameText", "(II)Z"⟩, prog_13_method_17_code, 6, some (.boolean)) := xk_meth_of (by decide +kernel) xw_1343 rfl rfl (by decide) rfl xm_218 (fun q h => xl_n22 w q h) (xl_c22 w)
theorem xm_219 : xt_b219.all (xk_row prog_13_method_13_code 5 (xt_kn22) (xt_kc22)) = true := by decide +kernel
theorem xp_219 (w : Value) : xk_meth (xt_G w) 219 (⟨"ContractDeskModel", "end", "(I)I"⟩, prog_13_method_13_code, 5, some (.int)) := xk_meth_of (by decide +kernel) xw_1347 rfl rfl (by decide) rfl xm_219 (fun q h => xl_n22 w q h) (xl_c22 w)
theorem xm_220 : xt_b220.all (xk_row prog_13_method_12_code 1 (xt_kn22) (xt_kc22)) = true := by decide +kernel
theorem xp_220 (w : Value) : xk_meth (xt_G w) 220 (⟨"ContractDeskModel", "stops", "(C)Z"⟩, prog_13_method_12_code, 1, some (.boolean)) := xk_meth_of (by decide +kernel) xw_1350 rfl rfl (by decide) rfl xm_220 (fun q h => xl_n22 w q h) (xl_c22 w)
theorem xm_221 : xt_b221.all (xk_row prog_13_method_15_code 3 (xt_kn22) (xt_kc22)) = true := by decide +kernel
theorem xp_221 (w : Value) : xk_meth (xt_G w) 221 (⟨"ContractDeskModel", "parts", "(I)I"⟩, prog_13_method_15_code, 3, some (.int)) := xk_meth_of (by decide +kernel) xw_1354 rfl rfl (by decide) rfl xm_221 (fun q h => xl_n22 w q h) (xl_c22 w)
theorem xm_222 : xt_b222.all (xk_row prog_13_method_14_code 6 (xt_kn22) (xt_kc22)) = true := by decide +kernel
theorem xp_222 (w : Value) : xk_meth (xt_G w) 222 (⟨"ContractDeskModel", "part", "(II)I"⟩, prog_13_method_14_code, 6, some (.int)) := xk_meth_of (by decide +kernel) xw_1358 rfl rfl (by decide) rfl xm_222 (fun q h => xl_n22 w q h) (xl_c22 w)
theorem xm_223 : xt_b223.all (xk_row prog_13_method_16_code 6 (xt_kn22) (xt_kc22)) = true := by decide +kernel
theorem xp_223 (w : Value) : xk_meth (xt_G w) 223 (⟨"ContractDeskModel", "member", "(IC)I"⟩, prog_13_method_16_code, 6, some (.int)) := xk_meth_of (by decide +kernel) xw_1362 rfl rfl (by decide) rfl xm_223 (fun q h => xl_n22 w q h) (xl_c22 w)
theorem xm_224 : xt_b224.all (xk_row prog_13_method_21_code 3 (xt_kn22) (xt_kc22)) = true := by decide +kernel
theorem xp_224 (w : Value) : xk_meth (xt_G w) 224 (⟨"ContractDeskModel", "keep", "(I)V"⟩, prog_13_method_21_code, 3, none) := xk_meth_of (by decide +kernel) xw_1366 rfl rfl (by decide) rfl xm_224 (fun q h => xl_n22 w q h) (xl_c22 w)
theorem xm_225 : xt_b225.all (xk_row prog_13_method_23_code 4 (xt_kn22) (xt_kc22)) = true := by decide +kernel
theorem xp_225 (w : Value) : xk_meth (xt_G w) 225 (⟨"ContractDeskModel", "needs", "(II)Z"⟩, prog_13_method_23_code, 4, some (.boolean)) := xk_meth_of (by decide +kernel) xw_1370 rfl rfl (by decide) rfl xm_225 (fun q h => xl_n22 w q h) (xl_c22 w)
theorem xm_226 : xt_b226.all (xk_row prog_13_method_24_code 3 (xt_kn22) (xt_kc22)) = true := by decide +kernel
theorem xp_226 (w : Value) : xk_meth (xt_G w) 226 (⟨"ContractDeskModel", "handler", "(II)Z"⟩, prog_13_method_24_code, 3, some (.boolean)) := xk_meth_of (by decide +kernel) xw_1374 rfl rfl (by decide) rfl xm_226 (fun q h => xl_n22 w q h) (xl_c22 w)
theorem xm_227 : xt_b227.all (xk_row prog_13_method_29_code 5 (xt_kn22) (xt_kc22)) = true := by decide +kernel
theorem xp_227 (w : Value) : xk_meth (xt_G w) 227 (⟨"ContractDeskModel", "rule", "(I)I"⟩, prog_13_method_29_code, 5, some (.int)) := xk_meth_of (by decide +kernel) xw_1378 rfl rfl (by decide) rfl xm_227 (fun q h => xl_n22 w q h) (xl_c22 w)
theorem xm_228 : xt_b228.all (xk_row prog_13_method_28_code 7 (xt_kn22) (xt_kc22)) = true := by decide +kernel
theorem xp_228 (w : Value) : xk_meth (xt_G w) 228 (⟨"ContractDeskModel", "isRule", "()Z"⟩, prog_13_method_28_code, 7, some (.boolean)) := xk_meth_of (by decide +kernel) xw_1382 rfl rfl (by decide) rfl xm_228 (fun q h => xl_n22 w q h) (xl_c22 w)
theorem xm_229 : xt_b229.all (xk_row prog_13_method_25_code 2 (xt_kn22) (xt_kc22)) = true := by decide +kernel
theorem xp_229 (w : Value) : xk_meth (xt_G w) 229 (⟨"ContractDeskModel", "stepEnd", "(I)I"⟩, prog_13_method_25_code, 2, some (.int)) := xk_meth_of (by decide +kernel) xw_1386 rfl rfl (by decide) rfl xm_229 (fun q h => xl_n22 w q h) (xl_c22 w)
theorem xm_230 : xt_b230.all (xk_row prog_13_method_27_code 4 (xt_kn22) (xt_kc22)) = true := by decide +kernel
theorem xp_230 (w : Value) : xk_meth (xt_G w) 230 (⟨"ContractDeskModel", "matcherEnd", "(I)I"⟩, prog_13_method_27_code, 4, some (.int)) := xk_meth_of (by decide +kernel) xw_1390 rfl rfl (by decide) rfl xm_230 (fun q h => xl_n22 w q h) (xl_c22 w)
theorem xm_231 : xt_b231.all (xk_row prog_13_method_26_code 4 (xt_kn22) (xt_kc22)) = true := by decide +kernel
theorem xp_231 (w : Value) : xk_meth (xt_G w) 231 (⟨"ContractDeskModel", "itemsEnd", "(I)I"⟩, prog_13_method_26_code, 4, some (.int)) := xk_meth_of (by decide +kernel) xw_1394 rfl rfl (by decide) rfl xm_231 (fun q h => xl_n22 w q h) (xl_c22 w)
theorem xm_232 : xt_b232.all (xk_row prog_13_method_34_code 3 (xt_kn22) (xt_kc22)) = true := by decide +kernel
theorem xp_232 (w : Value) : xk_meth (xt_G w) 232 (⟨"ContractDeskModel", "select", "(I)I"⟩, prog_13_method_34_code, 3, some (.int)) := xk_meth_of (by decide +kernel) xw_1398 rfl rfl (by decide) rfl xm_232 (fun q h => xl_n22 w q h) (xl_c22 w)
theorem xm_233 : xt_b233.all (xk_row prog_13_method_33_code 5 (xt_kn22) (xt_kc22)) = true := by decide +kernel
theorem xp_233 (w : Value) : xk_meth (xt_G w) 233 (⟨"ContractDeskModel", "readPlace", "()Z"⟩, prog_13_method_33_code, 5, some (.boolean)) := xk_meth_of (by decide +kernel) xw_1402 rfl rfl (by decide) rfl xm_233 (fun q h => xl_n22 w q h) (xl_c22 w)
theorem xm_234 : xt_b234.all (xk_row prog_13_method_32_code 6 (xt_kn22) (xt_kc22)) = true := by decide +kernel
theorem xp_234 (w : Value) : xk_meth (xt_G w) 234 (⟨"ContractDeskModel", "selected", "(I)I"⟩, prog_13_method_32_code, 6, some (.int)) := xk_meth_of (by decide +kernel) xw_1406 rfl rfl (by decide) rfl xm_234 (fun q h => xl_n22 w q h) (xl_c22 w)
theorem xm_235 : xt_b235.all (xk_row prog_13_method_31_code 9 (xt_kn22) (xt_kc22)) = true := by decide +kernel
theorem xp_235 (w : Value) : xk_meth (xt_G w) 235 (⟨"ContractDeskModel", "fits", "(I)I"⟩, prog_13_method_31_code, 9, some (.int)) := xk_meth_of (by decide +kernel) xw_1410 rfl rfl (by decide) rfl xm_235 (fun q h => xl_n22 w q h) (xl_c22 w)
theorem xm_236 : xt_b236.all (xk_row prog_13_method_30_code 3 (xt_kn22) (xt_kc22)) = true := by decide +kernel
theorem xp_236 (w : Value) : xk_meth (xt_G w) 236 (⟨"ContractDeskModel", "colon", "(I)I"⟩, prog_13_method_30_code, 3, some (.int)) := xk_meth_of (by decide +kernel) xw_1414 rfl rfl (by decide) rfl xm_236 (fun q h => xl_n22 w q h) (xl_c22 w)
theorem xm_237 : xt_b237.all (xk_row prog_13_method_52_code 5 (xt_kn22) (xt_kc22)) = true := by decide +kernel
theorem xp_237 (w : Value) : xk_meth (xt_G w) 237 (⟨"ContractDeskModel", "verify", "(I)I"⟩, prog_13_method_52_code, 5, some (.int)) := xk_meth_of (by decide +kernel) xw_1418 rfl rfl (by decide) rfl xm_237 (fun q h => xl_n22 w q h) (xl_c22 w)
theorem xm_238 : xt_b238.all (xk_row prog_13_method_53_code 5 (xt_kn22) (xt_kc22)) = true := by decide +kernel
theorem xp_238 (w : Value) : xk_meth (xt_G w) 238 (⟨"ContractDeskModel", "verified", "(I)I"⟩, prog_13_method_53_code, 5, some (.int)) := xk_meth_of (by decide +kernel) xw_1422 rfl rfl (by decide) rfl xm_238 (fun q h => xl_n22 w q h) (xl_c22 w)
theorem xm_239 : xt_b239.all (xk_row prog_13_method_51_code 3 (xt_kn22) (xt_kc22)) = true := by decide +kernel
theorem xp_239 (w : Value) : xk_meth (xt_G w) 239 (⟨"ContractDeskModel", "happen", "(II)V"⟩, prog_13_method_51_code, 3, none) := xk_meth_of (by decide +kernel) xw_1426 rfl rfl (by decide) rfl xm_239 (fun q h => xl_n22 w q h) (xl_c22 w)
theorem xm_240 : xt_b240.all (xk_row prog_13_method_49_code 7 (xt_kn22) (xt_kc22)) = true := by decide +kernel
theorem xp_240 (w : Value) : xk_meth (xt_G w) 240 (⟨"ContractDeskModel", "compareAll", "(I)I"⟩, prog_13_method_49_code, 7, some (.int)) := xk_meth_of (by decide +kernel) xw_1430 rfl rfl (by decide) rfl xm_240 (fun q h => xl_n22 w q h) (xl_c22 w)
theorem xm_241 : xt_b241.all (xk_row prog_13_method_41_code 5 (xt_kn22) (xt_kc22)) = true := by decide +kernel
theorem xp_241 (w : Value) : xk_meth (xt_G w) 241 (⟨"ContractDeskModel", "push", "(IIII)V"⟩, prog_13_method_41_code, 5, none) := xk_meth_of (by decide +kernel) xw_1434 rfl rfl (by decide) rfl xm_241 (fun q h => xl_n22 w q h) (xl_c22 w)
theorem xm_242 : xt_b242.all (xk_row prog_13_method_43_code 4 (xt_kn22) (xt_kc22)) = true := by decide +kernel
theorem xp_242 (w : Value) : xk_meth (xt_G w) 242 (⟨"ContractDeskModel", "lay", "(I)V"⟩, prog_13_method_43_code, 4, none) := xk_meth_of (by decide +kernel) xw_1438 rfl rfl (by decide) rfl xm_242 (fun q h => xl_n22 w q h) (xl_c22 w)
theorem xm_243 : xt_b243.all (xk_row prog_13_method_45_code 5 (xt_kn22) (xt_kc22)) = true := by decide +kernel
theorem xp_243 (w : Value) : xk_meth (xt_G w) 243 (⟨"ContractDeskModel", "list", "(I)V"⟩, prog_13_method_45_code, 5, none) := xk_meth_of (by decide +kernel) xw_1442 rfl rfl (by decide) rfl xm_243 (fun q h => xl_n22 w q h) (xl_c22 w)
theorem xm_244 : xt_b244.all (xk_row prog_13_method_44_code 3 (xt_kn22) (xt_kc22)) = true := by decide +kernel
theorem xp_244 (w : Value) : xk_meth (xt_G w) 244 (⟨"ContractDeskModel", "put", "(II)V"⟩, prog_13_method_44_code, 3, none) := xk_meth_of (by decide +kernel) xw_1446 rfl rfl (by decide) rfl xm_244 (fun q h => xl_n22 w q h) (xl_c22 w)
theorem xm_245 : xt_b245.all (xk_row prog_13_method_46_code 8 (xt_kn22) (xt_kc22)) = true := by decide +kernel
theorem xp_245 (w : Value) : xk_meth (xt_G w) 245 (⟨"ContractDeskModel", "compared", "(IIII)I"⟩, prog_13_method_46_code, 8, some (.int)) := xk_meth_of (by decide +kernel) xw_1450 rfl rfl (by decide) rfl xm_245 (fun q h => xl_n22 w q h) (xl_c22 w)
theorem xm_246 : xt_b246.all (xk_row prog_13_method_40_code 12 (xt_kn22) (xt_kc22)) = true := by decide +kernel
theorem xp_246 (w : Value) : xk_meth (xt_G w) 246 (⟨"ContractDeskModel", "outcome", "(III)I"⟩, prog_13_method_40_code, 12, some (.int)) := xk_meth_of (by decide +kernel) xw_1454 rfl rfl (by decide) rfl xm_246 (fun q h => xl_n22 w q h) (xl_c22 w)
theorem xm_247 : xt_b247.all (xk_row prog_13_method_39_code 4 (xt_kn22) (xt_kc22)) = true := by decide +kernel
theorem xp_247 (w : Value) : xk_meth (xt_G w) 247 (⟨"ContractDeskModel", "behind", "(II)I"⟩, prog_13_method_39_code, 4, some (.int)) := xk_meth_of (by decide +kernel) xw_1458 rfl rfl (by decide) rfl xm_247 (fun q h => xl_n22 w q h) (xl_c22 w)
theorem xm_248 : xt_b248.all (xk_row prog_13_method_38_code 5 (xt_kn22) (xt_kc22)) = true := by decide +kernel
theorem xp_248 (w : Value) : xk_meth (xt_G w) 248 (⟨"ContractDeskModel", "holds", "(IIII)Z"⟩, prog_13_method_38_code, 5, some (.boolean)) := xk_meth_of (by decide +kernel) xw_1462 rfl rfl (by decide) rfl xm_248 (fun q h => xl_n22 w q h) (xl_c22 w)
theorem xm_249 : xt_b249.all (xk_row prog_13_method_35_code 9 (xt_kn22) (xt_kc22)) = true := by decide +kernel
theorem xp_249 (w : Value) : xk_meth (xt_G w) 249 (⟨"ContractDeskModel", "contains", "(III)Z"⟩, prog_13_method_35_code, 9, some (.boolean)) := xk_meth_of (by decide +kernel) xw_1466 rfl rfl (by decide) rfl xm_249 (fun q h => xl_n22 w q h) (xl_c22 w)
theorem xm_250 : xt_b250.all (xk_row prog_13_method_36_code 10 (xt_kn22) (xt_kc22)) = true := by decide +kernel
theorem xp_250 (w : Value) : xk_meth (xt_G w) 250 (⟨"ContractDeskModel", "isAs", "(III)Z"⟩, prog_13_method_36_code, 10, some (.boolean)) := xk_meth_of (by decide +kernel) xw_1470 rfl rfl (by decide) rfl xm_250 (fun q h => xl_n22 w q h) (xl_c22 w)
theorem xm_251 : xt_b251.all (xk_row prog_13_method_37_code 3 (xt_kn22) (xt_kc22)) = true := by decide +kernel
theorem xp_251 (w : Value) : xk_meth (xt_G w) 251 (⟨"ContractDeskModel", "spread", "(I)V"⟩, prog_13_method_37_code, 3, none) := xk_meth_of (by decide +kernel) xw_1474 rfl rfl (by decide) rfl xm_251 (fun q h => xl_n22 w q h) (xl_c22 w)
theorem xm_252 : xt_b252.all (xk_row prog_13_method_47_code 11 (xt_kn22) (xt_kc22)) = true := by decide +kernel
theorem xp_252 (w : Value) : xk_meth (xt_G w) 252 (⟨"ContractDeskModel", "elements", "(ZIII)I"⟩, prog_13_method_47_code, 11, some (.int)) := xk_meth_of (by decide +kernel) xw_1478 rfl rfl (by decide) rfl xm_252 (fun q h => xl_n22 w q h) (xl_c22 w)
theorem xm_253 : xt_b253.all (xk_row prog_13_method_42_code 3 (xt_kn22) (xt_kc22)) = true := by decide +kernel
theorem xp_253 (w : Value) : xk_meth (xt_G w) 253 (⟨"ContractDeskModel", "place", "(II)I"⟩, prog_13_method_42_code, 3, some (.int)) := xk_meth_of (by decide +kernel) xw_1482 rfl rfl (by decide) rfl xm_253 (fun q h => xl_n22 w q h) (xl_c22 w)
theorem xm_254 : xt_b254.all (xk_row prog_13_method_48_code 11 (xt_kn22) (xt_kc22)) = true := by decide +kernel
theorem xp_254 (w : Value) : xk_meth (xt_G w) 254 (⟨"ContractDeskModel", "members", "(IIII)V"⟩, prog_13_method_48_code, 11, none) := xk_meth_of (by decide +kernel) xw_1486 rfl rfl (by decide) rfl xm_254 (fun q h => xl_n22 w q h) (xl_c22 w)
theorem xm_255 : xt_b255.all (xk_row prog_13_method_50_code 5 (xt_kn22) (xt_kc22)) = true := by decide +kernel
theorem xp_255 (w : Value) : xk_meth (xt_G w) 255 (⟨"ContractDeskModel", "tear", "(II)V"⟩, prog_13_method_50_code, 5, none) := xk_meth_of (by decide +kernel) xw_1490 rfl rfl (by decide) rfl xm_255 (fun q h => xl_n22 w q h) (xl_c22 w)
theorem xm_256 : xt_b256.all (xk_row prog_13_method_54_code 1 (xt_kn22) (xt_kc22)) = true := by decide +kernel
theorem xp_256 (w : Value) : xk_meth (xt_G w) 256 (⟨"ContractDeskModel", "listed", "()I"⟩, prog_13_method_54_code, 1, some (.int)) := xk_meth_of (by decide +kernel) xw_1494 rfl rfl (by decide) rfl xm_256 (fun q h => xl_n22 w q h) (xl_c22 w)
theorem xm_257 : xt_b257.all (xk_row prog_13_method_55_code 2 (xt_kn22) (xt_kc22)) = true := by decide +kernel
theorem xp_257 (w : Value) : xk_meth (xt_G w) 257 (⟨"ContractDeskModel", "mismatch", "(I)I"⟩, prog_13_method_55_code, 2, some (.int)) := xk_meth_of (by decide +kernel) xw_1498 rfl rfl (by decide) rfl xm_257 (fun q h => xl_n22 w q h) (xl_c22 w)
theorem xm_258 : xt_b258.all (xk_row prog_13_method_56_code 3 (xt_kn22) (xt_kc22)) = true := by decide +kernel
theorem xp_258 (w : Value) : xk_meth (xt_G w) 258 (⟨"ContractDeskModel", "letter", "(II)I"⟩, prog_13_method_56_code, 3, some (.int)) := xk_meth_of (by decide +kernel) xw_1502 rfl rfl (by decide) rfl xm_258 (fun q h => xl_n22 w q h) (xl_c22 w)
theorem xm_259 : xt_b259.all (xk_row prog_13_method_57_code 2 (xt_kn22) (xt_kc22)) = true := by decide +kernel
theorem xp_259 (w : Value) : xk_meth (xt_G w) 259 (⟨"ContractDeskModel", "event", "(I)I"⟩, prog_13_method_57_code, 2, some (.int)) := xk_meth_of (by decide +kernel) xw_1506 rfl rfl (by decide) rfl xm_259 (fun q h => xl_n22 w q h) (xl_c22 w)
