/-! The tables are the program's -/
theorem xt_ty0 : ∀ (i : Nat) (t : FieldType), (xt_ty 0)[i]? = some t → parseFieldDescriptor (xt_T0 i).2.2.1 = some t := by
  intro i t h
  match i, h with
  | 0, h => cases h; decide +kernel
  | 1, h => cases h; decide +kernel
  | 2, h => cases h; decide +kernel
  | 3, h => cases h; decide +kernel
  | 4, h => cases h; decide +kernel
  | n + 5, h => exact absurd h (by simp [xt_ty])
theorem xt_ty1 : ∀ (i : Nat) (t : FieldType), (xt_ty 1)[i]? = some t → parseFieldDescriptor (xt_T1 i).2.2.1 = some t := by
  intro i t h
  match i, h with
  | 0, h => cases h; decide +kernel
  | 1, h => cases h; decide +kernel
  | 2, h => cases h; decide +kernel
  | 3, h => cases h; decide +kernel
  | n + 4, h => exact absurd h (by simp [xt_ty])
theorem xt_ty2 : ∀ (i : Nat) (t : FieldType), (xt_ty 2)[i]? = some t → parseFieldDescriptor (xt_T2 i).2.2.1 = some t := by
  intro i t h
  match i, h with
  | 0, h => cases h; decide +kernel
  | 1, h => cases h; decide +kernel
  | n + 2, h => exact absurd h (by simp [xt_ty])
theorem xt_ty3 : ∀ (i : Nat) (t : FieldType), (xt_ty 3)[i]? = some t → parseFieldDescriptor (xt_T3 i).2.2.1 = some t := by
  intro i t h
  match i, h with
  | 0, h => cases h; decide +kernel
  | 1, h => cases h; decide +kernel
  | 2, h => cases h; decide +kernel
  | 3, h => cases h; decide +kernel
  | 4, h => cases h; decide +kernel
  | 5, h => cases h; decide +kernel
  | n + 6, h => exact absurd h (by simp [xt_ty])
theorem xt_ty4 : ∀ (i : Nat) (t : FieldType), (xt_ty 4)[i]? = some t → parseFieldDescriptor (xt_T4 i).2.2.1 = some t := by
  intro i t h
  match i, h with
  | 0, h => cases h; decide +kernel
  | 1, h => cases h; decide +kernel
  | 2, h => cases h; decide +kernel
  | n + 3, h => exact absurd h (by simp [xt_ty])
theorem xt_ty5 : ∀ (i : Nat) (t : FieldType), (xt_ty 5)[i]? = some t → parseFieldDescriptor (xt_T5 i).2.2.1 = some t := by
  intro i t h
  match i, h with
  | 0, h => cases h; decide +kernel
  | 1, h => cases h; decide +kernel
  | n + 2, h => exact absurd h (by simp [xt_ty])
theorem xt_ty6 : ∀ (i : Nat) (t : FieldType), (xt_ty 6)[i]? = some t → parseFieldDescriptor (xt_T6 i).2.2.1 = some t := by
  intro i t h
  match i, h with
  | 0, h => cases h; decide +kernel
  | 1, h => cases h; decide +kernel
  | n + 2, h => exact absurd h (by simp [xt_ty])
theorem xt_ty7 : ∀ (i : Nat) (t : FieldType), (xt_ty 7)[i]? = some t → parseFieldDescriptor (xt_T7 i).2.2.1 = some t := by
  intro i t h
  match i, h with
  | 0, h => cases h; decide +kernel
  | 1, h => cases h; decide +kernel
  | 2, h => cases h; decide +kernel
  | 3, h => cases h; decide +kernel
  | n + 4, h => exact absurd h (by simp [xt_ty])
theorem xt_ty8 : ∀ (i : Nat) (t : FieldType), (xt_ty 8)[i]? = some t → parseFieldDescriptor (xt_T8 i).2.2.1 = some t := by
  intro i t h
  match i, h with
  | 0, h => cases h; decide +kernel
  | 1, h => cases h; decide +kernel
  | 2, h => cases h; decide +kernel
  | n + 3, h => exact absurd h (by simp [xt_ty])
theorem xt_ty9 : ∀ (i : Nat) (t : FieldType), (xt_ty 9)[i]? = some t → parseFieldDescriptor (xt_T9 i).2.2.1 = some t := by
  intro i t h
  match i, h with
  | 0, h => cases h; decide +kernel
  | 1, h => cases h; decide +kernel
  | 2, h => cases h; decide +kernel
  | 3, h => cases h; decide +kernel
  | 4, h => cases h; decide +kernel
  | n + 5, h => exact absurd h (by simp [xt_ty])
theorem xt_ty10 : ∀ (i : Nat) (t : FieldType), (xt_ty 10)[i]? = some t → parseFieldDescriptor (xt_T10 i).2.2.1 = some t := by
  intro i t h
  match i, h with
  | 0, h => cases h; decide +kernel
  | 1, h => cases h; decide +kernel
  | 2, h => cases h; decide +kernel
  | 3, h => cases h; decide +kernel
  | 4, h => cases h; decide +kernel
  | 5, h => cases h; decide +kernel
  | 6, h => cases h; decide +kernel
  | 7, h => cases h; decide +kernel
  | 8, h => cases h; decide +kernel
  | 9, h => cases h; decide +kernel
  | 10, h => cases h; decide +kernel
  | 11, h => cases h; decide +kernel
  | 12, h => cases h; decide +kernel
  | 13, h => cases h; decide +kernel
  | 14, h => cases h; decide +kernel
  | 15, h => cases h; decide +kernel
  | 16, h => cases h; decide +kernel
  | 17, h => cases h; decide +kernel
  | 18, h => cases h; decide +kernel
  | 19, h => cases h; decide +kernel
  | 20, h => cases h; decide +kernel
  | 21, h => cases h; decide +kernel
  | 22, h => cases h; decide +kernel
  | 23, h => cases h; decide +kernel
  | 24, h => cases h; decide +kernel
  | 25, h => cases h; decide +kernel
  | 26, h => cases h; decide +kernel
  | 27, h => cases h; decide +kernel
  | 28, h => cases h; decide +kernel
  | 29, h => cases h; decide +kernel
  | 30, h => cases h; decide +kernel
  | 31, h => cases h; decide +kernel
  | 32, h => cases h; decide +kernel
  | 33, h => cases h; decide +kernel
  | 34, h => cases h; decide +kernel
  | n + 35, h => exact absurd h (by simp [xt_ty])
theorem xt_ty11 : ∀ (i : Nat) (t : FieldType), (xt_ty 11)[i]? = some t → parseFieldDescriptor (xt_T11 i).2.2.1 = some t := by
  intro i t h
  match i, h with
  | 0, h => cases h; decide +kernel
  | 1, h => cases h; decide +kernel
  | 2, h => cases h; decide +kernel
  | 3, h => cases h; decide +kernel
  | n + 4, h => exact absurd h (by simp [xt_ty])
theorem xt_ty12 : ∀ (i : Nat) (t : FieldType), (xt_ty 12)[i]? = some t → parseFieldDescriptor (xt_T12 i).2.2.1 = some t := by
  intro i t h
  match i, h with
  | 0, h => cases h; decide +kernel
  | 1, h => cases h; decide +kernel
  | 2, h => cases h; decide +kernel
  | 3, h => cases h; decide +kernel
  | n + 4, h => exact absurd h (by simp [xt_ty])
theorem xt_ty13 : ∀ (i : Nat) (t : FieldType), (xt_ty 13)[i]? = some t → parseFieldDescriptor (xt_T13 i).2.2.1 = some t := by
  intro i t h
  match i, h with
  | 0, h => cases h; decide +kernel
  | 1, h => cases h; decide +kernel
  | 2, h => cases h; decide +kernel
  | n + 3, h => exact absurd h (by simp [xt_ty])
theorem xt_ty14 : ∀ (i : Nat) (t : FieldType), (xt_ty 14)[i]? = some t → parseFieldDescriptor (xt_T14 i).2.2.1 = some t := by
  intro i t h
  match i, h with
  | n + 0, h => exact absurd h (by simp [xt_ty])
theorem xt_cls : xs_cls xt_cl xt_W xt_ty := by
  intro k r hr
  match k, hr with
  | 0, h =>
    cases h
    exact ⟨xc_0, rfl, xt_ty0, by decide +kernel⟩
  | 1, h =>
    cases h
    exact ⟨xc_1, rfl, xt_ty1, by decide +kernel⟩
  | 2, h =>
    cases h
    exact ⟨xc_2, rfl, xt_ty2, by decide +kernel⟩
  | 3, h =>
    cases h
    exact ⟨xc_3, rfl, xt_ty3, by decide +kernel⟩
  | 4, h =>
    cases h
    exact ⟨xc_4, rfl, xt_ty4, by decide +kernel⟩
  | 5, h =>
    cases h
    exact ⟨xc_5, rfl, xt_ty5, by decide +kernel⟩
  | 6, h =>
    cases h
    exact ⟨xc_6, rfl, xt_ty6, by decide +kernel⟩
  | 7, h =>
    cases h
    exact ⟨xc_7, rfl, xt_ty7, by decide +kernel⟩
  | 8, h =>
    cases h
    exact ⟨xc_8, rfl, xt_ty8, by decide +kernel⟩
  | 9, h =>
    cases h
    exact ⟨xc_9, rfl, xt_ty9, by decide +kernel⟩
  | 10, h =>
    cases h
    exact ⟨xc_10, rfl, xt_ty10, by decide +kernel⟩
  | 11, h =>
    cases h
    exact ⟨xc_11, rfl, xt_ty11, by decide +kernel⟩
  | 12, h =>
    cases h
    exact ⟨xc_12, rfl, xt_ty12, by decide +kernel⟩
  | 13, h =>
    cases h
    exact ⟨xc_13, rfl, xt_ty13, by decide +kernel⟩
  | n + 14, h => exact absurd h (by simp)
theorem xt_all (w : Value) : ∀ (y : Nat) (inf : xs_M), xt_inf y = some inf → xk_meth (xt_G w) y inf := by
  intro y inf h
  match y, h with
  | 0, h => cases h
  | 1, h => cases h; exact xp_1 w
  | 2, h => cases h
  | 3, h => cases h; exact xp_3 w
  | 4, h => cases h; exact xp_4 w
  | 5, h => cases h; exact xp_5 w
  | 6, h => cases h; exact xp_6 w
  | 7, h => cases h; exact xp_7 w
  | 8, h => cases h; exact xp_8 w
  | 9, h => cases h; exact xp_9 w
  | 10, h => cases h; exact xp_10 w
  | 11, h => cases h; exact xp_11 w
  | 12, h => cases h; exact xp_12 w
  | 13, h => cases h; exact xp_13 w
  | 14, h => cases h; exact xp_14 w
  | 15, h => cases h; exact xp_15 w
  | 16, h => cases h; exact xp_16 w
  | 17, h => cases h; exact xp_17 w
  | 18, h => cases h; exact xp_18 w
  | 19, h => cases h; exact xp_19 w
  | 20, h => cases h
  | 21, h => cases h; exact xp_21 w
  | 22, h => cases h; exact xp_22 w
  | 23, h => cases h
  | 24, h => cases h; exact xp_24 w
  | 25, h => cases h; exact xp_25 w
  | 26, h => cases h; exact xp_26 w
  | 27, h => cases h; exact xp_27 w
  | 28, h => cases h; exact xp_28 w
  | 29, h => cases h; exact xp_29 w
  | 30, h => cases h; exact xp_30 w
  | 31, h => cases h; exact xp_31 w
  | 32, h => cases h; exact xp_32 w
  | 33, h => cases h; exact xp_33 w
  | 34, h => cases h; exact xp_34 w
  | 35, h => cases h; exact xp_35 w
  | 36, h => cases h; exact xp_36 w
  | 37, h => cases h; exact xp_37 w
  | 38, h => cases h; exact xp_38 w
  | 39, h => cases h; exact xp_39 w
  | 40, h => cases h; exact xp_40 w
  | 41, h => cases h; exact xp_41 w
  | 42, h => cases h; exact xp_42 w
  | 43, h => cases h; exact xp_43 w
  | 44, h => cases h; exact xp_44 w
  | 45, h => cases h; exact xp_45 w
  | 46, h => cases h; exact xp_46 w
  | 47, h => cases h; exact xp_47 w
  | 48, h => cases h; exact xp_48 w
  | 49, h => cases h; exact xp_49 w
  | 50, h => cases h; exact xp_50 w
  | 51, h => cases h; exact xp_51 w
  | 52, h => cases h; exact xp_52 w
  | 53, h => cases h; exact xp_53 w
  | 54, h => cases h; exact xp_54 w
  | 55, h => cases h; exact xp_55 w
  | 56, h => cases h; exact xp_56 w
  | 57, h => cases h; exact xp_57 w
  | 58, h => cases h; exact xp_58 w
  | 59, h => cases h; exact xp_59 w
  | 60, h => cases h; exact xp_60 w
  | 61, h => cases h; exact xp_61 w
  | 62, h => cases h; exact xp_62 w
  | 63, h => cases h; exact xp_63 w
  | 64, h => cases h; exact xp_64 w
  | 65, h => cases h; exact xp_65 w
  | 66, h => cases h; exact xp_66 w
  | 67, h => cases h; exact xp_67 w
  | 68, h => cases h; exact xp_68 w
  | 69, h => cases h; exact xp_69 w
  | 70, h => cases h; exact xp_70 w
  | 71, h => cases h; exact xp_71 w
  | 72, h => cases h; exact xp_72 w
  | 73, h => cases h; exact xp_73 w
  | 74, h => cases h; exact xp_74 w
  | 75, h => cases h; exact xp_75 w
  | 76, h => cases h; exact xp_76 w
  | 77, h => cases h; exact xp_77 w
  | 78, h => cases h; exact xp_78 w
  | 79, h => cases h; exact xp_79 w
  | 80, h => cases h; exact xp_80 w
  | 81, h => cases h; exact xp_81 w
  | 82, h => cases h; exact xp_82 w
  | 83, h => cases h; exact xp_83 w
  | 84, h => cases h; exact xp_84 w
  | 85, h => cases h; exact xp_85 w
  | 86, h => cases h; exact xp_86 w
  | 87, h => cases h; exact xp_87 w
  | 88, h => cases h; exact xp_88 w
  | 89, h => cases h; exact xp_89 w
  | 90, h => cases h; exact xp_90 w
  | 91, h => cases h; exact xp_91 w
  | 92, h => cases h; exact xp_92 w
  | 93, h => cases h; exact xp_93 w
  | 94, h => cases h; exact xp_94 w
  | 95, h => cases h; exact xp_95 w
  | 96, h => cases h; exact xp_96 w
  | 97, h => cases h; exact xp_97 w
  | 98, h => cases h; exact xp_98 w
  | 99, h => cases h; exact xp_99 w
  | 100, h => cases h; exact xp_100 w
  | 101, h => cases h; exact xp_101 w
  | 102, h => cases h; exact xp_102 w
  | 103, h => cases h; exact xp_103 w
  | 104, h => cases h
  | 105, h => cases h
  | 106, h => cases h
  | 107, h => cases h
  | 108, h => cases h; exact xp_108 w
  | 109, h => cases h; exact xp_109 w
  | 110, h => cases h; exact xp_110 w
  | 111, h => cases h; exact xp_111 w
  | 112, h => cases h; exact xp_112 w
  | 113, h => cases h; exact xp_113 w
  | 114, h => cases h; exact xp_114 w
  | 115, h => cases h; exact xp_115 w
  | 116, h => cases h; exact xp_116 w
  | 117, h => cases h; exact xp_117 w
  | 118, h => cases h; exact xp_118 w
  | 119, h => cases h; exact xp_119 w
  | 120, h => cases h; exact xp_120 w
  | 121, h => cases h; exact xp_121 w
  | 122, h => cases h; exact xp_122 w
  | 123, h => cases h; exact xp_123 w
  | 124, h => cases h; exact xp_124 w
  | 125, h => cases h; exact xp_125 w
  | 126, h => cases h; exact xp_126 w
  | 127, h => cases h; exact xp_127 w
  | 128, h => cases h; exact xp_128 w
  | 129, h => cases h; exact xp_129 w
  | 130, h => cases h; exact xp_130 w
  | 131, h => cases h; exact xp_131 w
  | 132, h => cases h; exact xp_132 w
  | 133, h => cases h; exact xp_133 w
  | 134, h => cases h; exact xp_134 w
  | 135, h => cases h; exact xp_135 w
  | 136, h => cases h; exact xp_136 w
  | 137, h => cases h; exact xp_137 w
  | 138, h => cases h; exact xp_138 w
  | 139, h => cases h; exact xp_139 w
  | 140, h => cases h; exact xp_140 w
  | 141, h => cases h; exact xp_141 w
  | 142, h => cases h; exact xp_142 w
  | 143, h => cases h
  | 144, h => cases h; exact xp_144 w
  | 145, h => cases h; exact xp_145 w
  | 146, h => cases h; exact xp_146 w
  | 147, h => cases h; exact xp_147 w
  | 148, h => cases h; exact xp_148 w
  | 149, h => cases h; exact xp_149 w
  | 150, h => cases h; exact xp_150 w
  | 151, h => cases h; exact xp_151 w
  | 152, h => cases h; exact xp_152 w
  | 153, h => cases h; exact xp_153 w
  | 154, h => cases h; exact xp_154 w
  | 155, h => cases h; exact xp_155 w
  | 156, h => cases h; exact xp_156 w
  | 157, h => cases h; exact xp_157 w
  | 158, h => cases h; exact xp_158 w
  | 159, h => cases h; exact xp_159 w
  | 160, h => cases h; exact xp_160 w
  | 161, h => cases h; exact xp_161 w
  | 162, h => cases h; exact xp_162 w
  | 163, h => cases h; exact xp_163 w
  | 164, h => cases h; exact xp_164 w
  | 165, h => cases h; exact xp_165 w
  | 166, h => cases h; exact xp_166 w
  | 167, h => cases h; exact xp_167 w
  | 168, h => cases h; exact xp_168 w
  | 169, h => cases h; exact xp_169 w
  | 170, h => cases h; exact xp_170 w
  | 171, h => cases h; exact xp_171 w
  | 172, h => cases h; exact xp_172 w
  | 173, h => cases h; exact xp_173 w
  | 174, h => cases h; exact xp_174 w
  | 175, h => cases h; exact xp_175 w
  | 176, h => cases h; exact xp_176 w
  | 177, h => cases h; exact xp_177 w
  | 178, h => cases h; exact xp_178 w
  | 179, h => cases h; exact xp_179 w
  | 180, h => cases h; exact xp_180 w
  | 181, h => cases h; exact xp_181 w
  | 182, h => cases h; exact xp_182 w
  | 183, h => cases h; exact xp_183 w
  | 184, h => cases h; exact xp_184 w
  | 185, h => cases h; exact xp_185 w
  | 186, h => cases h; exact xp_186 w
  | 187, h => cases h; exact xp_187 w
  | 188, h => cases h; exact xp_188 w
  | 189, h => cases h; exact xp_189 w
  | 190, h => cases h; exact xp_190 w
  | 191, h => cases h; exact xp_191 w
  | 192, h => cases h; exact xp_192 w
  | 193, h => cases h; exact xp_193 w
  | 194, h => cases h; exact xp_194 w
  | 195, h => cases h; exact xp_195 w
  | 196, h => cases h; exact xp_196 w
  | 197, h => cases h; exact xp_197 w
  | 198, h => cases h; exact xp_198 w
  | 199, h => cases h; exact xp_199 w
  | 200, h => cases h; exact xp_200 w
  | 201, h => cases h; exact xp_201 w
  | 202, h => cases h; exact xp_202 w
  | 203, h => cases h; exact xp_203 w
  | 204, h => cases h; exact xp_204 w
  | 205, h => cases h; exact xp_205 w
  | 206, h => cases h; exact xp_206 w
  | 207, h => cases h; exact xp_207 w
  | 208, h => cases h; exact xp_208 w
  | 209, h => cases h; exact xp_209 w
  | 210, h => cases h; exact xp_210 w
  | 211, h => cases h; exact xp_211 w
  | 212, h => cases h; exact xp_212 w
  | 213, h => cases h; exact xp_213 w
  | 214, h => cases h; exact xp_214 w
  | 215, h => cases h; exact xp_215 w
  | 216, h => cases h; exact xp_216 w
  | 217, h => cases h; exact xp_217 w
  | 218, h => cases h; exact xp_218 w
  | 219, h => cases h; exact xp_219 w
  | 220, h => cases h; exact xp_220 w
  | 221, h => cases h; exact xp_221 w
  | 222, h => cases h; exact xp_222 w
  | 223, h => cases h; exact xp_223 w
  | 224, h => cases h; exact xp_224 w
  | 225, h => cases h; exact xp_225 w
  | 226, h => cases h; exact xp_226 w
  | 227, h => cases h; exact xp_227 w
  | 228, h => cases h; exact xp_228 w
  | 229, h => cases h; exact xp_229 w
  | 230, h => cases h; exact xp_230 w
  | 231, h => cases h; exact xp_231 w
  | 232, h => cases h; exact xp_232 w
  | 233, h => cases h; exact xp_233 w
  | 234, h => cases h; exact xp_234 w
  | 235, h => cases h; exact xp_235 w
  | 236, h => cases h; exact xp_236 w
  | 237, h => cases h; exact xp_237 w
  | 238, h => cases h; exact xp_238 w
  | 239, h => cases h; exact xp_239 w
  | 240, h => cases h; exact xp_240 w
  | 241, h => cases h; exact xp_241 w
  | 242, h => cases h; exact xp_242 w
  | 243, h => cases h; exact xp_243 w
  | 244, h => cases h; exact xp_244 w
  | 245, h => cases h; exact xp_245 w
  | 246, h => cases h; exact xp_246 w
  | 247, h => cases h; exact xp_247 w
  | 248, h => cases h; exact xp_248 w
  | 249, h => cases h; exact xp_249 w
  | 250, h => cases h; exact xp_250 w
  | 251, h => cases h; exact xp_251 w
  | 252, h => cases h; exact xp_252 w
  | 253, h => cases h; exact xp_253 w
  | 254, h => cases h; exact xp_254 w
  | 255, h => cases h; exact xp_255 w
  | 256, h => cases h; exact xp_256 w
  | 257, h => cases h; exact xp_257 w
  | 258, h => cases h; exact xp_258 w
  | 259, h => cases h; exact xp_259 w
  | 260, h => cases h
  | n + 261, h =>
    have e : xt_il.length = 261 := by decide +kernel
    unfold xt_inf at h
    rw [List.getD_eq_getElem?_getD, List.getElem?_eq_none (by omega)] at h
    cases h
/-- WHAT xs_sound ASKS OF THE TABLES -/
theorem xt_prog (w : Value) : xs_prog (xt_G w) xt_cl xt_W xt_TY xt_NW xt_sd xt_sl xt_inf := ⟨xt_good, xt_cls, xt_all w⟩
