/-! ... and the opcodes that touch the heap; whole runs -/
def xo_r (r : xb_S) (X : Nat → Option xb_O) : xb_S := (r.1, r.2.1, r.2.2.1, xb_ov r.2.2.2 X)
section XO2
variable {pc n i k t : Nat} {L : xb_L} {st : List Value} {A : xb_H} {X : Nat → Option xb_O} {r : xb_S}
theorem xo_of {F : xb_H → Option xb_S} (hF : xo_P F) (h : F A = some r) : F (xb_ov A X) = some (xo_r r X) := by
  obtain ⟨h1, h2⟩ := hF A r h
  rw [h2, xo_r, h1]
theorem xo_getx (h : xb_getx pc k i L A st = some r) : xb_getx pc k i L (xb_ov A X) st = some (xo_r r X) := by
  obtain ⟨a, r, fs, v, rfl, hg, hv, rfl⟩ := xb_getx_spec h
  simp only [xb_getx, xo_get hg, hv]
  rw [if_pos trivial]
  rfl
theorem xo_putx {T : Nat → List FieldType} (h : xb_putx T pc k i L A st = some r) : xb_putx T pc k i L (xb_ov A X) st = some (xo_r r X) := by
  obtain ⟨a, v, r, fs, t, rfl, hg, hz, hl, ht, hn, hf, rfl⟩ := xb_putx_spec h
  have hx : (T k)[i]?.any (fun t => xb_fitx t v) = true := by
    rw [ht]
    simp [xb_fitx, hn, hf]
  simp only [xb_putx, xo_get hg]
  rw [if_pos ⟨trivial, hz, hl, hx⟩, xo_set]
  rfl
theorem xo_newax {ty : FieldType} (h : xb_newax ty pc n L A st = some r) : xb_newax ty pc n L (xb_ov A X) st = some (xo_r r X) := by
  obtain ⟨m, r, a, rfl, h1, h2, h3, rfl⟩ := xb_newax_spec h
  simp only [xb_newax]
  rw [if_pos ⟨h1, h2⟩, h3]
  dsimp only
  rw [xo_new]
  rfl
theorem xo_alenx (h : xb_alenx pc L A st = some r) : xb_alenx pc L (xb_ov A X) st = some (xo_r r X) := by
  obtain ⟨a, r, t, n, f, rfl, hg, rfl⟩ := xb_alenx_spec h
  simp only [xb_alenx, xo_get hg]
  rfl
theorem xo_ial {ok : FieldType → Bool} (h : xb_ial ok pc L A st = some r) : xb_ial ok pc L (xb_ov A X) st = some (xo_r r X) := by
  obtain ⟨i, a, r, t, n, f, rfl, hg, h1, h2, rfl⟩ := xb_ial_spec h
  simp only [xb_ial, xo_get hg]
  rw [if_pos ⟨h1, h2⟩]
  rfl
theorem xo_lal (h : xb_lal pc L A st = some r) : xb_lal pc L (xb_ov A X) st = some (xo_r r X) := by
  obtain ⟨i, a, r, n, f, rfl, hg, h2, rfl⟩ := xb_lal_spec h
  simp only [xb_lal, xo_get hg]
  rw [if_pos ⟨trivial, h2⟩]
  rfl
theorem xo_aal (h : xb_aal pc L A st = some r) : xb_aal pc L (xb_ov A X) st = some (xo_r r X) := by
  obtain ⟨i, a, r, C, n, f, rfl, hg, h2, rfl⟩ := xb_aal_spec h
  simp only [xb_aal, xo_get hg]
  rw [if_pos h2]
  rfl
theorem xo_ias {ok : FieldType → Bool} (h : xb_ias ok pc L A st = some r) : xb_ias ok pc L (xb_ov A X) st = some (xo_r r X) := by
  obtain ⟨x, i, a, r, t, n, f, rfl, hg, h1, hz, h2, rfl⟩ := xb_ias_spec h
  simp only [xb_ias, xo_get hg]
  rw [if_pos ⟨h1, hz, h2⟩, xo_set]
  rfl
theorem xo_las (h : xb_las pc L A st = some r) : xb_las pc L (xb_ov A X) st = some (xo_r r X) := by
  obtain ⟨x, i, a, r, n, f, rfl, hg, hz, h2, rfl⟩ := xb_las_spec h
  simp only [xb_las, xo_get hg]
  rw [if_pos ⟨trivial, hz, h2⟩, xo_set]
  rfl
theorem xo_aas {into : FieldType → Nat → Bool} (h : xb_aas into pc L A st = some r) : xb_aas into pc L (xb_ov A X) st = some (xo_r r X) := by
  obtain ⟨v, i, a, r, t, n, f, k, fs, rfl, hg, hv, h1, hz, h2, rfl⟩ := xb_aas_spec h
  simp only [xb_aas, xo_get hg, xo_get hv]
  rw [if_pos ⟨h1, hz, h2⟩, xo_set]
  rfl
theorem xo_castx {ok : Nat → Bool} (h : xb_castx ok pc L A st = some r) : xb_castx ok pc L (xb_ov A X) st = some (xo_r r X) := by
  rcases xb_castx_spec h with ⟨r, rfl, rfl⟩ | ⟨a, r, k, fs, rfl, hg, ho, rfl⟩ | ⟨a, r, x, rfl, hg, hz, ho, rfl⟩
  · rfl
  · simp only [xb_castx, xo_get hg]
    rw [if_pos ho]
    rfl
  · simp only [xb_castx, xo_get hg]
    rw [if_pos ⟨hz, ho⟩]
    rfl
theorem xo_instx {ok : Nat → Bool} (h : xb_instx ok pc L A st = some r) : xb_instx ok pc L (xb_ov A X) st = some (xo_r r X) := by
  rcases xb_instx_spec h with ⟨r, rfl, rfl⟩ | ⟨a, r, k, fs, rfl, hg, ho, rfl⟩
  · rfl
  · simp only [xb_instx, xo_get hg]
    rw [if_pos ho]
    rfl
theorem xo_newx {T : Nat → List FieldType} (h : xb_newx T pc k L st A = some r) : xb_newx T pc k L st (xb_ov A X) = some (xo_r r X) := by
  cases h
  unfold xb_newx
  rw [xo_new]
  rfl
set_option maxHeartbeats 1000000 in
theorem xo_pure {G : xb_G} {q : xb_I} (h : xb_pure G q pc L st A = some r) : xb_pure G q pc L st (xb_ov A X) = some (xo_r r X) := by
  obtain ⟨ins, len, r1, r2⟩ := q
  cases ins
  all_goals first | (have h9 : none = some r := h; cases h9; done) | skip
  all_goals first
    | (cases h; rfl)
    | exact xo_of xo_ildx h
    | exact xo_of xo_lldx h
    | exact xo_of xo_aldx h
    | exact xo_of xo_istx h
    | exact xo_of xo_lstx h
    | exact xo_of xo_astx h
    | exact xo_of xo_iincx h
    | exact xo_of xo_i1 h
    | exact xo_of xo_i2 h
    | exact xo_of xo_l2 h
    | exact xo_of xo_ls h
    | exact xo_of xo_divx h
    | exact xo_of xo_i2lx h
    | exact xo_of xo_l2ix h
    | exact xo_of xo_lcmpx h
    | exact xo_of xo_dupx h
    | exact xo_of xo_popx h
    | exact xo_of xo_dupx1 h
    | exact xo_of xo_dupx2 h
    | exact xo_of xo_dup2x h
    | exact xo_of xo_jn h
    | exact xo_of xo_lookx h
    | exact xo_of xo_tabx h
    | exact xo_of xo_cst h
    | exact xo_getx h
    | exact xo_putx h
    | exact xo_newx h
    | exact xo_newax h
    | exact xo_alenx h
    | exact xo_ial h
    | exact xo_lal h
    | exact xo_aal h
    | exact xo_ias h
    | exact xo_las h
    | exact xo_aas h
    | exact xo_castx h
    | exact xo_instx h
    | (rename_i cnd off; cases cnd <;> first | exact xo_of xo_j1 h | exact xo_of xo_j2 h | exact xo_of xo_ja h | (have h9 : none = some r := h; cases h9; done))
end XO2
