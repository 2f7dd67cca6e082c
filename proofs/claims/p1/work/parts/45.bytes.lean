/-! A byte as a number -/
theorem xr_and255 (y : Int32) : ∃ c : Int, (0 ≤ c ∧ c ≤ 255) ∧ y &&& Int32.ofInt 255 = Int32.ofInt c := by
  refine ⟨(y &&& Int32.ofInt 255).toInt, ?_, (Int32.ofInt_toInt _).symm⟩
  have h1 : (y &&& Int32.ofInt 255).toBitVec.toNat ≤ 255 := by
    show (y.toBitVec &&& (Int32.ofInt 255).toBitVec).toNat ≤ 255
    rw [BitVec.toNat_and]
    have e : (Int32.ofInt 255).toBitVec.toNat = 255 := by decide
    rw [e]
    exact Nat.and_le_right
  have h2 : (y &&& Int32.ofInt 255).toInt = ((y &&& Int32.ofInt 255).toBitVec.toNat : Int) := BitVec.toInt_eq_toNat_of_lt (by omega)
  rw [h2]
  omega
/-- the byte of a long at a shift, as ContractDesk.byteOf answers it -/
def xw_by (x : Int64) (s : Int32) : Int := ((x.toUInt64 >>> (s.toInt64.toUInt64 &&& Int64.toUInt64 63)).toInt64.toInt32 &&& Int32.ofInt 255).toInt
theorem xw_by_ok (x : Int64) (s : Int32) : (0 ≤ xw_by x s ∧ xw_by x s ≤ 255) ∧ (x.toUInt64 >>> (s.toInt64.toUInt64 &&& Int64.toUInt64 63)).toInt64.toInt32 &&& Int32.ofInt 255 = Int32.ofInt (xw_by x s) := by
  obtain ⟨c, hc, e⟩ := xr_and255 (x.toUInt64 >>> (s.toInt64.toUInt64 &&& Int64.toUInt64 63)).toInt64.toInt32
  have e2 : xw_by x s = c := by
    unfold xw_by
    rw [e, xr_toInt (by omega)]
  rw [e2]
  exact ⟨hc, e⟩
