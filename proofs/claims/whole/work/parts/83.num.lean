/-! numbers: cut to 48 bits, cut to 24 -/
theorem sk16 : ((((16 : Int32).toInt64 &&& 63).toBitVec.smod 64)).toNat = 16 := by decide +kernel
theorem sk40 : ((((40 : Int32).toInt64 &&& 63).toBitVec.smod 64)).toNat = 40 := by decide +kernel
theorem sk3 : ((((3 : Int32).toInt64 &&& 63).toBitVec.smod 64)).toNat = 3 := by decide +kernel
theorem toI64 (x : Int64) : x.toInt = x.toBitVec.toInt := rfl
theorem wh_i (x : Int64) : (wh x).toInt = x.toInt.bmod (2 ^ 48) := by
  unfold wh
  rw [toI64, toI64, Int64.toBitVec_shiftRight, Int64.toBitVec_shiftLeft]
  show ((x.toBitVec <<< ((((16 : Int32).toInt64 &&& 63).toBitVec.smod 64)).toNat).sshiftRight ((((16 : Int32).toInt64 &&& 63).toBitVec.smod 64)).toNat).toInt = _
  rw [sk16, BitVec.toInt_sshiftRight, BitVec.toInt_shiftLeft, Int.shiftRight_eq_div_pow, BitVec.toInt_eq_toNat_bmod, Nat.shiftLeft_eq]
  have h : x.toBitVec.toNat < 18446744073709551616 := x.toBitVec.isLt
  generalize x.toBitVec.toNat = N at h
  simp only [Int.bmod]
  omega
theorem sr_i (x : Int64) : (x >>> ((3 : Int32).toInt64 &&& 63)).toInt = x.toInt / 8 := by
  rw [toI64, toI64, Int64.toBitVec_shiftRight]
  show (x.toBitVec.sshiftRight ((((3 : Int32).toInt64 &&& 63).toBitVec.smod 64)).toNat).toInt = _
  rw [sk3, BitVec.toInt_sshiftRight, Int.shiftRight_eq_div_pow]
  rfl
theorem hf_i (x : Int64) : (hf x).toInt = x.toInt.bmod (2 ^ 24) := by
  unfold hf
  have e : (x <<< ((40 : Int32).toInt64 &&& 63) >>> ((40 : Int32).toInt64 &&& 63)).toInt = x.toInt.bmod (2 ^ 24) := by
    rw [toI64, toI64, Int64.toBitVec_shiftRight, Int64.toBitVec_shiftLeft]
    show ((x.toBitVec <<< ((((40 : Int32).toInt64 &&& 63).toBitVec.smod 64)).toNat).sshiftRight ((((40 : Int32).toInt64 &&& 63).toBitVec.smod 64)).toNat).toInt = _
    rw [sk40, BitVec.toInt_sshiftRight, BitVec.toInt_shiftLeft, Int.shiftRight_eq_div_pow, BitVec.toInt_eq_toNat_bmod, Nat.shiftLeft_eq]
    have h : x.toBitVec.toNat < 18446744073709551616 := x.toBitVec.isLt
    generalize x.toBitVec.toNat = N at h
    simp only [Int.bmod]
    omega
  rw [Int64.toInt_toInt32, e]
  generalize x.toInt = N
  simp only [Int.bmod]
  omega
theorem wh_iff {x : Int64} : wh x = x ↔ -140737488355328 ≤ x.toInt ∧ x.toInt < 140737488355328 := by
  rw [← Int64.toInt_inj, wh_i]
  generalize x.toInt = N
  simp only [Int.bmod]
  omega
theorem wh_wh (x : Int64) : wh (wh x) = wh x := by
  rw [wh_iff, wh_i]
  generalize x.toInt = N
  simp only [Int.bmod]
  omega
theorem i32_b (x : Int32) : -2147483648 ≤ x.toInt ∧ x.toInt < 2147483648 := ⟨Int32.le_toInt x, Int32.toInt_lt x⟩
theorem wh_32 (x : Int32) : wh x.toInt64 = x.toInt64 := by
  rw [wh_iff, t64]
  have := i32_b x
  omega
theorem wh_sr {x : Int64} (h : wh x = x) : wh (x >>> ((3 : Int32).toInt64 &&& 63)) = x >>> ((3 : Int32).toInt64 &&& 63) := by
  rw [wh_iff] at h ⊢
  rw [sr_i]
  omega
theorem wh_z : wh 0 = 0 := by decide
theorem hf_cg {x y : Int64} (h : x.toInt.bmod (2 ^ 24) = y.toInt.bmod (2 ^ 24)) : hf x = hf y := by
  rw [← Int32.toInt_inj, hf_i, hf_i, h]
theorem hf_nI {A : Nat} (hA : A < 1048576) : hf (nI A).toInt64 = nI A := by
  rw [← Int32.toInt_inj, hf_i, t64, nI_toInt (by omega)]
  simp only [Int.bmod]
  omega
theorem hf_add (b d : Int32) : hf (b + d).toInt64 = hf (b.toInt64 + d.toInt64) := by
  apply hf_cg
  rw [t64, Int32.toInt_add, Int64.toInt_add, t64, t64]
  have h1 := i32_b b
  have h2 := i32_b d
  generalize b.toInt = x at h1
  generalize d.toInt = y at h2
  simp only [Int.bmod]
  omega
