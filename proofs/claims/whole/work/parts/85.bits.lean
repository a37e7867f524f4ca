/-! both countings are one -/
def uN (v : Int64) : Nat := v.toBitVec.toNat
theorem uN_lt (v : Int64) : uN v < 18446744073709551616 := v.toBitVec.isLt
theorem uN_add (a b : Int64) : uN (a + b) = (uN a + uN b) % 18446744073709551616 := by
  unfold uN; rw [Int64.toBitVec_add, BitVec.toNat_add]
theorem uN_sub (a b : Int64) : uN (a - b) = (18446744073709551616 - uN b + uN a) % 18446744073709551616 := by
  unfold uN; rw [Int64.toBitVec_sub, BitVec.toNat_sub]
theorem uN_and (a b : Int64) : uN (a &&& b) = uN a &&& uN b := by
  unfold uN; rw [Int64.toBitVec_and, BitVec.toNat_and]
theorem uN_us (v : Int64) (n : Nat) (hn : n < 64) : uN (us v (nI n)) = uN v / 2 ^ n := by
  unfold uN us
  show (v.toBitVec >>> (((nI n).toInt64.toUInt64 &&& Int64.toUInt64 63).toBitVec % 64)).toNat = _
  rw [BitVec.ushiftRight_eq', su64 n hn, BitVec.toNat_ushiftRight, Nat.shiftRight_eq_div_pow]
theorem msk_e (y : Int32) (m : Nat) (hm : m < 31) {M : Int32} (e : M.toBitVec = BitVec.ofNat 32 (2 ^ m - 1)) : y &&& M = nI (y.toBitVec.toNat % 2 ^ m) := by
  apply Int32.toBitVec_inj.mp
  rw [Int32.toBitVec_and, e]
  show _ = BitVec.ofNat 32 _
  apply BitVec.eq_of_toNat_eq
  have h1 : 2 ^ m < 2 ^ 32 := Nat.pow_lt_pow_right (by omega) (by omega)
  have h2 : y.toBitVec.toNat % 2 ^ m < 2 ^ m := Nat.mod_lt _ (Nat.two_pow_pos m)
  have h3 : y.toBitVec.toNat % 2 ^ m < 2 ^ 32 := by omega
  have h4 : 2 ^ m - 1 < 2 ^ 32 := by omega
  rw [BitVec.toNat_and, BitVec.toNat_ofNat, BitVec.toNat_ofNat, Nat.mod_eq_of_lt h4, Nat.and_two_pow_sub_one_eq_mod, Nat.mod_eq_of_lt h3]
theorem to32 (x : Int64) : x.toInt32.toBitVec.toNat = uN x % 4294967296 := by
  rw [Int64.toBitVec_toInt32, BitVec.signExtend_eq_setWidth_of_le _ (by omega), BitVec.toNat_setWidth]
  rfl
theorem bc1_n (v : Int64) : uN (bc1 v) = pp1 8 (uN v) := by
  unfold bc1 pp1
  rw [uN_sub, uN_and, show (1 : Int32) = nI 1 from rfl, uN_us v 1 (by omega), show uN 6148914691236517205 = rpb 85 8 by decide]
  have h1 : (uN v / 2 ^ 1 &&& rpb 85 8) ≤ uN v / 2 ^ 1 := Nat.and_le_left
  have h2 := uN_lt v
  simp only [Nat.pow_one] at h1 ⊢
  omega
theorem r51 : rpb 51 8 = 3689348814741910323 := by decide
theorem bc2_n (v : Int64) : uN (bc2 v) = pp2 8 (uN v) := by
  unfold bc2 pp2
  rw [uN_add, uN_and, uN_and, show (2 : Int32) = nI 2 from rfl, uN_us v 2 (by omega), show uN 3689348814741910323 = rpb 51 8 by decide]
  have h1 : (uN v &&& rpb 51 8) ≤ rpb 51 8 := Nat.and_le_right
  have h2 : (uN v / 2 ^ 2 &&& rpb 51 8) ≤ rpb 51 8 := Nat.and_le_right
  rw [r51] at h1 h2 ⊢
  simp only [show (2 : Nat) ^ 2 = 4 from rfl] at h2 ⊢
  omega
theorem bc3_n (v : Int64) (hv : uN v < 9223372036854775808) : uN (bc3 v) = pp3 8 (uN v) := by
  unfold bc3 pp3
  rw [uN_and, uN_add, show (4 : Int32) = nI 4 from rfl, uN_us v 4 (by omega), show uN 1085102592571150095 = rpb 15 8 by decide]
  rw [show (2 : Nat) ^ 4 = 16 from rfl, Nat.mod_eq_of_lt (by omega)]
theorem bcF_n (v : Int64) (hv : uN v < 281474976710656) : bcF v = nI (bsm (uN v) 0 48) := by
  obtain ⟨a, ha⟩ : ∃ a, a = uN v % 256 := ⟨_, rfl⟩
  obtain ⟨b, hb⟩ : ∃ b, b = uN v / 256 % 256 := ⟨_, rfl⟩
  obtain ⟨c, hc⟩ : ∃ c, c = uN v / 65536 % 256 := ⟨_, rfl⟩
  obtain ⟨d, hd⟩ : ∃ d, d = uN v / 16777216 % 256 := ⟨_, rfl⟩
  obtain ⟨e, he⟩ : ∃ e, e = uN v / 4294967296 % 256 := ⟨_, rfl⟩
  obtain ⟨f, hf⟩ : ∃ f, f = uN v / 1099511627776 := ⟨_, rfl⟩
  have hV : uN v = 256 * (256 * (256 * (256 * (256 * f + e) + d) + c) + b) + a := by omega
  have e2 : uN (bc2 (bc1 v)) = ppp 8 (uN v) := by rw [bc2_n, bc1_n]; rfl
  have l2 : uN (bc2 (bc1 v)) < 9223372036854775808 := by
    rw [bc2_n]
    unfold pp2
    have h1 : (uN (bc1 v) &&& rpb 51 8) ≤ rpb 51 8 := Nat.and_le_right
    have h2 : (uN (bc1 v) / 4 &&& rpb 51 8) ≤ rpb 51 8 := Nat.and_le_right
    rw [r51] at h1 h2 ⊢
    omega
  have e3 : uN (bc3 (bc2 (bc1 v))) = 256 * (256 * (256 * (256 * (256 * pcb f + pcb e) + pcb d) + pcb c) + pcb b) + pcb a := by
    rw [bc3_n _ l2, e2, hV]
    exact pop_6 a b c d e f (by omega) (by omega) (by omega) (by omega) (by omega) (by omega)
  have q1 := pcb_le a
  have q2 := pcb_le b
  have q3 := pcb_le c
  have q4 := pcb_le d
  have q5 := pcb_le e
  have q6 := pcb_le f
  have k := fin6 (uN v) a b c d e f (by omega) (by omega) (by omega) (by omega) (by omega) (by omega) (by omega)
  unfold bcF
  rw [msk_e _ 7 (by omega) (M := 127) (by decide), to32, k]
  generalize bc3 (bc2 (bc1 v)) = x at e3
  have s6 := sum6 (uN x) _ _ _ _ _ _ e3 q1 q2 q3 q4 q5 q6
  have e6 : uN (bc6 (bc5 (bc4 x))) = uN x + uN x / 256 + (uN x + uN x / 256) / 65536 + (uN x + uN x / 256 + (uN x + uN x / 256) / 65536) / 4294967296 := by
    unfold bc6 bc5 bc4
    rw [show (32 : Int32) = nI 32 from rfl, show (16 : Int32) = nI 16 from rfl, show (8 : Int32) = nI 8 from rfl]
    simp only [uN_add, uN_us _ 32 (show 32 < 64 by omega), uN_us _ 16 (show 16 < 64 by omega), uN_us _ 8 (show 8 < 64 by omega)]
    simp only [show (2 : Nat) ^ 8 = 256 from rfl, show (2 : Nat) ^ 16 = 65536 from rfl, show (2 : Nat) ^ 32 = 4294967296 from rfl]
    have s7 := s6.2
    clear s6
    generalize uN x = y at s7
    rw [Nat.mod_eq_of_lt (show y + y / 256 < 18446744073709551616 by omega), Nat.mod_eq_of_lt (show y + y / 256 + (y + y / 256) / 65536 < 18446744073709551616 by omega), Nat.mod_eq_of_lt s7]
  rw [e6]
  have s8 := s6.1
  generalize uN x + uN x / 256 + (uN x + uN x / 256) / 65536 + (uN x + uN x / 256 + (uN x + uN x / 256) / 65536) / 4294967296 = z at s8
  rw [show z % 4294967296 % 2 ^ 7 = z % 128 by omega, s8]
theorem bit_1 (w : Int64) (i : Nat) (hi : i < 63) : (w >>> ((nI i).toInt64 &&& 63) &&& 1).toInt32 = nI (uN w / 2 ^ i % 2) := by
  rw [← dc_bits w i 1 (by omega) (by omega) (by omega) (M := 1) (M' := 1) (by decide) (by decide), msk_e _ 1 (by omega) (M := 1) (by decide), to32]
  have := uN_us w i (by omega)
  unfold us at this
  rw [this]
  congr 1
  omega
theorem bitF_n (w : Int64) : ∀ n i a, i + n ≤ 48 → bitF w i n (nI a) = nI (a + bsm (uN w) i n)
  | 0, i, a, _ => by rw [bitF, bsm, Nat.add_zero]
  | n + 1, i, a, h => by
    rw [bitF, bit_1 w i (by omega), nI_add, bitF_n w n (i + 1) _ (by omega), bsm, Nat.add_assoc]
theorem bsm_cg {v v' : Nat} : ∀ n i, (∀ k, k < i + n → v / 2 ^ k % 2 = v' / 2 ^ k % 2) → bsm v i n = bsm v' i n
  | 0, _, _ => rfl
  | n + 1, i, h => by rw [bsm, bsm, h i (by omega), bsm_cg n (i + 1) (fun k hk => h k (by omega))]
theorem bits_eq (w : Int64) : bcF (w &&& 281474976710655) = bitF w 0 48 0 := by
  have e : uN (w &&& 281474976710655) = uN w % 281474976710656 := by
    rw [uN_and, show uN 281474976710655 = 2 ^ 48 - 1 by decide, Nat.and_two_pow_sub_one_eq_mod]
  have key : bsm (uN w % 281474976710656) 0 48 = bsm (uN w) 0 48 := by
    refine bsm_cg 48 0 (fun k hk => ?_)
    have h1 : (2 : Nat) ^ 48 = 2 ^ k * (2 * 2 ^ (47 - k)) := by
      rw [← Nat.pow_succ', ← Nat.pow_add, show k + (47 - k + 1) = 48 by omega]
    rw [show (281474976710656 : Nat) = 2 ^ 48 by decide, h1, Nat.mod_mul_right_div_self, Nat.mod_mul_right_mod]
  have r := bitF_n w 48 0 0 (by omega)
  rw [nI_0, Nat.zero_add] at r
  rw [r, bcF_n _ (by rw [e]; omega), e, key]
