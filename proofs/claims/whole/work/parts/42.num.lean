/-! numbers -/
theorem nI_div {a b : Nat} (ha : a < 2 ^ 31) (hb : b < 2 ^ 31) : nI a / nI b = nI (a / b) := by
  have h1 : a / b < 2 ^ 31 := Nat.lt_of_le_of_lt (Nat.div_le_self a b) ha
  refine Int32.toInt_inj.mp ?_
  rw [Jvm.Kit.i32_div (by rw [nI_toInt ha]; omega), nI_toInt ha, nI_toInt hb, nI_toInt h1, Int.tdiv_eq_ediv_of_nonneg (by omega)]
  rfl
theorem nI_mul (a b : Nat) : nI a * nI b = nI (a * b) := (Int32.ofNat_mul a b).symm
theorem nI_sub {a b : Nat} (h : b ≤ a) : nI a - nI b = nI (a - b) := (Int32.ofNat_sub a b h).symm
theorem nI_rem {a b : Nat} (ha : a < 2 ^ 31) (hb : b < 2 ^ 31) : nI a - nI a / nI b * nI b = nI (a % b) := by
  rw [nI_div ha hb, nI_mul, nI_sub (Nat.div_mul_le_self a b), Nat.mod_eq_sub_mul_div, Nat.mul_comm]
theorem d512 {a : Nat} (ha : a < 2 ^ 31) : nI a / 512 = nI (a / 512) := nI_div (b := 512) ha (by decide)
theorem m512 {a : Nat} (ha : a < 2 ^ 31) : nI a - nI a / 512 * 512 = nI (a % 512) := nI_rem (b := 512) ha (by decide)
theorem m512' {a : Nat} (ha : a < 2 ^ 31) : nI a - nI (a / 512) * 512 = nI (a % 512) := by rw [← d512 ha]; exact m512 ha
theorem t512 (a : Nat) : 512 * nI a = nI (512 * a) := nI_mul 512 a
theorem t128 (a : Nat) : 128 * nI a = nI (128 * a) := nI_mul 128 a
theorem t500 (a : Nat) : 500 * nI a = nI (500 * a) := nI_mul 500 a
theorem t200 (a : Nat) : 200 * nI a = nI (200 * a) := nI_mul 200 a
theorem i64_lt {x y : Int64} : x < y ↔ x.toInt < y.toInt := Int64.lt_iff_toInt_lt
theorem cmp_sp (x y : Int64) : (x < y ∧ lg_cmp x y = -1) ∨ (x = y ∧ lg_cmp x y = 0) ∨ (y < x ∧ lg_cmp x y = 1) := by
  unfold lg_cmp
  by_cases h1 : x > y
  · right; right; exact ⟨h1, by rw [if_pos h1]⟩
  · by_cases h2 : x = y
    · right; left; exact ⟨h2, by rw [if_neg h1, if_pos h2]⟩
    · left
      refine ⟨?_, by rw [if_neg h1, if_neg h2]⟩
      rw [i64_lt]
      have a1 : ¬ y.toInt < x.toInt := fun q => h1 (i64_lt.mpr q)
      have a2 : ¬ x.toInt = y.toInt := fun q => h2 (Int64.toInt_inj.mp q)
      omega
theorem cmp_lt {x y : Int64} : (lg_cmp x y < 0) = (x < y) := by
  apply propext
  rcases cmp_sp x y with ⟨h, e⟩ | ⟨h, e⟩ | ⟨h, e⟩ <;> rw [e]
  · exact ⟨fun _ => h, fun _ => by decide⟩
  · subst h; exact ⟨fun q => absurd q (by decide), fun q => absurd (i64_lt.mp q) (by omega)⟩
  · exact ⟨fun q => absurd q (by decide), fun q => absurd (i64_lt.mp q) (by have := i64_lt.mp h; omega)⟩
theorem cmp_gt {x y : Int64} : (0 < lg_cmp x y) = (y < x) := by
  apply propext
  rcases cmp_sp x y with ⟨h, e⟩ | ⟨h, e⟩ | ⟨h, e⟩ <;> rw [e]
  · exact ⟨fun q => absurd q (by decide), fun q => absurd (i64_lt.mp q) (by have := i64_lt.mp h; omega)⟩
  · subst h; exact ⟨fun q => absurd q (by decide), fun q => absurd (i64_lt.mp q) (by omega)⟩
  · exact ⟨fun _ => h, fun _ => by decide⟩
theorem cmp_le {x y : Int64} : (lg_cmp x y ≤ 0) = (x ≤ y) := by
  apply propext
  rw [Int64.le_iff_toInt_le]
  rcases cmp_sp x y with ⟨h, e⟩ | ⟨h, e⟩ | ⟨h, e⟩ <;> rw [e]
  · exact ⟨fun _ => by have := i64_lt.mp h; omega, fun _ => by decide⟩
  · subst h; exact ⟨fun _ => by omega, fun _ => by decide⟩
  · exact ⟨fun q => absurd q (by decide), fun q => absurd (i64_lt.mp h) (by omega)⟩
theorem cmp_ge {x y : Int64} : (0 ≤ lg_cmp x y) = (y ≤ x) := by
  apply propext
  rw [Int64.le_iff_toInt_le]
  rcases cmp_sp x y with ⟨h, e⟩ | ⟨h, e⟩ | ⟨h, e⟩ <;> rw [e]
  · exact ⟨fun q => absurd q (by decide), fun q => absurd (i64_lt.mp h) (by omega)⟩
  · subst h; exact ⟨fun _ => by omega, fun _ => by decide⟩
  · exact ⟨fun _ => by have := i64_lt.mp h; omega, fun _ => by decide⟩
theorem cmp_eq {x y : Int64} : (lg_cmp x y = 0) = (x = y) := by
  apply propext
  rcases cmp_sp x y with ⟨h, e⟩ | ⟨h, e⟩ | ⟨h, e⟩ <;> rw [e]
  · exact ⟨fun q => absurd q (by decide), fun q => by subst q; exact absurd (i64_lt.mp h) (by omega)⟩
  · exact ⟨fun _ => h, fun _ => rfl⟩
  · exact ⟨fun q => absurd q (by decide), fun q => by subst q; exact absurd (i64_lt.mp h) (by omega)⟩
def NC := And.intro @cmp_lt (And.intro @cmp_gt (And.intro @cmp_le (And.intro @cmp_ge @cmp_eq)))
/-- cut to 48 bits, to 24 -/
def wh (x : Int64) : Int64 := x <<< ((16 : Int32).toInt64 &&& 63) >>> ((16 : Int32).toInt64 &&& 63)
def hf (x : Int64) : Int32 := (x <<< ((40 : Int32).toInt64 &&& 63) >>> ((40 : Int32).toInt64 &&& 63)).toInt32
theorem i32_nlt {x y : Int32} : (¬ x < y) = (y ≤ x) := by
  apply propext; rw [Int32.lt_iff_toInt_lt, Int32.le_iff_toInt_le]; omega
theorem i64_nlt {x y : Int64} : (¬ x < y) = (y ≤ x) := by
  apply propext; rw [Int64.lt_iff_toInt_lt, Int64.le_iff_toInt_le]; omega
theorem i32_le {x y : Int32} : (x ≤ y) = ¬ y < x := i32_nlt.symm
theorem i64_le {x y : Int64} : (x ≤ y) = ¬ y < x := i64_nlt.symm
/-- an index below n -/
theorem inN {i n : Nat} (h : i < n) (hn : n ≤ 65536) : vp_in (nI i) n ∧ (nI i).toNatClampNeg = i := ⟨vp_in_nI h (by omega), nI_clamp (by omega)⟩
