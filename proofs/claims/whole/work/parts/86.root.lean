/-! both roots are one -/
theorem i64_ml {a b : Int64} {x y : Int} (ha : a.toInt = x) (hb : b.toInt = y) (h1 : -9223372036854775808 ≤ x * y) (h2 : x * y < 9223372036854775808) : (a * b).toInt = x * y := by
  rw [Int64.toInt_mul, ha, hb]
  generalize x * y = z at h1 h2
  simp only [Int.bmod]
  omega
theorem i64_ad {a b : Int64} {x y : Int} (ha : a.toInt = x) (hb : b.toInt = y) (h1 : -9223372036854775808 ≤ x + y) (h2 : x + y < 9223372036854775808) : (a + b).toInt = x + y := by
  rw [Int64.toInt_add, ha, hb]
  simp only [Int.bmod]
  omega
theorem i64_sb {a b : Int64} {x y : Int} (ha : a.toInt = x) (hb : b.toInt = y) (h1 : -9223372036854775808 ≤ x - y) (h2 : x - y < 9223372036854775808) : (a - b).toInt = x - y := by
  rw [Int64.toInt_sub, ha, hb]
  simp only [Int.bmod]
  omega
theorem i64_hv {a : Int64} {x : Nat} (ha : a.toInt = x) (h : x < 2147483648) : (a / 2).toInt = ((x / 2 : Nat) : Int) := by
  rw [Int64.toInt_div, ha, show (2 : Int64).toInt = 2 by decide, Int.tdiv_eq_ediv_of_nonneg (by omega)]
  simp only [Int.bmod]
  omega
theorem lN_t {n : Nat} (h : n < 9223372036854775808) : (lN n).toInt = n := by
  unfold lN
  rw [Int64.toInt_ofNat', show Int64.size = 18446744073709551616 by decide]
  simp only [Int.bmod]
  omega
/-- the greatest number whose square is not above w -/
def isR (W r : Nat) : Prop := r * r ≤ W ∧ W < (r + 1) * (r + 1)
theorem isR_u {W r q : Nat} (h1 : isR W r) (h2 : isR W q) : r = q := by
  have a : ¬ r < q := fun h => by
    have := Nat.mul_le_mul (show r + 1 ≤ q by omega) (show r + 1 ≤ q by omega)
    have := h1.2
    have := h2.1
    omega
  have b : ¬ q < r := fun h => by
    have := Nat.mul_le_mul (show q + 1 ≤ r by omega) (show q + 1 ≤ r by omega)
    have := h2.2
    have := h1.1
    omega
  omega
theorem rt_ok {w : Int64} {W : Nat} (hw : w.toInt = W) : ∀ n (l h : Int64) (L H : Nat), l.toInt = L → h.toInt = H → L ≤ H → H ≤ 11863283 → H - L < 2 ^ n → L * L ≤ W → W < (H + 1) * (H + 1) → ∃ r : Nat, (rtF w n l h).toInt = r ∧ isR W r ∧ r ≤ 11863283
  | 0, l, h, L, H, hl, hh, h1, h2, h3, h4, h5 => by
    have : L = H := by omega
    subst this
    exact ⟨L, hl, ⟨h4, h5⟩, h2⟩
  | n + 1, l, h, L, H, hl, hh, h1, h2, h3, h4, h5 => by
    rw [rtF]
    by_cases c : L < H
    · have m1 : ((l + h + 1) / 2).toInt = (((L + H + 1) / 2 : Nat) : Int) := by
        refine i64_hv ?_ (by omega)
        rw [i64_ad (i64_ad hl hh (by omega) (by omega)) (show (1 : Int64).toInt = 1 by decide) (by omega) (by omega)]
        omega
      generalize hM : (L + H + 1) / 2 = M at m1
      have hM1 : L < M := by omega
      have hM2 : M ≤ H := by omega
      have hp : (2 : Nat) ^ (n + 1) = 2 * 2 ^ n := by rw [Nat.pow_succ, Nat.mul_comm]
      have hMM : M * M ≤ 11863283 * 11863283 := Nat.mul_le_mul (by omega) (by omega)
      have m2 : ((l + h + 1) / 2 * ((l + h + 1) / 2)).toInt = ((M * M : Nat) : Int) := by
        rw [i64_ml m1 m1 (by rw [← Int.natCast_mul]; omega) (by rw [← Int.natCast_mul]; omega), Int.natCast_mul]
      rw [if_pos (by rw [i64_lt, hl, hh]; omega)]
      by_cases c2 : W < M * M
      · rw [if_pos (by rw [i64_lt, hw, m2]; omega)]
        have m3 : ((l + h + 1) / 2 - 1).toInt = ((M - 1 : Nat) : Int) := by
          rw [i64_sb m1 (show (1 : Int64).toInt = 1 by decide) (by omega) (by omega)]
          omega
        exact rt_ok hw n l _ L (M - 1) hl m3 (by omega) (by omega) (by omega) h4 (by rw [show M - 1 + 1 = M by omega]; exact c2)
      · rw [if_neg (by rw [i64_lt, hw, m2]; omega)]
        exact rt_ok hw n _ h M H m1 hh hM2 h2 (by omega) (by omega) h5
    · have : L = H := by omega
      subst this
      rw [if_neg (by rw [i64_lt, hl, hh]; omega)]
      exact ⟨L, hl, ⟨h4, h5⟩, h2⟩
theorem ro_ok {w : Int64} {W : Nat} (hw : w.toInt = W) : ∀ n (r : Int64) (R : Nat), n ≤ 25 → r.toInt = R → R + 2 ^ n ≤ 2 ^ 25 → R * R ≤ W → W < (R + 2 ^ n) * (R + 2 ^ n) → ∃ q : Nat, (rooF w n r).toInt = q ∧ isR W q
  | 0, r, R, hn, hr, hb, h1, h2 => ⟨R, hr, h1, h2⟩
  | n + 1, r, R, hn, hr, hb, h1, h2 => by
    rw [rooF]
    have hp : (2 : Nat) ^ (n + 1) = 2 * 2 ^ n := by rw [Nat.pow_succ, Nat.mul_comm]
    have hp0 : 0 < (2 : Nat) ^ n := Nat.two_pow_pos n
    have h25 : (2 : Nat) ^ 25 = 33554432 := by decide
    have e1 : (btn (n + 1)).toInt = ((2 ^ n : Nat) : Int) := by
      unfold btn
      rw [if_neg (by omega), show n + 1 - 1 = n from rfl]
      exact lN_t (by omega)
    generalize hP : (2 : Nat) ^ n = P at *
    have e2 : (r + btn (n + 1)).toInt = ((R + P : Nat) : Int) := by
      rw [i64_ad hr e1 (by omega) (by omega)]
      omega
    have hMM : (R + P) * (R + P) ≤ 33554432 * 33554432 := Nat.mul_le_mul (by omega) (by omega)
    have e3 : ((r + btn (n + 1)) * (r + btn (n + 1))).toInt = (((R + P) * (R + P) : Nat) : Int) := by
      rw [i64_ml e2 e2 (by rw [← Int.natCast_mul]; omega) (by rw [← Int.natCast_mul]; omega), Int.natCast_mul]
    by_cases c : W < (R + P) * (R + P)
    · rw [if_pos (by rw [i64_lt, hw, e3]; omega)]
      exact ro_ok hw n r R (by omega) hr (by omega) h1 (by rw [hP]; exact c)
    · rw [if_neg (by rw [i64_lt, hw, e3]; omega)]
      exact ro_ok hw n _ (R + P) (by omega) e2 (by omega) (by omega) (by rw [hP]; rw [show R + P + P = R + (2 * P) by omega, ← hp]; exact h2)
theorem root_eq {w : Int64} (h0 : ¬ w < 0) (hw : wh w = w) : rtF w 48 0 11863283 = rooF w 25 0 ∧ wh (rooF w 25 0) = rooF w 25 0 := by
  have h1 := wh_iff.mp hw
  have h2 : 0 ≤ w.toInt := by rw [i64_lt] at h0; have : (0 : Int64).toInt = 0 := by decide
                              omega
  obtain ⟨W, hW⟩ : ∃ W : Nat, w.toInt = W := ⟨w.toInt.toNat, by omega⟩
  obtain ⟨r, a1, a2, a3⟩ := rt_ok hW 48 0 11863283 0 11863283 (by decide) (by decide) (by omega) (by omega) (by decide) (by omega) (by omega)
  obtain ⟨q, b1, b2⟩ := ro_ok hW 25 0 0 (by omega) (by decide) (by omega) (by omega) (by omega)
  have : r = q := isR_u a2 b2
  subst this
  refine ⟨by rw [← Int64.toInt_inj, a1, b1], ?_⟩
  rw [wh_iff, b1]
  omega
