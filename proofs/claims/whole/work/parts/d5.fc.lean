/-! constructors: the reference, its rows -/
section Fc7
variable {g : Nat → Nat → Nat} {s t : Sg} {X : Sg × Option Av} {b nf l : Nat}
theorem ar_st {I : Nat → Nat → Nat → Int32} {P : Nat → Nat → Nat → Option Nat} {N : Nat → Nat} {L : Nat → Nat → Nat} {z c k n : Nat} (f : FC s I P N L z l) (hc : 21 ≤ c) (h11 : N 11 = 1) (hN : N c = 0) : FC (sP (nw s c n) 11 k 0 (some 0)) I (uP P 11 k 0 (some 0)) (uM N c) (uL L c 0 n) (z + 1) (l + n) := by
  have f1 := FC_nwA (c := c) (n := n) f
  rw [hN] at f1
  exact FC_sP f1 (by rw [uM_n (by omega), h11]; omega)
theorem q4 : ¬ (4 : Int32) < 0 ∧ (4 : Int32).toNatClampNeg = 4 := by decide
theorem q16 : ¬ (16 : Int32) < 0 ∧ (16 : Int32).toNatClampNeg = 16 := by decide
theorem q32 : ¬ (32 : Int32) < 0 ∧ (32 : Int32).toNatClampNeg = 32 := by decide
theorem q64 : ¬ (64 : Int32) < 0 ∧ (64 : Int32).toNatClampNeg = 64 := by decide
theorem q400 : ¬ (400 : Int32) < 0 ∧ (400 : Int32).toNatClampNeg = 400 := by decide
theorem q512 : ¬ (512 : Int32) < 0 ∧ (512 : Int32).toNatClampNeg = 512 := by decide
theorem q800 : ¬ (800 : Int32) < 0 ∧ (800 : Int32).toNatClampNeg = 800 := by decide
theorem q1000 : ¬ (1000 : Int32) < 0 ∧ (1000 : Int32).toNatClampNeg = 1000 := by decide
theorem q2000 : ¬ (2000 : Int32) < 0 ∧ (2000 : Int32).toNatClampNeg = 2000 := by decide
theorem q32768 : ¬ (32768 : Int32) < 0 ∧ (32768 : Int32).toNatClampNeg = 32768 := by decide
set_option maxRecDepth 20000 in
theorem k_mod1 {w : Int32} (h3 : 3 ≤ nf) (h16 : nf ≤ 16) (f0 : FC t (fun _ _ _ => 0) (fun _ _ _ => none) (fun c => if c = 11 then 1 else 0) (fun _ _ => 0) (b + 171 + nf) l) : ∃ t', (∀ X, Rn (gC b nf) 120 0 [oR, some (.inl w), none] [] t X ↔ Rn (gC b nf) 120 272 [oR, some (.inl w), none] [] t' X) ∧ LR (sI t' 11 0 0 (nI nf)) nf ∧ cn t' 11 = 1 ∧ (∀ c k e, gI t' c k e = if c = 11 ∧ k = 33 ∧ e = 0 then -1 else 0) ∧ (∀ c k e, gJ t' c k e = 0) ∧ sz t' = b + 205 + nf ∧ sl t' ≤ l + 50000 := by
  have a0 : ∀ X, Rn (gC b nf) 120 0 [oR, some (.inl w), none] [] t X ↔ Rn (gC b nf) 120 4 [oR, some (.inl w), none] [] t X := fun X => by
    simp only [e120_0, e120_1, MK]
  obtain ⟨t0, ht0⟩ : ∃ q, q = t := ⟨_, rfl⟩
  rw [← ht0] at f0
  rw [← ht0] at a0 ⊢
  have e1 : cn t0 11 = 1 := by rw [FC_cn f0]; rfl
  have e2 : cn t0 21 = 0 := by rw [FC_cn f0]; rfl
  have ez : sz t0 = gC b nf 21 0 := by rw [FC_sz f0]; rfl
  have f1 := ar_st (c := 21) (k := 1) (n := 1000) f0 (by omega) rfl rfl
  obtain ⟨t1, ht1⟩ : ∃ q, q = sP (nw t0 21 1000) 11 1 0 (some 0) := ⟨_, rfl⟩
  rw [← ht1] at f1
  have a1 : ∀ X, Rn (gC b nf) 120 4 [oR, some (.inl w), none] [] t0 X ↔ Rn (gC b nf) 120 13 [oR, some (.inl w), none] [] t1 X := fun X => by
    rw [ht1]
    simp only [e120_4, e120_5, e120_8, e120_10, e120_10s, e120_10sm, MM, MK, e1, e2, ez, q1000, not_false_eq_true, show (1000 : Nat) ≤ 65536 by omega, if_true, if_false, Nat.zero_lt_one, show ¬ (11 : Nat) = 21 by omega]
  clear e1 e2 ez
  have e1 : cn t1 11 = 1 := by rw [FC_cn f1]; rfl
  have e2 : cn t1 22 = 0 := by rw [FC_cn f1]; rfl
  have ez : sz t1 = gC b nf 22 0 := by rw [FC_sz f1]; rfl
  have f2 := ar_st (c := 22) (k := 3) (n := 4) f1 (by omega) rfl rfl
  obtain ⟨t2, ht2⟩ : ∃ q, q = sP (nw t1 22 4) 11 3 0 (some 0) := ⟨_, rfl⟩
  rw [← ht2] at f2
  have a2 : ∀ X, Rn (gC b nf) 120 13 [oR, some (.inl w), none] [] t1 X ↔ Rn (gC b nf) 120 20 [oR, some (.inl w), none] [] t2 X := fun X => by
    rw [ht2]
    simp only [e120_13, e120_14, e120_15, e120_17, e120_17s, e120_17sm, MM, MK, e1, e2, ez, q4, not_false_eq_true, show (4 : Nat) ≤ 65536 by omega, if_true, if_false, Nat.zero_lt_one, show ¬ (11 : Nat) = 22 by omega]
  clear e1 e2 ez
  have e1 : cn t2 11 = 1 := by rw [FC_cn f2]; rfl
  have e2 : cn t2 23 = 0 := by rw [FC_cn f2]; rfl
  have ez : sz t2 = gC b nf 23 0 := by rw [FC_sz f2]; rfl
  have f3 := ar_st (c := 23) (k := 4) (n := 4) f2 (by omega) rfl rfl
  obtain ⟨t3, ht3⟩ : ∃ q, q = sP (nw t2 23 4) 11 4 0 (some 0) := ⟨_, rfl⟩
  rw [← ht3] at f3
  have a3 : ∀ X, Rn (gC b nf) 120 20 [oR, some (.inl w), none] [] t2 X ↔ Rn (gC b nf) 120 27 [oR, some (.inl w), none] [] t3 X := fun X => by
    rw [ht3]
    simp only [e120_20, e120_21, e120_22, e120_24, e120_24s, e120_24sm, MM, MK, e1, e2, ez, q4, not_false_eq_true, show (4 : Nat) ≤ 65536 by omega, if_true, if_false, Nat.zero_lt_one, show ¬ (11 : Nat) = 23 by omega]
  clear e1 e2 ez
  have e1 : cn t3 11 = 1 := by rw [FC_cn f3]; rfl
  have e2 : cn t3 24 = 0 := by rw [FC_cn f3]; rfl
  have ez : sz t3 = gC b nf 24 0 := by rw [FC_sz f3]; rfl
  have f4 := ar_st (c := 24) (k := 5) (n := 4) f3 (by omega) rfl rfl
  obtain ⟨t4, ht4⟩ : ∃ q, q = sP (nw t3 24 4) 11 5 0 (some 0) := ⟨_, rfl⟩
  rw [← ht4] at f4
  have a4 : ∀ X, Rn (gC b nf) 120 27 [oR, some (.inl w), none] [] t3 X ↔ Rn (gC b nf) 120 34 [oR, some (.inl w), none] [] t4 X := fun X => by
    rw [ht4]
    simp only [e120_27, e120_28, e120_29, e120_31, e120_31s, e120_31sm, MM, MK, e1, e2, ez, q4, not_false_eq_true, show (4 : Nat) ≤ 65536 by omega, if_true, if_false, Nat.zero_lt_one, show ¬ (11 : Nat) = 24 by omega]
  clear e1 e2 ez
  have e1 : cn t4 11 = 1 := by rw [FC_cn f4]; rfl
  have e2 : cn t4 25 = 0 := by rw [FC_cn f4]; rfl
  have ez : sz t4 = gC b nf 25 0 := by rw [FC_sz f4]; rfl
  have f5 := ar_st (c := 25) (k := 6) (n := 4) f4 (by omega) rfl rfl
  obtain ⟨t5, ht5⟩ : ∃ q, q = sP (nw t4 25 4) 11 6 0 (some 0) := ⟨_, rfl⟩
  rw [← ht5] at f5
  have a5 : ∀ X, Rn (gC b nf) 120 34 [oR, some (.inl w), none] [] t4 X ↔ Rn (gC b nf) 120 41 [oR, some (.inl w), none] [] t5 X := fun X => by
    rw [ht5]
    simp only [e120_34, e120_35, e120_36, e120_38, e120_38s, e120_38sm, MM, MK, e1, e2, ez, q4, not_false_eq_true, show (4 : Nat) ≤ 65536 by omega, if_true, if_false, Nat.zero_lt_one, show ¬ (11 : Nat) = 25 by omega]
  clear e1 e2 ez
  have e1 : cn t5 11 = 1 := by rw [FC_cn f5]; rfl
  have e2 : cn t5 26 = 0 := by rw [FC_cn f5]; rfl
  have ez : sz t5 = gC b nf 26 0 := by rw [FC_sz f5]; rfl
  have f6 := ar_st (c := 26) (k := 7) (n := 4) f5 (by omega) rfl rfl
  obtain ⟨t6, ht6⟩ : ∃ q, q = sP (nw t5 26 4) 11 7 0 (some 0) := ⟨_, rfl⟩
  rw [← ht6] at f6
  have a6 : ∀ X, Rn (gC b nf) 120 41 [oR, some (.inl w), none] [] t5 X ↔ Rn (gC b nf) 120 48 [oR, some (.inl w), none] [] t6 X := fun X => by
    rw [ht6]
    simp only [e120_41, e120_42, e120_43, e120_45, e120_45s, e120_45sm, MM, MK, e1, e2, ez, q4, not_false_eq_true, show (4 : Nat) ≤ 65536 by omega, if_true, if_false, Nat.zero_lt_one, show ¬ (11 : Nat) = 26 by omega]
  clear e1 e2 ez
  have e1 : cn t6 11 = 1 := by rw [FC_cn f6]; rfl
  have e2 : cn t6 27 = 0 := by rw [FC_cn f6]; rfl
  have ez : sz t6 = gC b nf 27 0 := by rw [FC_sz f6]; rfl
  have f7 := ar_st (c := 27) (k := 8) (n := 4) f6 (by omega) rfl rfl
  obtain ⟨t7, ht7⟩ : ∃ q, q = sP (nw t6 27 4) 11 8 0 (some 0) := ⟨_, rfl⟩
  rw [← ht7] at f7
  have a7 : ∀ X, Rn (gC b nf) 120 48 [oR, some (.inl w), none] [] t6 X ↔ Rn (gC b nf) 120 55 [oR, some (.inl w), none] [] t7 X := fun X => by
    rw [ht7]
    simp only [e120_48, e120_49, e120_50, e120_52, e120_52s, e120_52sm, MM, MK, e1, e2, ez, q4, not_false_eq_true, show (4 : Nat) ≤ 65536 by omega, if_true, if_false, Nat.zero_lt_one, show ¬ (11 : Nat) = 27 by omega]
  clear e1 e2 ez
  have e1 : cn t7 11 = 1 := by rw [FC_cn f7]; rfl
  have e2 : cn t7 28 = 0 := by rw [FC_cn f7]; rfl
  have ez : sz t7 = gC b nf 28 0 := by rw [FC_sz f7]; rfl
  have f8 := ar_st (c := 28) (k := 9) (n := 4) f7 (by omega) rfl rfl
  obtain ⟨t8, ht8⟩ : ∃ q, q = sP (nw t7 28 4) 11 9 0 (some 0) := ⟨_, rfl⟩
  rw [← ht8] at f8
  have a8 : ∀ X, Rn (gC b nf) 120 55 [oR, some (.inl w), none] [] t7 X ↔ Rn (gC b nf) 120 62 [oR, some (.inl w), none] [] t8 X := fun X => by
    rw [ht8]
    simp only [e120_55, e120_56, e120_57, e120_59, e120_59s, e120_59sm, MM, MK, e1, e2, ez, q4, not_false_eq_true, show (4 : Nat) ≤ 65536 by omega, if_true, if_false, Nat.zero_lt_one, show ¬ (11 : Nat) = 28 by omega]
  clear e1 e2 ez
  have e1 : cn t8 11 = 1 := by rw [FC_cn f8]; rfl
  have e2 : cn t8 29 = 0 := by rw [FC_cn f8]; rfl
  have ez : sz t8 = gC b nf 29 0 := by rw [FC_sz f8]; rfl
  have f9 := ar_st (c := 29) (k := 10) (n := 4) f8 (by omega) rfl rfl
  obtain ⟨t9, ht9⟩ : ∃ q, q = sP (nw t8 29 4) 11 10 0 (some 0) := ⟨_, rfl⟩
  rw [← ht9] at f9
  have a9 : ∀ X, Rn (gC b nf) 120 62 [oR, some (.inl w), none] [] t8 X ↔ Rn (gC b nf) 120 69 [oR, some (.inl w), none] [] t9 X := fun X => by
    rw [ht9]
    simp only [e120_62, e120_63, e120_64, e120_66, e120_66s, e120_66sm, MM, MK, e1, e2, ez, q4, not_false_eq_true, show (4 : Nat) ≤ 65536 by omega, if_true, if_false, Nat.zero_lt_one, show ¬ (11 : Nat) = 29 by omega]
  clear e1 e2 ez
  have e1 : cn t9 11 = 1 := by rw [FC_cn f9]; rfl
  have e2 : cn t9 30 = 0 := by rw [FC_cn f9]; rfl
  have ez : sz t9 = gC b nf 30 0 := by rw [FC_sz f9]; rfl
  have f10 := ar_st (c := 30) (k := 11) (n := 4) f9 (by omega) rfl rfl
  obtain ⟨t10, ht10⟩ : ∃ q, q = sP (nw t9 30 4) 11 11 0 (some 0) := ⟨_, rfl⟩
  rw [← ht10] at f10
  have a10 : ∀ X, Rn (gC b nf) 120 69 [oR, some (.inl w), none] [] t9 X ↔ Rn (gC b nf) 120 76 [oR, some (.inl w), none] [] t10 X := fun X => by
    rw [ht10]
    simp only [e120_69, e120_70, e120_71, e120_73, e120_73s, e120_73sm, MM, MK, e1, e2, ez, q4, not_false_eq_true, show (4 : Nat) ≤ 65536 by omega, if_true, if_false, Nat.zero_lt_one, show ¬ (11 : Nat) = 30 by omega]
  clear e1 e2 ez
  have e1 : cn t10 11 = 1 := by rw [FC_cn f10]; rfl
  have e2 : cn t10 31 = 0 := by rw [FC_cn f10]; rfl
  have ez : sz t10 = gC b nf 31 0 := by rw [FC_sz f10]; rfl
  have f11 := ar_st (c := 31) (k := 12) (n := 4) f10 (by omega) rfl rfl
  obtain ⟨t11, ht11⟩ : ∃ q, q = sP (nw t10 31 4) 11 12 0 (some 0) := ⟨_, rfl⟩
  rw [← ht11] at f11
  have a11 : ∀ X, Rn (gC b nf) 120 76 [oR, some (.inl w), none] [] t10 X ↔ Rn (gC b nf) 120 83 [oR, some (.inl w), none] [] t11 X := fun X => by
    rw [ht11]
    simp only [e120_76, e120_77, e120_78, e120_80, e120_80s, e120_80sm, MM, MK, e1, e2, ez, q4, not_false_eq_true, show (4 : Nat) ≤ 65536 by omega, if_true, if_false, Nat.zero_lt_one, show ¬ (11 : Nat) = 31 by omega]
  clear e1 e2 ez
  have e1 : cn t11 11 = 1 := by rw [FC_cn f11]; rfl
  have e2 : cn t11 32 = 0 := by rw [FC_cn f11]; rfl
  have ez : sz t11 = gC b nf 32 0 := by rw [FC_sz f11]; rfl
  have f12 := ar_st (c := 32) (k := 13) (n := 4) f11 (by omega) rfl rfl
  obtain ⟨t12, ht12⟩ : ∃ q, q = sP (nw t11 32 4) 11 13 0 (some 0) := ⟨_, rfl⟩
  rw [← ht12] at f12
  have a12 : ∀ X, Rn (gC b nf) 120 83 [oR, some (.inl w), none] [] t11 X ↔ Rn (gC b nf) 120 90 [oR, some (.inl w), none] [] t12 X := fun X => by
    rw [ht12]
    simp only [e120_83, e120_84, e120_85, e120_87, e120_87s, e120_87sm, MM, MK, e1, e2, ez, q4, not_false_eq_true, show (4 : Nat) ≤ 65536 by omega, if_true, if_false, Nat.zero_lt_one, show ¬ (11 : Nat) = 32 by omega]
  clear e1 e2 ez
  have e1 : cn t12 11 = 1 := by rw [FC_cn f12]; rfl
  have e2 : cn t12 33 = 0 := by rw [FC_cn f12]; rfl
  have ez : sz t12 = gC b nf 33 0 := by rw [FC_sz f12]; rfl
  have f13 := ar_st (c := 33) (k := 14) (n := 512) f12 (by omega) rfl rfl
  obtain ⟨t13, ht13⟩ : ∃ q, q = sP (nw t12 33 512) 11 14 0 (some 0) := ⟨_, rfl⟩
  rw [← ht13] at f13
  have a13 : ∀ X, Rn (gC b nf) 120 90 [oR, some (.inl w), none] [] t12 X ↔ Rn (gC b nf) 120 99 [oR, some (.inl w), none] [] t13 X := fun X => by
    rw [ht13]
    simp only [e120_90, e120_91, e120_94, e120_96, e120_96s, e120_96sm, MM, MK, e1, e2, ez, q512, not_false_eq_true, show (512 : Nat) ≤ 65536 by omega, if_true, if_false, Nat.zero_lt_one, show ¬ (11 : Nat) = 33 by omega]
  clear e1 e2 ez
  have e1 : cn t13 11 = 1 := by rw [FC_cn f13]; rfl
  have e2 : cn t13 34 = 0 := by rw [FC_cn f13]; rfl
  have ez : sz t13 = gC b nf 34 0 := by rw [FC_sz f13]; rfl
  have f14 := ar_st (c := 34) (k := 15) (n := 4) f13 (by omega) rfl rfl
  obtain ⟨t14, ht14⟩ : ∃ q, q = sP (nw t13 34 4) 11 15 0 (some 0) := ⟨_, rfl⟩
  rw [← ht14] at f14
  have a14 : ∀ X, Rn (gC b nf) 120 99 [oR, some (.inl w), none] [] t13 X ↔ Rn (gC b nf) 120 106 [oR, some (.inl w), none] [] t14 X := fun X => by
    rw [ht14]
    simp only [e120_99, e120_100, e120_101, e120_103, e120_103s, e120_103sm, MM, MK, e1, e2, ez, q4, not_false_eq_true, show (4 : Nat) ≤ 65536 by omega, if_true, if_false, Nat.zero_lt_one, show ¬ (11 : Nat) = 34 by omega]
  clear e1 e2 ez
  have e1 : cn t14 11 = 1 := by rw [FC_cn f14]; rfl
  have e2 : cn t14 35 = 0 := by rw [FC_cn f14]; rfl
  have ez : sz t14 = gC b nf 35 0 := by rw [FC_sz f14]; rfl
  have f15 := ar_st (c := 35) (k := 16) (n := 2000) f14 (by omega) rfl rfl
  obtain ⟨t15, ht15⟩ : ∃ q, q = sP (nw t14 35 2000) 11 16 0 (some 0) := ⟨_, rfl⟩
  rw [← ht15] at f15
  have a15 : ∀ X, Rn (gC b nf) 120 106 [oR, some (.inl w), none] [] t14 X ↔ Rn (gC b nf) 120 115 [oR, some (.inl w), none] [] t15 X := fun X => by
    rw [ht15]
    simp only [e120_106, e120_107, e120_110, e120_112, e120_112s, e120_112sm, MM, MK, e1, e2, ez, q2000, not_false_eq_true, show (2000 : Nat) ≤ 65536 by omega, if_true, if_false, Nat.zero_lt_one, show ¬ (11 : Nat) = 35 by omega]
  clear e1 e2 ez
  have e1 : cn t15 11 = 1 := by rw [FC_cn f15]; rfl
  have e2 : cn t15 36 = 0 := by rw [FC_cn f15]; rfl
  have ez : sz t15 = gC b nf 36 0 := by rw [FC_sz f15]; rfl
  have f16 := ar_st (c := 36) (k := 17) (n := 800) f15 (by omega) rfl rfl
  obtain ⟨t16, ht16⟩ : ∃ q, q = sP (nw t15 36 800) 11 17 0 (some 0) := ⟨_, rfl⟩
  rw [← ht16] at f16
  have a16 : ∀ X, Rn (gC b nf) 120 115 [oR, some (.inl w), none] [] t15 X ↔ Rn (gC b nf) 120 124 [oR, some (.inl w), none] [] t16 X := fun X => by
    rw [ht16]
    simp only [e120_115, e120_116, e120_119, e120_121, e120_121s, e120_121sm, MM, MK, e1, e2, ez, q800, not_false_eq_true, show (800 : Nat) ≤ 65536 by omega, if_true, if_false, Nat.zero_lt_one, show ¬ (11 : Nat) = 36 by omega]
  clear e1 e2 ez
  have e1 : cn t16 11 = 1 := by rw [FC_cn f16]; rfl
  have e2 : cn t16 37 = 0 := by rw [FC_cn f16]; rfl
  have ez : sz t16 = gC b nf 37 0 := by rw [FC_sz f16]; rfl
  have f17 := ar_st (c := 37) (k := 18) (n := 4) f16 (by omega) rfl rfl
  obtain ⟨t17, ht17⟩ : ∃ q, q = sP (nw t16 37 4) 11 18 0 (some 0) := ⟨_, rfl⟩
  rw [← ht17] at f17
  have a17 : ∀ X, Rn (gC b nf) 120 124 [oR, some (.inl w), none] [] t16 X ↔ Rn (gC b nf) 120 131 [oR, some (.inl w), none] [] t17 X := fun X => by
    rw [ht17]
    simp only [e120_124, e120_125, e120_126, e120_128, e120_128s, e120_128sm, MM, MK, e1, e2, ez, q4, not_false_eq_true, show (4 : Nat) ≤ 65536 by omega, if_true, if_false, Nat.zero_lt_one, show ¬ (11 : Nat) = 37 by omega]
  clear e1 e2 ez
  have e1 : cn t17 11 = 1 := by rw [FC_cn f17]; rfl
  have e2 : cn t17 38 = 0 := by rw [FC_cn f17]; rfl
  have ez : sz t17 = gC b nf 38 0 := by rw [FC_sz f17]; rfl
  have f18 := ar_st (c := 38) (k := 20) (n := 64) f17 (by omega) rfl rfl
  obtain ⟨t18, ht18⟩ : ∃ q, q = sP (nw t17 38 64) 11 20 0 (some 0) := ⟨_, rfl⟩
  rw [← ht18] at f18
  have a18 : ∀ X, Rn (gC b nf) 120 131 [oR, some (.inl w), none] [] t17 X ↔ Rn (gC b nf) 120 139 [oR, some (.inl w), none] [] t18 X := fun X => by
    rw [ht18]
    simp only [e120_131, e120_132, e120_134, e120_136, e120_136s, e120_136sm, MM, MK, e1, e2, ez, q64, not_false_eq_true, show (64 : Nat) ≤ 65536 by omega, if_true, if_false, Nat.zero_lt_one, show ¬ (11 : Nat) = 38 by omega]
  clear e1 e2 ez
  have e1 : cn t18 11 = 1 := by rw [FC_cn f18]; rfl
  have e2 : cn t18 39 = 0 := by rw [FC_cn f18]; rfl
  have ez : sz t18 = gC b nf 39 0 := by rw [FC_sz f18]; rfl
  have f19 := ar_st (c := 39) (k := 21) (n := 64) f18 (by omega) rfl rfl
  obtain ⟨t19, ht19⟩ : ∃ q, q = sP (nw t18 39 64) 11 21 0 (some 0) := ⟨_, rfl⟩
  rw [← ht19] at f19
  have a19 : ∀ X, Rn (gC b nf) 120 139 [oR, some (.inl w), none] [] t18 X ↔ Rn (gC b nf) 120 147 [oR, some (.inl w), none] [] t19 X := fun X => by
    rw [ht19]
    simp only [e120_139, e120_140, e120_142, e120_144, e120_144s, e120_144sm, MM, MK, e1, e2, ez, q64, not_false_eq_true, show (64 : Nat) ≤ 65536 by omega, if_true, if_false, Nat.zero_lt_one, show ¬ (11 : Nat) = 39 by omega]
  clear e1 e2 ez
  have e1 : cn t19 11 = 1 := by rw [FC_cn f19]; rfl
  have e2 : cn t19 40 = 0 := by rw [FC_cn f19]; rfl
  have ez : sz t19 = gC b nf 40 0 := by rw [FC_sz f19]; rfl
  have f20 := ar_st (c := 40) (k := 22) (n := 32768) f19 (by omega) rfl rfl
  obtain ⟨t20, ht20⟩ : ∃ q, q = sP (nw t19 40 32768) 11 22 0 (some 0) := ⟨_, rfl⟩
  rw [← ht20] at f20
  have a20 : ∀ X, Rn (gC b nf) 120 147 [oR, some (.inl w), none] [] t19 X ↔ Rn (gC b nf) 120 155 [oR, some (.inl w), none] [] t20 X := fun X => by
    rw [ht20]
    simp only [e120_147, e120_148, e120_150, e120_152, e120_152s, e120_152sm, MM, MK, e1, e2, ez, q32768, not_false_eq_true, show (32768 : Nat) ≤ 65536 by omega, if_true, if_false, Nat.zero_lt_one, show ¬ (11 : Nat) = 40 by omega]
  clear e1 e2 ez
  have e1 : cn t20 11 = 1 := by rw [FC_cn f20]; rfl
  have e2 : cn t20 41 = 0 := by rw [FC_cn f20]; rfl
  have ez : sz t20 = gC b nf 41 0 := by rw [FC_sz f20]; rfl
  have f21 := ar_st (c := 41) (k := 23) (n := 4) f20 (by omega) rfl rfl
  obtain ⟨t21, ht21⟩ : ∃ q, q = sP (nw t20 41 4) 11 23 0 (some 0) := ⟨_, rfl⟩
  rw [← ht21] at f21
  have a21 : ∀ X, Rn (gC b nf) 120 155 [oR, some (.inl w), none] [] t20 X ↔ Rn (gC b nf) 120 162 [oR, some (.inl w), none] [] t21 X := fun X => by
    rw [ht21]
    simp only [e120_155, e120_156, e120_157, e120_159, e120_159s, e120_159sm, MM, MK, e1, e2, ez, q4, not_false_eq_true, show (4 : Nat) ≤ 65536 by omega, if_true, if_false, Nat.zero_lt_one, show ¬ (11 : Nat) = 41 by omega]
  clear e1 e2 ez
  have e1 : cn t21 11 = 1 := by rw [FC_cn f21]; rfl
  have e2 : cn t21 42 = 0 := by rw [FC_cn f21]; rfl
  have ez : sz t21 = gC b nf 42 0 := by rw [FC_sz f21]; rfl
  have f22 := ar_st (c := 42) (k := 24) (n := 16) f21 (by omega) rfl rfl
  obtain ⟨t22, ht22⟩ : ∃ q, q = sP (nw t21 42 16) 11 24 0 (some 0) := ⟨_, rfl⟩
  rw [← ht22] at f22
  have a22 : ∀ X, Rn (gC b nf) 120 162 [oR, some (.inl w), none] [] t21 X ↔ Rn (gC b nf) 120 170 [oR, some (.inl w), none] [] t22 X := fun X => by
    rw [ht22]
    simp only [e120_162, e120_163, e120_165, e120_167, e120_167s, e120_167sm, MM, MK, e1, e2, ez, q16, not_false_eq_true, show (16 : Nat) ≤ 65536 by omega, if_true, if_false, Nat.zero_lt_one, show ¬ (11 : Nat) = 42 by omega]
  clear e1 e2 ez
  have e1 : cn t22 11 = 1 := by rw [FC_cn f22]; rfl
  have e2 : cn t22 43 = 0 := by rw [FC_cn f22]; rfl
  have ez : sz t22 = gC b nf 43 0 := by rw [FC_sz f22]; rfl
  have f23 := ar_st (c := 43) (k := 25) (n := 16) f22 (by omega) rfl rfl
  obtain ⟨t23, ht23⟩ : ∃ q, q = sP (nw t22 43 16) 11 25 0 (some 0) := ⟨_, rfl⟩
  rw [← ht23] at f23
  have a23 : ∀ X, Rn (gC b nf) 120 170 [oR, some (.inl w), none] [] t22 X ↔ Rn (gC b nf) 120 178 [oR, some (.inl w), none] [] t23 X := fun X => by
    rw [ht23]
    simp only [e120_170, e120_171, e120_173, e120_175, e120_175s, e120_175sm, MM, MK, e1, e2, ez, q16, not_false_eq_true, show (16 : Nat) ≤ 65536 by omega, if_true, if_false, Nat.zero_lt_one, show ¬ (11 : Nat) = 43 by omega]
  clear e1 e2 ez
  have e1 : cn t23 11 = 1 := by rw [FC_cn f23]; rfl
  have e2 : cn t23 44 = 0 := by rw [FC_cn f23]; rfl
  have ez : sz t23 = gC b nf 44 0 := by rw [FC_sz f23]; rfl
  have f24 := ar_st (c := 44) (k := 26) (n := 16) f23 (by omega) rfl rfl
  obtain ⟨t24, ht24⟩ : ∃ q, q = sP (nw t23 44 16) 11 26 0 (some 0) := ⟨_, rfl⟩
  rw [← ht24] at f24
  have a24 : ∀ X, Rn (gC b nf) 120 178 [oR, some (.inl w), none] [] t23 X ↔ Rn (gC b nf) 120 186 [oR, some (.inl w), none] [] t24 X := fun X => by
    rw [ht24]
    simp only [e120_178, e120_179, e120_181, e120_183, e120_183s, e120_183sm, MM, MK, e1, e2, ez, q16, not_false_eq_true, show (16 : Nat) ≤ 65536 by omega, if_true, if_false, Nat.zero_lt_one, show ¬ (11 : Nat) = 44 by omega]
  clear e1 e2 ez
  have e1 : cn t24 11 = 1 := by rw [FC_cn f24]; rfl
  have e2 : cn t24 45 = 0 := by rw [FC_cn f24]; rfl
  have ez : sz t24 = gC b nf 45 0 := by rw [FC_sz f24]; rfl
  have f25 := ar_st (c := 45) (k := 27) (n := 16) f24 (by omega) rfl rfl
  obtain ⟨t25, ht25⟩ : ∃ q, q = sP (nw t24 45 16) 11 27 0 (some 0) := ⟨_, rfl⟩
  rw [← ht25] at f25
  have a25 : ∀ X, Rn (gC b nf) 120 186 [oR, some (.inl w), none] [] t24 X ↔ Rn (gC b nf) 120 194 [oR, some (.inl w), none] [] t25 X := fun X => by
    rw [ht25]
    simp only [e120_186, e120_187, e120_189, e120_191, e120_191s, e120_191sm, MM, MK, e1, e2, ez, q16, not_false_eq_true, show (16 : Nat) ≤ 65536 by omega, if_true, if_false, Nat.zero_lt_one, show ¬ (11 : Nat) = 45 by omega]
  clear e1 e2 ez
  have e1 : cn t25 11 = 1 := by rw [FC_cn f25]; rfl
  have e2 : cn t25 46 = 0 := by rw [FC_cn f25]; rfl
  have ez : sz t25 = gC b nf 46 0 := by rw [FC_sz f25]; rfl
  have f26 := ar_st (c := 46) (k := 28) (n := 16) f25 (by omega) rfl rfl
  obtain ⟨t26, ht26⟩ : ∃ q, q = sP (nw t25 46 16) 11 28 0 (some 0) := ⟨_, rfl⟩
  rw [← ht26] at f26
  have a26 : ∀ X, Rn (gC b nf) 120 194 [oR, some (.inl w), none] [] t25 X ↔ Rn (gC b nf) 120 202 [oR, some (.inl w), none] [] t26 X := fun X => by
    rw [ht26]
    simp only [e120_194, e120_195, e120_197, e120_199, e120_199s, e120_199sm, MM, MK, e1, e2, ez, q16, not_false_eq_true, show (16 : Nat) ≤ 65536 by omega, if_true, if_false, Nat.zero_lt_one, show ¬ (11 : Nat) = 46 by omega]
  clear e1 e2 ez
  have e1 : cn t26 11 = 1 := by rw [FC_cn f26]; rfl
  have e2 : cn t26 47 = 0 := by rw [FC_cn f26]; rfl
  have ez : sz t26 = gC b nf 47 0 := by rw [FC_sz f26]; rfl
  have f27 := ar_st (c := 47) (k := 29) (n := 16) f26 (by omega) rfl rfl
  obtain ⟨t27, ht27⟩ : ∃ q, q = sP (nw t26 47 16) 11 29 0 (some 0) := ⟨_, rfl⟩
  rw [← ht27] at f27
  have a27 : ∀ X, Rn (gC b nf) 120 202 [oR, some (.inl w), none] [] t26 X ↔ Rn (gC b nf) 120 210 [oR, some (.inl w), none] [] t27 X := fun X => by
    rw [ht27]
    simp only [e120_202, e120_203, e120_205, e120_207, e120_207s, e120_207sm, MM, MK, e1, e2, ez, q16, not_false_eq_true, show (16 : Nat) ≤ 65536 by omega, if_true, if_false, Nat.zero_lt_one, show ¬ (11 : Nat) = 47 by omega]
  clear e1 e2 ez
  have e1 : cn t27 11 = 1 := by rw [FC_cn f27]; rfl
  have e2 : cn t27 48 = 0 := by rw [FC_cn f27]; rfl
  have ez : sz t27 = gC b nf 48 0 := by rw [FC_sz f27]; rfl
  have f28 := ar_st (c := 48) (k := 30) (n := 16) f27 (by omega) rfl rfl
  obtain ⟨t28, ht28⟩ : ∃ q, q = sP (nw t27 48 16) 11 30 0 (some 0) := ⟨_, rfl⟩
  rw [← ht28] at f28
  have a28 : ∀ X, Rn (gC b nf) 120 210 [oR, some (.inl w), none] [] t27 X ↔ Rn (gC b nf) 120 218 [oR, some (.inl w), none] [] t28 X := fun X => by
    rw [ht28]
    simp only [e120_210, e120_211, e120_213, e120_215, e120_215s, e120_215sm, MM, MK, e1, e2, ez, q16, not_false_eq_true, show (16 : Nat) ≤ 65536 by omega, if_true, if_false, Nat.zero_lt_one, show ¬ (11 : Nat) = 48 by omega]
  clear e1 e2 ez
  have e1 : cn t28 11 = 1 := by rw [FC_cn f28]; rfl
  have e2 : cn t28 49 = 0 := by rw [FC_cn f28]; rfl
  have ez : sz t28 = gC b nf 49 0 := by rw [FC_sz f28]; rfl
  have f29 := ar_st (c := 49) (k := 31) (n := 64) f28 (by omega) rfl rfl
  obtain ⟨t29, ht29⟩ : ∃ q, q = sP (nw t28 49 64) 11 31 0 (some 0) := ⟨_, rfl⟩
  rw [← ht29] at f29
  have a29 : ∀ X, Rn (gC b nf) 120 218 [oR, some (.inl w), none] [] t28 X ↔ Rn (gC b nf) 120 226 [oR, some (.inl w), none] [] t29 X := fun X => by
    rw [ht29]
    simp only [e120_218, e120_219, e120_221, e120_223, e120_223s, e120_223sm, MM, MK, e1, e2, ez, q64, not_false_eq_true, show (64 : Nat) ≤ 65536 by omega, if_true, if_false, Nat.zero_lt_one, show ¬ (11 : Nat) = 49 by omega]
  clear e1 e2 ez
  have e1 : cn t29 11 = 1 := by rw [FC_cn f29]; rfl
  have e2 : cn t29 50 = 0 := by rw [FC_cn f29]; rfl
  have ez : sz t29 = gC b nf 50 0 := by rw [FC_sz f29]; rfl
  have f30 := ar_st (c := 50) (k := 32) (n := 64) f29 (by omega) rfl rfl
  obtain ⟨t30, ht30⟩ : ∃ q, q = sP (nw t29 50 64) 11 32 0 (some 0) := ⟨_, rfl⟩
  rw [← ht30] at f30
  have a30 : ∀ X, Rn (gC b nf) 120 226 [oR, some (.inl w), none] [] t29 X ↔ Rn (gC b nf) 120 234 [oR, some (.inl w), none] [] t30 X := fun X => by
    rw [ht30]
    simp only [e120_226, e120_227, e120_229, e120_231, e120_231s, e120_231sm, MM, MK, e1, e2, ez, q64, not_false_eq_true, show (64 : Nat) ≤ 65536 by omega, if_true, if_false, Nat.zero_lt_one, show ¬ (11 : Nat) = 50 by omega]
  clear e1 e2 ez
  have e1 : cn t30 11 = 1 := by rw [FC_cn f30]; rfl
  have fm := FC_sI (c := 11) (k := 33) (i := 0) (v := -1) f30 (show 0 < 1 by omega)
  obtain ⟨tm, htm⟩ : ∃ q, q = sI t30 11 33 0 (-1) := ⟨_, rfl⟩
  rw [← htm] at fm
  have am : ∀ X, Rn (gC b nf) 120 234 [oR, some (.inl w), none] [] t30 X ↔ Rn (gC b nf) 120 239 [oR, some (.inl w), none] [] tm X := fun X => by
    rw [htm]
    simp only [e120_234, e120_235, e120_236, MM, MK, e1, if_true, if_false, Nat.zero_lt_one]
  clear e1
  have e1 : cn tm 11 = 1 := by rw [FC_cn fm]; rfl
  have e2 : cn tm 51 = 0 := by rw [FC_cn fm]; rfl
  have ez : sz tm = gC b nf 51 0 := by rw [FC_sz fm]; rfl
  have f31 := ar_st (c := 51) (k := 40) (n := 32) fm (by omega) rfl rfl
  obtain ⟨t31, ht31⟩ : ∃ q, q = sP (nw tm 51 32) 11 40 0 (some 0) := ⟨_, rfl⟩
  rw [← ht31] at f31
  have a31 : ∀ X, Rn (gC b nf) 120 239 [oR, some (.inl w), none] [] tm X ↔ Rn (gC b nf) 120 247 [oR, some (.inl w), none] [] t31 X := fun X => by
    rw [ht31]
    simp only [e120_239, e120_240, e120_242, e120_244, e120_244s, e120_244sm, MM, MK, e1, e2, ez, q32, not_false_eq_true, show (32 : Nat) ≤ 65536 by omega, if_true, if_false, Nat.zero_lt_one, show ¬ (11 : Nat) = 51 by omega]
  clear e1 e2 ez
  have e1 : cn t31 11 = 1 := by rw [FC_cn f31]; rfl
  have e2 : cn t31 52 = 0 := by rw [FC_cn f31]; rfl
  have ez : sz t31 = gC b nf 52 0 := by rw [FC_sz f31]; rfl
  have f32 := ar_st (c := 52) (k := 41) (n := 32) f31 (by omega) rfl rfl
  obtain ⟨t32, ht32⟩ : ∃ q, q = sP (nw t31 52 32) 11 41 0 (some 0) := ⟨_, rfl⟩
  rw [← ht32] at f32
  have a32 : ∀ X, Rn (gC b nf) 120 247 [oR, some (.inl w), none] [] t31 X ↔ Rn (gC b nf) 120 255 [oR, some (.inl w), none] [] t32 X := fun X => by
    rw [ht32]
    simp only [e120_247, e120_248, e120_250, e120_252, e120_252s, e120_252sm, MM, MK, e1, e2, ez, q32, not_false_eq_true, show (32 : Nat) ≤ 65536 by omega, if_true, if_false, Nat.zero_lt_one, show ¬ (11 : Nat) = 52 by omega]
  clear e1 e2 ez
  have e1 : cn t32 11 = 1 := by rw [FC_cn f32]; rfl
  have e2 : cn t32 53 = 0 := by rw [FC_cn f32]; rfl
  have ez : sz t32 = gC b nf 53 0 := by rw [FC_sz f32]; rfl
  have f33 := ar_st (c := 53) (k := 43) (n := 64) f32 (by omega) rfl rfl
  obtain ⟨t33, ht33⟩ : ∃ q, q = sP (nw t32 53 64) 11 43 0 (some 0) := ⟨_, rfl⟩
  rw [← ht33] at f33
  have a33 : ∀ X, Rn (gC b nf) 120 255 [oR, some (.inl w), none] [] t32 X ↔ Rn (gC b nf) 120 263 [oR, some (.inl w), none] [] t33 X := fun X => by
    rw [ht33]
    simp only [e120_255, e120_256, e120_258, e120_260, e120_260s, e120_260sm, MM, MK, e1, e2, ez, q64, not_false_eq_true, show (64 : Nat) ≤ 65536 by omega, if_true, if_false, Nat.zero_lt_one, show ¬ (11 : Nat) = 53 by omega]
  clear e1 e2 ez
  have e1 : cn t33 11 = 1 := by rw [FC_cn f33]; rfl
  have e2 : cn t33 54 = 0 := by rw [FC_cn f33]; rfl
  have ez : sz t33 = gC b nf 54 0 := by rw [FC_sz f33]; rfl
  have f34 := ar_st (c := 54) (k := 45) (n := 400) f33 (by omega) rfl rfl
  obtain ⟨t34, ht34⟩ : ∃ q, q = sP (nw t33 54 400) 11 45 0 (some 0) := ⟨_, rfl⟩
  rw [← ht34] at f34
  have a34 : ∀ X, Rn (gC b nf) 120 263 [oR, some (.inl w), none] [] t33 X ↔ Rn (gC b nf) 120 272 [oR, some (.inl w), none] [] t34 X := fun X => by
    rw [ht34]
    simp only [e120_263, e120_264, e120_267, e120_269, e120_269s, e120_269sm, MM, MK, e1, e2, ez, q400, not_false_eq_true, show (400 : Nat) ≤ 65536 by omega, if_true, if_false, Nat.zero_lt_one, show ¬ (11 : Nat) = 54 by omega]
  clear e1 e2 ez
  have hN := FC_cn f34
  have hP := FC_gP f34
  have hL := FC_ln f34
  refine ⟨t34, fun X => by rw [a0, a1, a2, a3, a4, a5, a6, a7, a8, a9, a10, a11, a12, a13, a14, a15, a16, a17, a18, a19, a20, a21, a22, a23, a24, a25, a26, a27, a28, a29, a30, am, a31, a32, a33, a34], ⟨⟨by rw [cn_sI, hN]; rfl, by rw [gI_sI, if_pos ⟨rfl, rfl, rfl⟩], h3, h16⟩, ⟨?_, ?_, ?_, ?_, ?_, ?_, ?_, ?_, ?_, ?_, ?_, ?_, ?_, ?_, ?_, ?_, ?_, ?_, ?_, ?_, ?_, ?_, ?_, ?_, ?_, ?_, ?_, ?_, ?_, ?_, ?_, ?_, ?_, ?_⟩, ⟨?_, ?_, ?_, ?_, ?_, ?_, ?_, ?_, ?_, ?_, ?_, ?_, ?_, ?_, ?_, ?_, ?_, ?_, ?_, ?_, ?_, ?_, ?_, ?_, ?_, ?_, ?_, ?_, ?_, ?_, ?_, ?_, ?_, ?_⟩, ⟨?_, ?_, ?_, ?_, ?_, ?_, ?_, ?_, ?_, ?_, ?_, ?_, ?_, ?_, ?_, ?_, ?_, ?_, ?_, ?_, ?_, ?_, ?_, ?_, ?_, ?_, ?_, ?_, ?_, ?_, ?_, ?_, ?_, ?_⟩⟩, by rw [hN]; rfl, ?_, f34.2.1, ?_, ?_⟩
  · rw [cn_sI, hN]; rfl
  · rw [cn_sI, hN]; rfl
  · rw [cn_sI, hN]; rfl
  · rw [cn_sI, hN]; rfl
  · rw [cn_sI, hN]; rfl
  · rw [cn_sI, hN]; rfl
  · rw [cn_sI, hN]; rfl
  · rw [cn_sI, hN]; rfl
  · rw [cn_sI, hN]; rfl
  · rw [cn_sI, hN]; rfl
  · rw [cn_sI, hN]; rfl
  · rw [cn_sI, hN]; rfl
  · rw [cn_sI, hN]; rfl
  · rw [cn_sI, hN]; rfl
  · rw [cn_sI, hN]; rfl
  · rw [cn_sI, hN]; rfl
  · rw [cn_sI, hN]; rfl
  · rw [cn_sI, hN]; rfl
  · rw [cn_sI, hN]; rfl
  · rw [cn_sI, hN]; rfl
  · rw [cn_sI, hN]; rfl
  · rw [cn_sI, hN]; rfl
  · rw [cn_sI, hN]; rfl
  · rw [cn_sI, hN]; rfl
  · rw [cn_sI, hN]; rfl
  · rw [cn_sI, hN]; rfl
  · rw [cn_sI, hN]; rfl
  · rw [cn_sI, hN]; rfl
  · rw [cn_sI, hN]; rfl
  · rw [cn_sI, hN]; rfl
  · rw [cn_sI, hN]; rfl
  · rw [cn_sI, hN]; rfl
  · rw [cn_sI, hN]; rfl
  · rw [cn_sI, hN]; rfl
  · rw [gP_sI, hP]; rfl
  · rw [gP_sI, hP]; rfl
  · rw [gP_sI, hP]; rfl
  · rw [gP_sI, hP]; rfl
  · rw [gP_sI, hP]; rfl
  · rw [gP_sI, hP]; rfl
  · rw [gP_sI, hP]; rfl
  · rw [gP_sI, hP]; rfl
  · rw [gP_sI, hP]; rfl
  · rw [gP_sI, hP]; rfl
  · rw [gP_sI, hP]; rfl
  · rw [gP_sI, hP]; rfl
  · rw [gP_sI, hP]; rfl
  · rw [gP_sI, hP]; rfl
  · rw [gP_sI, hP]; rfl
  · rw [gP_sI, hP]; rfl
  · rw [gP_sI, hP]; rfl
  · rw [gP_sI, hP]; rfl
  · rw [gP_sI, hP]; rfl
  · rw [gP_sI, hP]; rfl
  · rw [gP_sI, hP]; rfl
  · rw [gP_sI, hP]; rfl
  · rw [gP_sI, hP]; rfl
  · rw [gP_sI, hP]; rfl
  · rw [gP_sI, hP]; rfl
  · rw [gP_sI, hP]; rfl
  · rw [gP_sI, hP]; rfl
  · rw [gP_sI, hP]; rfl
  · rw [gP_sI, hP]; rfl
  · rw [gP_sI, hP]; rfl
  · rw [gP_sI, hP]; rfl
  · rw [gP_sI, hP]; rfl
  · rw [gP_sI, hP]; rfl
  · rw [gP_sI, hP]; rfl
  · rw [ln_sI, hL _ _ (by omega)]; rfl
  · rw [ln_sI, hL _ _ (by omega)]; rfl
  · rw [ln_sI, hL _ _ (by omega)]; rfl
  · rw [ln_sI, hL _ _ (by omega)]; rfl
  · rw [ln_sI, hL _ _ (by omega)]; rfl
  · rw [ln_sI, hL _ _ (by omega)]; rfl
  · rw [ln_sI, hL _ _ (by omega)]; rfl
  · rw [ln_sI, hL _ _ (by omega)]; rfl
  · rw [ln_sI, hL _ _ (by omega)]; rfl
  · rw [ln_sI, hL _ _ (by omega)]; rfl
  · rw [ln_sI, hL _ _ (by omega)]; rfl
  · rw [ln_sI, hL _ _ (by omega)]; rfl
  · rw [ln_sI, hL _ _ (by omega)]; rfl
  · rw [ln_sI, hL _ _ (by omega)]; rfl
  · rw [ln_sI, hL _ _ (by omega)]; rfl
  · rw [ln_sI, hL _ _ (by omega)]; rfl
  · rw [ln_sI, hL _ _ (by omega)]; rfl
  · rw [ln_sI, hL _ _ (by omega)]; rfl
  · rw [ln_sI, hL _ _ (by omega)]; rfl
  · rw [ln_sI, hL _ _ (by omega)]; rfl
  · rw [ln_sI, hL _ _ (by omega)]; rfl
  · rw [ln_sI, hL _ _ (by omega)]; rfl
  · rw [ln_sI, hL _ _ (by omega)]; rfl
  · rw [ln_sI, hL _ _ (by omega)]; rfl
  · rw [ln_sI, hL _ _ (by omega)]; rfl
  · rw [ln_sI, hL _ _ (by omega)]; rfl
  · rw [ln_sI, hL _ _ (by omega)]; rfl
  · rw [ln_sI, hL _ _ (by omega)]; rfl
  · rw [ln_sI, hL _ _ (by omega)]; rfl
  · rw [ln_sI, hL _ _ (by omega)]; rfl
  · rw [ln_sI, hL _ _ (by omega)]; rfl
  · rw [ln_sI, hL _ _ (by omega)]; rfl
  · rw [ln_sI, hL _ _ (by omega)]; rfl
  · rw [ln_sI, hL _ _ (by omega)]; rfl
  · intro c k e
    rw [FC_gI f34]; rfl
  · rw [FC_sz f34]; omega
  · rw [f34.2.2.2.2.2.1.2]; omega
end Fc7
