/-! loading, in both programs -/
section Lod3
variable {g : Nat → Nat → Nat} {s t u T : Sg} {X : Sg × Option Av} {nf B n : Nat} {Q : List Nat} {j : Nat}
theorem ld_sum {A c : Nat} (hA : A < 1048576) (hc : c ≤ 1000) : ((nI A).toInt64 + (nI c).toInt64 ≤ 1048576) ↔ A + c ≤ 1048576 := by
  rw [i64_le_i, Int64.toInt_add, t64, t64, nI_toInt (by omega), nI_toInt (by omega), show (1048576 : Int64).toInt = 1048576 by decide, Int.bmod_eq_of_le (by omega) (by omega)]
  omega
theorem kB_0 {A : Nat} : kB A 0 = A / 512 := by unfold kB; rw [if_pos rfl]
theorem rel_load (hg : ∀ i, g 16 (i + 1) = g 16 i + 1) (h : Rl g s t nf B Q) (h1 : gI s 10 8 0 = nI n) (h2 : gI t 11 47 0 = nI n) (x a : Int32) : AN g 88 [oC, some (.inl x), some (.inl a), none, none, none, none, none, none] 133 [oR, some (.inl x), some (.inl a), none, none, none, none, none, none] s t nf B n := by
  by_cases c : x < 0 ∨ ¬ x < 4
  · have r1 := fun X => r_in_x (g := g) (t := t) (X := X) (K := 3) c (by decide)
    have r2 := fun X => c_jobOf_n (g := g) (X := X) h.1.1 c
    refine an_same (v := .inl (-1)) h h1 h2 (fun X => ?_) (fun X => ?_)
    · simp [e88_0, e88_1, e88_2, e88_5, e88_6, e88_7, e88_10, e88_11, e88_14, e88_17, e88_18, e88_21, e88_24, e88_25, e88_28, e88_31, e88_33, e88_34, e88_35, e88_38, e88_39, MM, MK, h.1.1, r2]
    · simp [e133_0, e133_1, e133_2, e133_3, e133_6, e133_9, e133_12, e133_13, e133_16, e133_17, e133_18, e133_21, e133_22, e133_23, e133_24, e133_27, e133_30, e133_33, e133_34, e133_35, e133_36, e133_39, e133_40, e133_41, e133_44, e133_45, e133_48, e133_49, MM, MK, h.1.2.1, r1]
  obtain ⟨j, hj, rfl⟩ := arg_ex (m := 4) (by decide) c
  have r1 := fun X => r_in_y (g := g) (t := t) (X := X) (K := 3) (x := nI j) rfl (show j ≤ 3 by omega) (by omega) (by decide)
  have r2 := fun X => c_jobOf_y (g := g) (X := X) h.1.1 hj
  have hj4 := inN hj (show 4 ≤ 65536 by omega)
  have e1 := h.2.1.1.1 j hj
  have w1 := h.1.1
  have w2 := h.1.2.1
  have n10 : ¬ (1 : Int32) = 0 := by decide
  by_cases s0 : gI t 22 j 0 = 0
  rotate_left
  · refine an_same (v := .inl (-1)) h h1 h2 (fun X => ?_) (fun X => ?_)
    · simp [e88_0, e88_1, e88_2, e88_5, e88_6, e88_7, e88_10, e88_11, e88_14, e88_17, e88_18, e88_21, e88_24, e88_25, e88_28, e88_31, e88_33, e88_34, e88_35, e88_38, e88_39, MM, MK, w1, r2, hj, e1, s0]
    · simp [e133_0, e133_1, e133_2, e133_3, e133_6, e133_9, e133_12, e133_13, e133_16, e133_17, e133_18, e133_21, e133_22, e133_23, e133_24, e133_27, e133_30, e133_33, e133_34, e133_35, e133_36, e133_39, e133_40, e133_41, e133_44, e133_45, e133_48, e133_49, MM, MK, w2, r1, hj4, s0]
  have r3 := fun X => c_isAddress (g := g) (s := s) (X := X) (a := a)
  by_cases d : a < 0 ∨ ¬ a < 1048576
  · have r4 := fun X => r_in_x (g := g) (t := t) (X := X) (K := 1048575) d (by decide)
    rw [if_pos d] at r3
    refine an_same (v := .inl (-1)) h h1 h2 (fun X => ?_) (fun X => ?_)
    · simp [e88_0, e88_1, e88_2, e88_5, e88_6, e88_7, e88_10, e88_11, e88_14, e88_17, e88_18, e88_21, e88_24, e88_25, e88_28, e88_31, e88_33, e88_34, e88_35, e88_38, e88_39, MM, MK, w1, r2, hj, e1, s0, r3]
    · simp [e133_0, e133_1, e133_2, e133_3, e133_6, e133_9, e133_12, e133_13, e133_16, e133_17, e133_18, e133_21, e133_22, e133_23, e133_24, e133_27, e133_30, e133_33, e133_34, e133_35, e133_36, e133_39, e133_40, e133_41, e133_44, e133_45, e133_48, e133_49, MM, MK, w2, r1, hj4, s0, r4]
  rw [if_neg d] at r3
  obtain ⟨A, hA, rfl⟩ := adr_ex d
  have r4 := fun X => r_in_ok (g := g) (t := t) (X := X) hA
  obtain ⟨k, f0, y1, y2, y3⟩ := h.2.2.2.1.2.2.2.2.2.1
  have hk : k ≤ 1000 := by have := y1.2.2.1; rw [cap_0] at this; exact this
  have r5 := fun X => c_size (g := g) (X := X) h.1.1 (show 0 < 11 by omega) y1
  have e6 : (1048576 : Int32) - nI A = nI (1048576 - A) := nI_sub (a := 1048576) (by omega)
  have e7 := ld_sum hA hk
  by_cases q : A + k ≤ 1048576
  rotate_left
  · have q1 : ¬ nI k ≤ nI (1048576 - A) := nI_ge (by omega) (by omega)
    have q2 : ¬ ((nI A).toInt64 + (nI k).toInt64 ≤ 1048576) := fun z => q (e7.mp z)
    refine an_same (v := .inl (-1)) h h1 h2 (fun X => ?_) (fun X => ?_)
    · simp only [e88_0, e88_1, e88_2, e88_5, e88_6, e88_7, e88_10, e88_11, e88_14, e88_17, e88_18, e88_21, e88_24, e88_25, e88_28, e88_31, e88_33, e88_34, e88_35, e88_38, e88_39, MM, MK, w1, r2, hj, e1, s0, r3, r5, e6, q1, n10, if_true, if_false, Nat.zero_lt_one, exists_eq_left, List.nil_append, List.cons_append, List.append_nil, reduceCtorEq, show (0 : Nat) < 11 by omega]
    · simp only [e133_0, e133_1, e133_2, e133_3, e133_6, e133_9, e133_12, e133_13, e133_16, e133_17, e133_18, e133_21, e133_22, e133_23, e133_24, e133_27, e133_30, e133_33, e133_34, e133_35, e133_36, e133_39, e133_40, e133_41, e133_44, e133_45, e133_48, e133_49, MM, MK, NC, w2, r1, hj4, s0, r4, y2, q2, n10, if_true, if_false, Nat.zero_lt_one, exists_eq_left, List.nil_append, List.cons_append, List.append_nil]
  have q1 : nI k ≤ nI (1048576 - A) := nI_le (by omega) (by omega)
  have q2 := e7.mpr q
  have n5 : ¬ (512 : Int32) = 0 := by decide
  have hkB : A / 512 ≤ kB A k ∧ kB A k ≤ 2048 ∧ kB A k - A / 512 ≤ 3 := by
    unfold kB
    by_cases z : k = 0
    · rw [if_pos z]; omega
    · rw [if_neg z]; omega
  -- what the class counts
  have r6 := fun X => c_cnb (g := g) (X := X) h hj q hA y1
  have r7 := fun X => c_resB (g := g) (X := X) w1 hj
  rw [bb_eq h 4 0 0 (by omega)] at r7
  have hlt3 : gI t 22 j 0 < 3 := by rw [s0]; decide
  have e5 : gI s 3 5 j = gI t 41 j 0 := (h.2.1.2.1 j hj).1 hlt3
  obtain ⟨hh1, ⟨r, hr, hrs⟩, hh3⟩ := h.2.1.2.2.2.2
  have hbv := bb_val (j := j) (fun i hi => (hr i hi).1) hj
  have hrj : gI t 41 j 0 = nI (r j) := by
    rw [← (hr j hj).1]
    unfold resF
    rw [if_pos s0]
  have r8 := fun X => c_countFree (g := g) (X := X) w1
  rw [lk_cfr h] at r8
  rw [hbv] at r7
  -- what the reference counts
  have r9 := fun X => r_blocksBut (g := g) (X := X) w2 hj
  rw [hbv] at r9
  have r10 := fun X => r_freePlaces (g := g) (X := X) w2
  have hN : cN t j (A / 512) (kB A k - A / 512) ≤ kB A k - A / 512 := cf_le _ _ _
  generalize hm : cN t j (A / 512) (kB A k - A / 512) = M at *
  have hfr : freF t ≤ 64 := cf_le _ _ _
  have hsum : (if 0 = j then 0 else r 0) + (if 1 = j then 0 else r 1) + (if 2 = j then 0 else r 2) + (if 3 = j then 0 else r 3) + r j = r 0 + r 1 + r 2 + r 3 := by
    rcases (show j = 0 ∨ j = 1 ∨ j = 2 ∨ j = 3 by omega) with z | z | z | z <;> subst z <;> simp <;> omega
  generalize hrb : (if 0 = j then 0 else r 0) + (if 1 = j then 0 else r 1) + (if 2 = j then 0 else r 2) + (if 3 = j then 0 else r 3) = rb at *
  -- the last block, as the reference has it
  obtain ⟨LL, hLL, hLi⟩ : ∃ LL : Int32, (LL = if k = 0 then nI (A / 512) - 1 else nI ((A + k - 1) / 512)) ∧ LL.toInt = (kB A k : Int) - 1 := by
    refine ⟨_, rfl, ?_⟩
    by_cases z : k = 0
    · rw [if_pos z, z, kB_0, Int32.toInt_sub, nI_toInt (by omega), show (1 : Int32).toInt = 1 by decide, Int.bmod_eq_of_le (by omega) (by omega)]
    · have : kB A k = (A + k - 1) / 512 + 1 := by unfold kB; rw [if_neg z]
      rw [if_neg z, this, nI_toInt (by omega)]
      omega
  have hL1 : LL < nI (kB A k) := by rw [Int32.lt_iff_toInt_lt, hLi, nI_toInt (by omega)]; omega
  have hL2 : ∀ i, i < kB A k → ¬ LL < nI i := fun i hi => by rw [Int32.lt_iff_toInt_lt, hLi, nI_toInt (by omega)]; omega
  have to89 : ∀ X, Rn g 133 0 [oR, some (.inl (nI j)), some (.inl (nI A)), none, none, none, none, none, none] [] t X ↔ Rn g 133 89 [oR, some (.inl (nI j)), some (.inl (nI A)), some (.inl (nI (A / 512))), some (.inl LL), some (.inl 0), some (.inl (nI (A / 512))), none, none] [] t X := fun X => by
    have hd := d512 (show A < 2 ^ 31 by omega)
    by_cases z : k = 0
    · rw [if_pos z] at hLL
      have z0 : gI t 11 2 0 = 0 := by rw [y2, z]; exact nI_0
      have q3 : (nI A).toInt64 + (0 : Int32).toInt64 ≤ 1048576 := by
        have := q2
        rw [z, nI_0] at this
        exact this
      simp only [e133_0, e133_1, e133_2, e133_3, e133_6, e133_9, e133_12, e133_13, e133_16, e133_17, e133_18, e133_21, e133_22, e133_23, e133_24, e133_27, e133_30, e133_33, e133_34, e133_35, e133_36, e133_39, e133_40, e133_41, e133_44, e133_45, e133_48, e133_49, e133_50, e133_51, e133_54, e133_55, e133_56, e133_57, e133_60, e133_63, e133_64, e133_65, e133_66, e133_69, e133_70, e133_71, e133_74, e133_75, e133_76, e133_77, e133_80, e133_81, e133_83, e133_84, e133_86, e133_87, MM, MK, NC, w2, r1, hj4, s0, r4, z0, q3, hd, n5, n10, hLL, if_true, if_false, Nat.zero_lt_one, exists_eq_left, List.nil_append, List.cons_append, List.append_nil, not_false_eq_true]
    · rw [if_neg z] at hLL
      have z0 : ¬ nI k = 0 := nI_ne0 (by omega) (by omega)
      have e8 : nI (A + k) - 1 = nI (A + k - 1) := nI_sub (b := 1) (by omega)
      simp only [e133_0, e133_1, e133_2, e133_3, e133_6, e133_9, e133_12, e133_13, e133_16, e133_17, e133_18, e133_21, e133_22, e133_23, e133_24, e133_27, e133_30, e133_33, e133_34, e133_35, e133_36, e133_39, e133_40, e133_41, e133_44, e133_45, e133_48, e133_49, e133_50, e133_51, e133_54, e133_55, e133_56, e133_57, e133_60, e133_63, e133_64, e133_65, e133_66, e133_69, e133_70, e133_71, e133_74, e133_75, e133_76, e133_77, e133_80, e133_81, e133_83, e133_84, e133_86, e133_87, MM, MK, NC, w2, r1, hj4, s0, r4, y2, q2, z0, hd, n5, n10, hLL, nI_add, e8, d512 (show A + k - 1 < 2 ^ 31 by omega), if_true, if_false, Nat.zero_lt_one, exists_eq_left, List.nil_append, List.cons_append, List.append_nil, not_false_eq_true]
  have r11 := fun X => r_cnt_l (g := g) (X := X) (j := j) w2 (LL := LL) (w1 := nI A) (w2 := nI (A / 512)) (E := kB A k) (by omega) hL1 hL2 (kB A k - A / 512) (A / 512) 0 (by omega)
  rw [nI_0, Nat.zero_add, hm] at r11
  have to46 : ∀ X, Rn g 88 0 [oC, some (.inl (nI j)), some (.inl (nI A)), none, none, none, none, none, none] [] s X ↔ Rn g 88 48 [oC, some (.inl (nI j)), some (.inl (nI A)), some (.inr (.inr (some (3, j)))), some (.inl (nI M)), none, none, none, none] [] s X := fun X => by
    simp only [e88_0, e88_1, e88_2, e88_5, e88_6, e88_7, e88_10, e88_11, e88_14, e88_17, e88_18, e88_21, e88_24, e88_25, e88_28, e88_31, e88_33, e88_34, e88_35, e88_38, e88_39, e88_40, e88_41, e88_42, e88_43, e88_46, MM, MK, w1, r2, hj, e1, s0, r3, r5, e6, q1, r6, n10, if_true, if_false, Nat.zero_lt_one, exists_eq_left, List.nil_append, List.cons_append, List.append_nil, reduceCtorEq, show (0 : Nat) < 11 by omega]
  by_cases q5 : rb + r j + M ≤ 64
  rotate_left
  · have q6 : (64 : Int32) < nI (rb + r j + M) := nI_lt (a := 64) (by omega) (by omega)
    refine an_same (v := .inl (-1)) h h1 h2 (fun X => ?_) (fun X => ?_)
    · rw [to46]
      simp only [e88_48, e88_49, e88_50, e88_53, e88_54, e88_57, e88_58, e88_60, e88_61, e88_63, e88_66, e88_67, e88_70, e88_73, e88_75, e88_78, e88_79, MM, MK, w1, hj, r7, e5, hrj, nI_add, q6, if_true, if_false, Nat.zero_lt_one, exists_eq_left, List.nil_append, List.cons_append, List.append_nil]
    · rw [to89, r11]
      simp only [e133_123, e133_124, e133_125, e133_128, e133_129, e133_132, e133_133, e133_134, e133_135, e133_137, e133_138, e133_140, e133_143, e133_144, e133_147, e133_149, e133_152, e133_153, MM, MK, w2, hj4, r9, hrj, nI_add, q6, if_true, if_false, Nat.zero_lt_one, exists_eq_left, List.nil_append, List.cons_append, List.append_nil]
  have q6 : ¬ (64 : Int32) < nI (rb + r j + M) := nI_nlt (a := 64) (by omega) (by omega)
  by_cases q7 : M ≤ freF t
  rotate_left
  · have q8 : ¬ nI M ≤ nI (freF t) := nI_ge (by omega) (by omega)
    refine an_same (v := .inl (-1)) h h1 h2 (fun X => ?_) (fun X => ?_)
    · rw [to46]
      simp only [e88_48, e88_49, e88_50, e88_53, e88_54, e88_57, e88_58, e88_60, e88_61, e88_63, e88_66, e88_67, e88_70, e88_73, e88_75, e88_78, e88_79, MM, MK, w1, hj, r7, r8, e5, hrj, nI_add, q6, q8, if_true, if_false, Nat.zero_lt_one, exists_eq_left, List.nil_append, List.cons_append, List.append_nil]
    · rw [to89, r11]
      simp only [e133_123, e133_124, e133_125, e133_128, e133_129, e133_132, e133_133, e133_134, e133_135, e133_137, e133_138, e133_140, e133_143, e133_144, e133_147, e133_149, e133_152, e133_153, MM, MK, w2, hj4, r9, r10, hrj, nI_add, q6, q8, if_true, if_false, Nat.zero_lt_one, exists_eq_left, List.nil_append, List.cons_append, List.append_nil]
  have q8 : nI M ≤ nI (freF t) := nI_le (by omega) (by omega)
  have to95 : ∀ X, Rn g 88 0 [oC, some (.inl (nI j)), some (.inl (nI A)), none, none, none, none, none, none] [] s X ↔ Rn g 88 95 [oC, some (.inl (nI j)), some (.inl (nI A)), some (.inr (.inr (some (3, j)))), some (.inl (nI M)), some (.inl (nI k)), some (.inr (.inr none)), some (.inl 0), none] [] s X := fun X => by
    rw [to46]
    simp only [e88_48, e88_49, e88_50, e88_53, e88_54, e88_57, e88_58, e88_60, e88_61, e88_63, e88_66, e88_67, e88_70, e88_73, e88_75, e88_78, e88_79, e88_80, e88_81, e88_84, e88_87, e88_89, e88_90, e88_92, e88_93, MM, MK, w1, hj, r5, r7, r8, e5, hrj, nI_add, q6, q8, if_true, if_false, Nat.zero_lt_one, exists_eq_left, List.nil_append, List.cons_append, List.append_nil, show (0 : Nat) < 11 by omega]
  have hbg : BG t (cN t j (A / 512) (kB A k - A / 512)) := by rw [hm]; exact ⟨r, hr, by omega⟩
  have hfr2 : cN t j (A / 512) (kB A k - A / 512) ≤ freF t := by rw [hm]; exact q7
  obtain ⟨s', l7, l8, c1, c2⟩ := r_alc_l hg (w1 := nI A) (w2 := nI (A / 512)) (w5 := nI M) (E := kB A k) (by omega) hL1 hL2 hj (kB A k - A / 512) (A / 512) s t none none (by omega) h s0 hbg hfr2
  obtain ⟨s2, T', P', z', d1, d2, d3, d4, d5, d6⟩ := load_l hg hj q (x := nI j) (ad := nI M) (w3 := nI (A / 512)) (LL := LL) (w5 := nI M) (l7 := l7) (l8 := l8) k 0 s t (alN j t (A / 512) (kB A k - A / 512)) none none (by omega) h s0 (by rw [kB_0]; exact hbg) (by rw [kB_0]; exact hfr2) (Or.inl ⟨rfl, rfl⟩) y2 hk (by rw [kB_0]) c2.1.2.1
  rw [nI_0] at d1 d2
  have k1 := rl_tclr d3
  have v1 := d3.1.1
  have v2 := d3.1.2.1
  have l41 : gI s2 3 5 j = gI T' 41 j 0 := (d3.2.1.2.1 j hj).1 (by rw [d4]; decide)
  have r12 := fun X => c_clear (g := g) (X := X) v1 (show 0 < 11 by omega)
  have l2 := k1.1.1
  have l3 := k1.1.2.1
  refine ⟨_, _, .inl (gI T' 41 j 0), B, n, Q, fun X => ?_, fun X => ?_, k1, ?_, ?_, by omega, by omega⟩
  · rw [to95, d1]
    simp only [e88_171, e88_172, e88_175, e88_178, e88_179, e88_182, MM, MK, v1, l2, hj, r12, l41, if_true, if_false, Nat.zero_lt_one, exists_eq_left, List.nil_append, List.cons_append, List.append_nil, show (0 : Nat) < 11 by omega, show ¬ (3 : Nat) = 9 by omega, false_and]
  · rw [to89, r11]
    have e9 : Rn g 133 123 [oR, some (.inl (nI j)), some (.inl (nI A)), some (.inl (nI (A / 512))), some (.inl LL), some (.inl (nI M)), some (.inl (nI (kB A k))), none, none] [] t X ↔ Rn g 133 157 [oR, some (.inl (nI j)), some (.inl (nI A)), some (.inl (nI (A / 512))), some (.inl LL), some (.inl (nI M)), some (.inl (nI (A / 512))), none, none] [] t X := by
      simp only [e133_123, e133_124, e133_125, e133_128, e133_129, e133_132, e133_133, e133_134, e133_135, e133_137, e133_138, e133_140, e133_143, e133_144, e133_147, e133_149, e133_152, e133_153, e133_154, e133_155, MM, MK, w2, hj4, r9, r10, hrj, nI_add, q6, q8, if_true, if_false, Nat.zero_lt_one, exists_eq_left, List.nil_append, List.cons_append, List.append_nil]
    rw [e9, c1]
    have e10 : ∀ (l : Option Av) (u : Sg), Rn g 133 230 [oR, some (.inl (nI j)), some (.inl (nI A)), some (.inl (nI (A / 512))), some (.inl LL), some (.inl (nI M)), l, l7, l8] [] u X ↔ Rn g 133 233 [oR, some (.inl (nI j)), some (.inl (nI A)), some (.inl (nI (A / 512))), some (.inl LL), some (.inl (nI M)), some (.inl 0), l7, l8] [] u X := fun l u => by
      simp only [e133_230, e133_231, MM, MK]
    rw [e10, d2]
    simp only [e133_264, e133_265, e133_266, e133_269, e133_270, e133_273, e133_274, e133_275, MM, MK, v2, l3, hj4, if_true, if_false, Nat.zero_lt_one, show ¬ (41 : Nat) = 11 by omega, false_and]
  · show gI s2 10 8 0 = nI n
    rw [d5, h1]
  · show gI T' 11 47 0 = nI n
    rw [d6, alN_I (by omega) (by omega) (by omega) (by omega) (by omega), h2]
end Lod3
