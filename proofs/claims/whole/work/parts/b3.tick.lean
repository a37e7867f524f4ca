/-! a tick, in both programs -/
section Tic1
variable {g : Nat → Nat → Nat} {s t u : Sg} {X : Sg × Option Av} {nf B : Nat} {Q : List Nat}
theorem rl_108 {v : Int32} (h : Rl g s t nf B Q) : Rl g (sI s 10 8 0 v) t nf B Q := by
  obtain ⟨⟨l1, l2, l3⟩, ⟨j0, bb, ww, nn, hh⟩, ⟨ff1, pp, ll, mm, ss, qq⟩, ⟨rr, aa, xx, tt, uu, yy, cc, dd⟩, oo, kk⟩ := h
  exact ⟨⟨LC_sI l1 (by omega), l2, l3⟩, ⟨j0, bb, ww, nn, hh⟩, ⟨ff1, pp, ll, mm, ss, qq⟩, ⟨rr, aa, xx, tt, uu, yy, cc, dd⟩, oo, kk⟩
theorem rl_1147 {v : Int32} (h : Rl g s t nf B Q) : Rl g s (sI t 11 47 0 v) nf B Q := by
  obtain ⟨⟨l1, l2, l3⟩, ⟨j0, bb, ww, nn, hh⟩, ⟨ff1, pp, ll, mm, ss, qq⟩, ⟨rr, aa, xx, tt, uu, yy, cc, dd⟩, oo, kk⟩ := h
  exact ⟨⟨l1, LR_sI (by omega) l2, l3⟩, ⟨j0, bb, ww, nn, hh⟩, ⟨ff1, pp, ll, mm, ss, qq⟩, ⟨rr, aa, xx, tt, uu, yy, cc, dd⟩, oo, kk⟩
theorem m32 {n : Nat} (h : n < 2 ^ 31) : nI n - nI n / 32 * 32 = nI (n % 32) := nI_rem (b := 32) h (by decide)
theorem m40 {n : Nat} (h : n < 2 ^ 31) : nI n - nI n / 40 * 40 = nI (n % 40) := nI_rem (b := 40) h (by decide)
theorem z_nI {n : Nat} (h : n < 2 ^ 31) : nI n = 0 ↔ n = 0 := by rw [← nI_0]; exact nI_eq h (by omega)
/-- the drum's part of a tick -/
theorem tick_1 (h : Rl g s t nf B Q) {n : Nat} (hn : n < 2000000000) (h1 : gI s 10 8 0 = nI n) (h2 : gI t 11 47 0 = nI n) : ∃ s1 t1 Q1, (∀ X, Rn g 109 0 [some (.inr (.inr (some (10, 0)))), none] [] s X ↔ Rn g 109 28 [some (.inr (.inr (some (10, 0)))), none] [] s1 X) ∧ (∀ X, Rn g 139 0 [some (.inr (.inr (some (11, 0)))), none, none] [] t X ↔ Rn g 139 27 [some (.inr (.inr (some (11, 0)))), some (.inl (nI n)), none] [] t1 X) ∧ Rl g s1 t1 nf B Q1 ∧ gI s1 10 8 0 = nI n ∧ gI t1 11 47 0 = nI (n + 1) := by
  have h' := rl_1147 (v := nI (n + 1)) h
  have hm := m32 (n := n) (by omega)
  by_cases c : n % 32 = 0
  · obtain ⟨s1, s2, t2, Q', a1, a2, a3, a4, a5, a6, a7, a8⟩ := rel_drum h' (n := n) (by omega)
    have hz : nI (n % 32) = 0 := (z_nI (by omega)).mpr c
    have e1 : gI s1 10 8 0 = nI n := (a7 8).trans h1
    refine ⟨s2, t2, Q', fun X => ?_, fun X => ?_, a5, (a6 8).trans h1, a8.trans rfl⟩
    · simp [e109_0, e109_1, e109_4, e109_6, e109_7, e109_10, e109_11, e109_14, e109_17, e109_18, e109_21, e109_22, e109_25, MM, MK, h.1.1, a2, h1, hm, hz, a1, e1, a3]
    · simp [e139_0, e139_1, e139_4, e139_5, e139_6, e139_7, e139_10, e139_11, e139_12, e139_15, e139_16, e139_18, e139_19, e139_22, e139_23, e139_24, MM, MK, h.1.2.1, h2, nI_1, hm, hz, a4]
  · have hz : ¬ nI (n % 32) = 0 := fun z => c ((z_nI (by omega)).mp z)
    refine ⟨s, _, Q, fun X => ?_, fun X => ?_, h', h1, rfl⟩
    · simp [e109_0, e109_1, e109_4, e109_6, e109_7, MM, MK, h.1.1, h1, hm, hz]
    · simp [e139_0, e139_1, e139_4, e139_5, e139_6, e139_7, e139_10, e139_11, e139_12, e139_15, e139_16, e139_18, e139_19, MM, MK, h.1.2.1, h2, nI_1, hm, hz]
/-- bringing, and the job that goes on -/
theorem tick_2 (hg : ∀ i, g 16 (i + 1) = g 16 i + 1) (h : Rl g s t nf B Q) (hB : B < 1900000000) {n : Nat} (h1 : gI s 10 8 0 = nI n) (h2 : gI t 11 47 0 = nI (n + 1)) : ∃ s1 t1 Q1 z z', (∀ X, Rn g 109 28 [some (.inr (.inr (some (10, 0)))), none] [] s X ↔ Rn g 109 75 [some (.inr (.inr (some (10, 0)))), z] [] s1 X) ∧ (∀ X, Rn g 139 27 [some (.inr (.inr (some (11, 0)))), some (.inl (nI n)), none] [] t X ↔ Rn g 139 95 [some (.inr (.inr (some (11, 0)))), some (.inl (nI n)), z'] [] t1 X) ∧ Rl g s1 t1 nf (B + 1) Q1 ∧ gI s1 10 8 0 = nI n ∧ gI t1 11 47 0 = nI (n + 1) := by
  obtain ⟨s1, s2, s3, t3, Q3, a1, a2, a3, a4, a5, a6, a7, a8, a9⟩ := rel_bring h (by omega)
  have r1 := fun X => c_firstReady (g := g) (X := X) a7.1.1
  have r2 := fun X => r_ready_l (g := g) (X := X) (z := nI n) a7.1.2.1 4 0 (by omega)
  rw [nI_0] at r2
  have eq : ff (rdP s3) 0 4 = ff (fun j => gI t3 22 j 0 = 1) 0 4 := by
    refine ff_cg (fun m _ hm => ?_)
    show gI s3 3 1 m = 1 ↔ gI t3 22 m 0 = 1
    rw [a7.2.1.1.1 m (by omega)]
  rw [eq] at r1
  have e8 : gI s3 10 8 0 = nI n := a8.trans h1
  have e47 : gI t3 11 47 0 = nI (n + 1) := a9.trans h2
  have c1 : ∀ X, Rn g 109 28 [some (.inr (.inr (some (10, 0)))), none] [] s X ↔ Rn g 109 45 [some (.inr (.inr (some (10, 0)))), some (.inr (.inr (mk 3 (ff (fun j => gI t3 22 j 0 = 1) 0 4))))] [] s3 X := fun X => by
    simp only [e109_28, e109_29, e109_32, e109_33, e109_36, e109_37, e109_40, e109_41, e109_44, MM, MK, h.1.1, a2, a4, a7.1.1, a1, a3, a5, r1, Nat.zero_lt_one, exists_eq_left, List.nil_append, List.cons_append, List.append_nil]
  have c2 : ∀ X, Rn g 139 27 [some (.inr (.inr (some (11, 0)))), some (.inl (nI n)), none] [] t X ↔ Rn g 139 54 [some (.inr (.inr (some (11, 0)))), some (.inl (nI n)), some (.inl (oa (nI 4) (ff (fun j => gI t3 22 j 0 = 1) 0 4)))] [] t3 X := fun X => by
    rw [← r2 X]
    simp only [e139_27, e139_28, e139_31, e139_32, MM, MK, h.1.2.1, a6, Nat.zero_lt_one, exists_eq_left, List.nil_append, List.cons_append, List.append_nil]
  cases e : ff (fun j => gI t3 22 j 0 = 1) 0 4 with
  | none =>
    rw [e] at c1 c2
    have k := rl_idle (v := gI s3 10 10 0 + 1) a7
    have ek : gI t3 11 49 0 = gI s3 10 10 0 := a7.2.2.2.2.2.2.1.symm
    refine ⟨_, _, Q3, some (.inr (.inr none)), some (.inl (nI 4)), fun X => ?_, fun X => ?_, k, e8, e47⟩
    · rw [c1 X]
      simp [e109_45, e109_46, e109_49, e109_50, e109_51, e109_54, e109_55, e109_56, e109_59, MM, MK, a7.1.1]
    · rw [c2 X, oa_n]
      simp [e139_54, e139_55, e139_56, e139_59, e139_60, e139_61, e139_64, e139_65, e139_66, e139_69, MM, MK, a7.1.2.1, show nI 4 = 4 from rfl, ek]
  | some j =>
    rw [e] at c1 c2
    obtain ⟨y1, y2, y3, y4⟩ := ff_some e
    have hj : j < 4 := by omega
    obtain ⟨u1, out, u2, t4, r, Q4, w1, w2, w3, w4, w5, w6, w7, w8, w9⟩ := rel_work hg a7 hj y3 e8
    have hne : ¬ nI j = 4 := fun z => by have := (nI_eq (b := 4) (by omega) (by omega)).mp z; omega
    refine ⟨u2, _, Q4, some (.inr (.inr (some (3, j)))), some (.inl (nI j)), fun X => ?_, fun X => ?_, w7, w8, ?_⟩
    · rw [c1 X]
      simp [e109_45, e109_46, e109_49, e109_50, e109_51, e109_54, e109_55, e109_56, e109_59, e109_62, e109_63, e109_64, e109_65, e109_68, e109_69, e109_72, MM, MK, a7.1.1, w1, w2, w3]
    · rw [c2 X, oa_s]
      rcases w5 with rfl | rfl
      · rw [if_neg (show ¬ (0 : Int32) = 1 by decide)]
        simp [e139_54, e139_55, e139_56, e139_59, e139_60, e139_61, e139_64, e139_65, e139_66, e139_69, e139_72, e139_73, e139_74, e139_75, e139_78, MM, MK, a7.1.2.1, hne, w4]
      · rw [if_pos rfl]
        by_cases c : gI t4 11 48 0 - gI t4 11 48 0 / 64 * 64 = 0
        · rw [if_pos c]
          have rlk := fun X => r_look (g := g) (X := X) w6
          simp [e139_54, e139_55, e139_56, e139_59, e139_60, e139_61, e139_64, e139_65, e139_66, e139_69, e139_72, e139_73, e139_74, e139_75, e139_78, e139_81, e139_82, e139_85, e139_87, e139_88, e139_91, e139_92, MM, MK, a7.1.2.1, w6, hne, w4, c, rlk]
        · rw [if_neg c]
          simp [e139_54, e139_55, e139_56, e139_59, e139_60, e139_61, e139_64, e139_65, e139_66, e139_69, e139_72, e139_73, e139_74, e139_75, e139_78, e139_81, e139_82, e139_85, e139_87, e139_88, MM, MK, a7.1.2.1, w6, hne, w4, c]
    · have e4 : gI t4 11 47 0 = nI (n + 1) := w9.trans e47
      rcases w5 with rfl | rfl
      · rw [if_neg (show ¬ (0 : Int32) = 1 by decide)]
        exact e4
      · rw [if_pos rfl]
        split
        · rw [lkF_gI (by decide)]
          exact e4
        · exact e4
theorem rel_tick (hg : ∀ i, g 16 (i + 1) = g 16 i + 1) (h : Rl g s t nf B Q) (hB : B < 1900000000) {n : Nat} (hn : n < 2000000000) (h1 : gI s 10 8 0 = nI n) (h2 : gI t 11 47 0 = nI n) : ∃ s1 t1 Q1, (∀ X, Rn g 109 0 [some (.inr (.inr (some (10, 0)))), none] [] s X ↔ X = (s1, none)) ∧ (∀ X, Rn g 139 0 [some (.inr (.inr (some (11, 0)))), none, none] [] t X ↔ X = (t1, none)) ∧ Rl g s1 t1 nf (B + 2) Q1 ∧ gI s1 10 8 0 = nI (n + 1) ∧ gI t1 11 47 0 = nI (n + 1) := by
  obtain ⟨s1, t1, Q1, a1, a2, a3, a4, a5⟩ := tick_1 h hn h1 h2
  obtain ⟨s2, t2, Q2, z, z', b1, b2, b3, b4, b5⟩ := tick_2 hg a3 hB a4 a5
  have hm := m40 (n := n + 1) (by omega)
  by_cases c : (n + 1) % 40 = 0
  · obtain ⟨s3, t3, c1, c2, c3, c4, c5⟩ := rel_print b3 (by omega)
    have hz : nI ((n + 1) % 40) = 0 := (z_nI (by omega)).mpr c
    have e3 : gI s3 10 8 0 = nI n := c4.trans b4
    refine ⟨sI s3 10 8 0 (nI (n + 1)), t3, Q2, fun X => ?_, fun X => ?_, rl_108 c3, rfl, c5.trans b5⟩
    · rw [a1 X, b1 X]
      simp [e109_75, e109_76, e109_79, e109_80, e109_81, e109_83, e109_84, e109_87, e109_88, e109_91, e109_94, e109_95, e109_96, e109_99, e109_100, e109_101, e109_104, MM, MK, b3.1.1, c3.1.1, b4, nI_1, hm, hz, c1, e3]
    · rw [a2 X, b2 X]
      simp [e139_95, e139_96, e139_97, e139_98, e139_100, e139_101, e139_104, e139_105, e139_108, MM, MK, b3.1.2.1, nI_1, hm, hz, c2]
  · have hz : ¬ nI ((n + 1) % 40) = 0 := fun z => c ((z_nI (by omega)).mp z)
    refine ⟨sI s2 10 8 0 (nI (n + 1)), t2, Q2, fun X => ?_, fun X => ?_, rl_108 (rl_B (by omega) b3), rfl, b5⟩
    · rw [a1 X, b1 X]
      simp [e109_75, e109_76, e109_79, e109_80, e109_81, e109_83, e109_84, e109_87, e109_88, e109_91, e109_94, e109_95, e109_96, e109_99, e109_100, e109_101, e109_104, MM, MK, b3.1.1, b4, nI_1, hm, hz]
    · rw [a2 X, b2 X]
      simp [e139_95, e139_96, e139_97, e139_98, e139_100, e139_101, e139_104, e139_105, e139_108, MM, MK, b3.1.2.1, nI_1, hm, hz]
/-- a run of m ticks -/
theorem rel_ticks (hg : ∀ i, g 16 (i + 1) = g 16 i + 1) {w : Int32} {k : Nat} (hw : w = nI k) (hk : k ≤ 2000) : ∀ m i (s t : Sg) (B n : Nat) (Q : List Nat), i + m = k → Rl g s t nf B Q → B + 2 * m < 1900000000 → n + m < 2000000000 → gI s 10 8 0 = nI n → gI t 11 47 0 = nI n → ∃ s1 t1 Q1, (∀ X, Rn g 91 15 [some (.inr (.inr (some (10, 0)))), some (.inl w), some (.inl (nI i))] [] s X ↔ X = (s1, some (.inl (nI (n + m))))) ∧ (∀ X, Rn g 138 16 [some (.inr (.inr (some (11, 0)))), some (.inl w), some (.inl (nI i))] [] t X ↔ X = (t1, some (.inl (nI (n + m))))) ∧ Rl g s1 t1 nf (B + 2 * m) Q1 ∧ gI s1 10 8 0 = nI (n + m) ∧ gI t1 11 47 0 = nI (n + m)
  | 0, i, s, t, B, n, Q, hi, h, hB, hn, h1, h2 => by
    obtain rfl : i = k := by omega
    have hle : nI i ≤ nI i := nI_le (by omega) (by omega)
    refine ⟨s, t, Q, fun X => ?_, fun X => ?_, h, h1, h2⟩
    · simp [e91_15, e91_16, e91_17, e91_30, e91_31, e91_34, MM, MK, h.1.1, hw, hle, h1]
    · simp [e138_16, e138_17, e138_18, e138_31, e138_32, e138_35, MM, MK, h.1.2.1, hw, hle, h2]
  | m + 1, i, s, t, B, n, Q, hi, h, hB, hn, h1, h2 => by
    have hle : ¬ nI k ≤ nI i := nI_ge (by omega) (by omega)
    obtain ⟨s1, t1, Q1, a1, a2, a3, a4, a5⟩ := rel_tick hg h (by omega) (n := n) (by omega) h1 h2
    obtain ⟨s2, t2, Q2, b1, b2, b3, b4, b5⟩ := rel_ticks hg hw hk m (i + 1) s1 t1 (B + 2) (n + 1) Q1 (by omega) a3 (by omega) (by omega) a4 a5
    rw [show n + 1 + m = n + (m + 1) by omega] at b1 b2 b4 b5
    rw [show B + 2 + 2 * m = B + 2 * (m + 1) by omega] at b3
    subst hw
    refine ⟨s2, t2, Q2, fun X => ?_, fun X => ?_, b3, b4, b5⟩
    · simp only [e91_15, e91_16, e91_17, e91_20, e91_21, n91_24, MM, MK, h.1.1, hle, a1, if_true, if_false, Nat.zero_lt_one, exists_eq_left, List.nil_append, List.cons_append, List.append_nil]
      rw [e91_27, nI_1]
      exact b1 X
    · simp only [e138_16, e138_17, e138_18, e138_21, e138_22, n138_25, MM, MK, h.1.2.1, hle, a2, if_true, if_false, Nat.zero_lt_one, exists_eq_left, List.nil_append, List.cons_append, List.append_nil]
      rw [e138_28, nI_1]
      exact b2 X
end Tic1
