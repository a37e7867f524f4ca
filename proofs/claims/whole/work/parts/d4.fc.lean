/-! constructors: the class -/
/-- what the class's constructor leaves -/
def IC (s : Sg) (b nf l : Nat) : Prop := LC s nf ∧ (∀ c k e, gI s c k e = if c = 3 ∧ k = 0 ∧ e < 4 then nI e else if c = 3 ∧ k = 8 ∧ e < 4 then -1 else if c = 2 ∧ k = 0 ∧ e < nf then nI e else if c = 6 ∧ k = 0 ∧ e < 64 then nI e else if c = 4 ∧ k = 0 ∧ e < 64 then -1 else 0) ∧ (∀ c k e, gJ s c k e = 0) ∧ (gP s 1 3 0 = none ∧ gP s 1 4 0 = none ∧ (∀ k, gP s 4 2 k = none ∧ gP s 4 3 k = none ∧ gP s 4 4 k = none) ∧ (∀ f, gP s 2 4 f = none) ∧ ∀ j, gP s 3 11 j = none) ∧ cn s 16 = 0 ∧ sz s = b + 170 + nf ∧ sl s ≤ l + 10000
section Fc6
variable {s : Sg} {X : Sg × Option Av} {b nf l : Nat}
theorem FC_j0 {I : Nat → Nat → Nat → Int32} {P : Nat → Nat → Nat → Option Nat} {N : Nat → Nat} {L : Nat → Nat → Nat} {z : Nat} (f : FC s I P N L z l) (h3 : N 3 = 0) (h15 : N 15 = 0) (h9 : N 9 = 3) (h19 : N 19 = 3) : FC s (jI I 0) (jP P 0) (jN N 0) (jL L 0) (z + 6 * 0) (l + 849 * 0) := by
  refine FC_cg f (fun c k e => ?_) (fun c k e => ?_) (fun c => ?_) (fun c e _ => ?_) (by omega) (by omega)
  · unfold jI; rw [if_neg (by omega), if_neg (by omega)]
  · unfold jP; rw [if_neg (by omega), if_neg (by omega), if_neg (by omega), if_neg (by omega), if_neg (by omega)]
  · unfold jN
    by_cases c3 : c = 3
    · rw [if_pos c3, c3, h3]
    · by_cases c15 : c = 15
      · rw [if_neg c3, if_pos c15, c15, h15]
      · by_cases c9 : c = 9
        · rw [if_neg c3, if_neg c15, if_pos c9, c9, h9]
        · by_cases c19 : c = 19
          · rw [if_neg c3, if_neg c15, if_neg c9, if_pos c19, c19, h19]
          · rw [if_neg c3, if_neg c15, if_neg c9, if_neg c19]
  · unfold jL; rw [if_neg (by omega), if_neg (by omega)]
theorem nf_ex (w : Int32) : ∃ nf, 3 ≤ nf ∧ nf ≤ 16 ∧ (if (3 : Int32) < (if w < 16 then w else 16) then (if w < 16 then w else 16) else 3) = nI nf ∧ (if (3 : Int32) ≤ w then (if w ≤ 16 then w else 16) else 3) = nI nf := by
  have h16 : (16 : Int32) = nI 16 := rfl
  have h3 : (3 : Int32) = nI 3 := rfl
  by_cases c : w < 16
  · by_cases d : 3 < w
    · have t3 : (3 : Int32).toInt = 3 := by decide
      have t16 : (16 : Int32).toInt = 16 := by decide
      have e1 := Int32.lt_iff_toInt_lt.mp c
      have e2 := Int32.lt_iff_toInt_lt.mp d
      rw [t16] at e1
      rw [t3] at e2
      have e3 : w = nI w.toInt.toNat := by
        rw [← Int32.toInt_inj, nI_toInt (by omega)]
        omega
      refine ⟨w.toInt.toNat, by omega, by omega, ?_, ?_⟩
      · rw [if_pos c, if_pos d, ← e3]
      · rw [if_pos (by rw [Int32.le_iff_toInt_le, t3]; omega), if_pos (by rw [Int32.le_iff_toInt_le, t16]; omega), ← e3]
    · refine ⟨3, by omega, by omega, ?_, ?_⟩
      · rw [if_pos c, if_neg d]; rfl
      · by_cases e : 3 ≤ w
        · have e1 : w = 3 := by
            rw [Int32.le_iff_toInt_le] at e
            rw [Int32.lt_iff_toInt_lt] at d
            rw [← Int32.toInt_inj]
            omega
          rw [e1]; rfl
        · rw [if_neg e]; rfl
  · refine ⟨16, by omega, by omega, ?_, ?_⟩
    · rw [if_neg c]; rfl
    · have t3 : (3 : Int32).toInt = 3 := by decide
      have t16 : (16 : Int32).toInt = 16 := by decide
      rw [Int32.lt_iff_toInt_lt, t16] at c
      rw [if_pos (by rw [Int32.le_iff_toInt_le, t3]; omega)]
      by_cases e : w ≤ 16
      · have e1 : w = 16 := by
          rw [Int32.le_iff_toInt_le, t16] at e
          rw [← Int32.toInt_inj, t16]
          omega
        rw [e1]; rfl
      · rw [if_neg e]; rfl
set_option maxRecDepth 20000 in
theorem k_new {w : Int32} (h3 : 3 ≤ nf) (h16 : nf ≤ 16) (hw : (if (3 : Int32) < (if w < 16 then w else 16) then (if w < 16 then w else 16) else 3) = nI nf) (f : FC s (fun _ _ _ => 0) (fun _ _ _ => none) (fun c => if c = 10 then 1 else 0) (fun _ _ => 0) (b + 1) l) : ∃ s', (∀ X, Rn (gC b nf) 86 0 [oC, some (.inl w), none] [] s X ↔ X = (s', none)) ∧ IC s' b nf l := by
  -- the tray
  have e10 : cn s 10 = 1 := by rw [FC_cn f]; rfl
  have e9 : cn s 9 = 0 := by rw [FC_cn f]; rfl
  have ez : sz s = gC b nf 9 0 := by rw [FC_sz f]; rfl
  obtain ⟨s1, r1, f1⟩ := k_row (g := gC b nf) (i := 0) (w := 1000) (m := 1000) (FC_nw (c := 9) (n := 3) f (by omega)) (by rw [uM_c]; omega) rfl (by omega) (by omega) rfl
  have f1 := FC_sP (c := 10) (k := 0) (i := 0) (v := some 0) f1 (show 0 < 1 by omega)
  obtain ⟨u1, hu1⟩ : ∃ q, q = sP s1 10 0 0 (some 0) := ⟨_, rfl⟩
  rw [← hu1] at f1
  have d1 : cn s1 10 = 1 := by have := FC_cn f1 10; rw [hu1] at this; exact this
  have a1 : ∀ X, Rn (gC b nf) 86 0 [oC, some (.inl w), none] [] s X ↔ Rn (gC b nf) 86 18 [oC, some (.inl w), none] [] u1 X := fun X => by
    rw [hu1]
    simp only [e86_0, e86_1, e86_4, e86_5, e86_8, e86_9, e86_12, e86_15, e86_15s, e86_15sm, MM, MK, e10, e9, ez, d1, r1, if_true, if_false, Nat.zero_lt_one, exists_eq_left, List.nil_append, List.cons_append, List.append_nil]
  clear e10 e9 ez r1 d1
  -- what was chosen
  have e10 : cn u1 10 = 1 := by rw [FC_cn f1]; rfl
  have e9 : cn u1 9 = 1 := by rw [FC_cn f1]; rfl
  have ez : sz u1 = gC b nf 9 1 := by rw [FC_sz f1]; rfl
  obtain ⟨s2, r2, f2⟩ := k_row (g := gC b nf) (i := 1) (w := 64) (m := 64) (FC_nw (c := 9) (n := 3) f1 (by omega)) (show 1 < 2 by omega) rfl (by omega) (by omega) rfl
  have f2 := FC_sP (c := 10) (k := 1) (i := 0) (v := some 1) f2 (show 0 < 1 by omega)
  obtain ⟨u2, hu2⟩ : ∃ q, q = sP s2 10 1 0 (some 1) := ⟨_, rfl⟩
  rw [← hu2] at f2
  have d1 : cn s2 10 = 1 := by have := FC_cn f2 10; rw [hu2] at this; exact this
  have a2 : ∀ X, Rn (gC b nf) 86 18 [oC, some (.inl w), none] [] u1 X ↔ Rn (gC b nf) 86 31 [oC, some (.inl w), none] [] u2 X := fun X => by
    rw [hu2]
    simp only [e86_18, e86_19, e86_22, e86_23, e86_25, e86_28, e86_28s, e86_28sm, MM, MK, e10, e9, ez, d1, r2, if_true, if_false, Nat.zero_lt_one, exists_eq_left, List.nil_append, List.cons_append, List.append_nil]
  clear e10 e9 ez r2 d1
  -- the jobs' row
  have e10 : cn u2 10 = 1 := by rw [FC_cn f2]; rfl
  have e9 : cn u2 20 = 0 := by rw [FC_cn f2]; rfl
  have ez : sz u2 = gC b nf 20 0 := by rw [FC_sz f2]; rfl
  have f3 := FC_sP (c := 10) (k := 2) (i := 0) (v := some 0) (FC_nwA (c := 20) (n := 4) f2) (show 0 < 1 by omega)
  obtain ⟨u3, hu3⟩ : ∃ q, q = sP (nw u2 20 4) 10 2 0 (some 0) := ⟨_, rfl⟩
  rw [← hu3] at f3
  have a3 : ∀ X, Rn (gC b nf) 86 31 [oC, some (.inl w), none] [] u2 X ↔ Rn (gC b nf) 86 39 [oC, some (.inl w), none] [] u3 X := fun X => by
    rw [hu3]
    simp only [e86_31, e86_32, e86_33, e86_36, e86_36s, e86_36sm, MM, MK, e10, e9, ez, c4', not_false_eq_true, show (4 : Nat) ≤ 65536 by omega, if_true, if_false, Nat.zero_lt_one, show ¬ (10 : Nat) = 20 by omega]
  clear e10 e9 ez
  -- the pages
  have e10 : cn u3 10 = 1 := by rw [FC_cn f3]; rfl
  have e9 : cn u3 5 = 0 := by rw [FC_cn f3]; rfl
  have ez : sz u3 = gC b nf 5 0 := by rw [FC_sz f3]; rfl
  obtain ⟨s4, r4, f4⟩ := k_pages (g := gC b nf) (FC_nw (c := 5) (n := 1) f3 (by omega)) rfl rfl rfl rfl (fun i hi => rfl)
  have f4 := FC_sP (c := 10) (k := 3) (i := 0) (v := some 0) f4 (show 0 < 1 by omega)
  obtain ⟨u4, hu4⟩ : ∃ q, q = sP s4 10 3 0 (some 0) := ⟨_, rfl⟩
  rw [← hu4] at f4
  have d1 : cn s4 10 = 1 := by have := FC_cn f4 10; rw [hu4] at this; exact this
  have a4 : ∀ X, Rn (gC b nf) 86 39 [oC, some (.inl w), none] [] u3 X ↔ Rn (gC b nf) 86 50 [oC, some (.inl w), none] [] u4 X := fun X => by
    rw [hu4]
    simp only [e86_39, e86_40, e86_43, e86_44, e86_47, e86_47s, e86_47sm, MM, MK, e10, e9, ez, d1, r4, if_true, if_false, Nat.zero_lt_one, exists_eq_left, List.nil_append, List.cons_append, List.append_nil]
  clear e10 e9 ez r4 d1
  -- the drum
  have e10 : cn u4 10 = 1 := by rw [FC_cn f4]; rfl
  have e9 : cn u4 1 = 0 := by rw [FC_cn f4]; rfl
  have ez : sz u4 = gC b nf 1 0 := by rw [FC_sz f4]; rfl
  obtain ⟨s5, r5, f5⟩ := k_drum (g := gC b nf) (FC_nw (c := 1) (n := 8) f4 (by omega)) rfl rfl rfl rfl rfl rfl (fun i hi => rfl)
  have f5 := FC_sP (c := 10) (k := 5) (i := 0) (v := some 0) f5 (show 0 < 1 by omega)
  obtain ⟨u5, hu5⟩ : ∃ q, q = sP s5 10 5 0 (some 0) := ⟨_, rfl⟩
  rw [← hu5] at f5
  have d1 : cn s5 10 = 1 := by have := FC_cn f5 10; rw [hu5] at this; exact this
  have a5 : ∀ X, Rn (gC b nf) 86 50 [oC, some (.inl w), none] [] u4 X ↔ Rn (gC b nf) 86 61 [oC, some (.inl w), none] [] u5 X := fun X => by
    rw [hu5]
    simp only [e86_50, e86_51, e86_54, e86_55, e86_58, e86_58s, e86_58sm, MM, MK, e10, e9, ez, d1, r5, if_true, if_false, Nat.zero_lt_one, exists_eq_left, List.nil_append, List.cons_append, List.append_nil]
  clear e10 e9 ez r5 d1
  -- the printer
  have e10 : cn u5 10 = 1 := by rw [FC_cn f5]; rfl
  have e9 : cn u5 7 = 0 := by rw [FC_cn f5]; rfl
  have ez : sz u5 = gC b nf 7 0 := by rw [FC_sz f5]; rfl
  obtain ⟨s6, r6, f6⟩ := k_prn (g := gC b nf) (FC_nw (c := 7) (n := 4) f5 (by omega)) rfl rfl rfl rfl rfl
  have f6 := FC_sP (c := 10) (k := 6) (i := 0) (v := some 0) f6 (show 0 < 1 by omega)
  obtain ⟨u6, hu6⟩ : ∃ q, q = sP s6 10 6 0 (some 0) := ⟨_, rfl⟩
  rw [← hu6] at f6
  have d1 : cn s6 10 = 1 := by have := FC_cn f6 10; rw [hu6] at this; exact this
  have a6 : ∀ X, Rn (gC b nf) 86 61 [oC, some (.inl w), none] [] u5 X ↔ Rn (gC b nf) 86 72 [oC, some (.inl w), none] [] u6 X := fun X => by
    rw [hu6]
    simp only [e86_61, e86_62, e86_65, e86_66, e86_69, e86_69s, e86_69sm, MM, MK, e10, e9, ez, d1, r6, if_true, if_false, Nat.zero_lt_one, exists_eq_left, List.nil_append, List.cons_append, List.append_nil]
  clear e10 e9 ez r6 d1
  -- the core
  have e10 : cn u6 10 = 1 := by rw [FC_cn f6]; rfl
  have e9 : cn u6 0 = 0 := by rw [FC_cn f6]; rfl
  have ez : sz u6 = gC b nf 0 0 := by rw [FC_sz f6]; rfl
  obtain ⟨s7, r7, f7⟩ := k_core (g := gC b nf) h3 h16 (FC_nw (c := 0) (n := 1) f6 (by omega)) rfl rfl rfl rfl (fun i hi => rfl)
  have f7 := FC_sP (c := 10) (k := 4) (i := 0) (v := some 0) f7 (show 0 < 1 by omega)
  obtain ⟨u7, hu7⟩ : ∃ q, q = sP s7 10 4 0 (some 0) := ⟨_, rfl⟩
  rw [← hu7] at f7
  have d1 : cn s7 10 = 1 := by have := FC_cn f7 10; rw [hu7] at this; exact this
  have a7 : ∀ X, Rn (gC b nf) 86 72 [oC, some (.inl w), none] [] u6 X ↔ Rn (gC b nf) 86 93 [oC, some (.inl w), none] [] u7 X := fun X => by
    rw [hu7]
    simp only [e86_72, e86_73, e86_76, e86_77, e86_78, e86_80, e86_81, e86_84, e86_87, e86_90, e86_90s, e86_90sm, MM, MK, e10, e9, ez, d1, hw, r7, if_true, if_false, Nat.zero_lt_one, exists_eq_left, List.nil_append, List.cons_append, List.append_nil]
  clear e10 e9 ez r7 d1
  -- the processor
  have e10 : cn u7 10 = 1 := by rw [FC_cn f7]; rfl
  have e9 : cn u7 8 = 0 := by rw [FC_cn f7]; rfl
  have ez : sz u7 = gC b nf 8 0 := by rw [FC_sz f7]; simp only [gC]; simp
  have p4 : gP u7 10 4 0 = some 0 := by rw [FC_gP f7]; rfl
  have p3 : gP u7 10 3 0 = some 0 := by rw [FC_gP f7]; rfl
  obtain ⟨s8, r8, f8⟩ := k_proc (g := gC b nf) (FC_nw (c := 8) (n := 8) f7 (by omega)) rfl
  have f8 := FC_sP (c := 10) (k := 7) (i := 0) (v := some 0) f8 (show 0 < 1 by omega)
  obtain ⟨u8, hu8⟩ : ∃ q, q = sP s8 10 7 0 (some 0) := ⟨_, rfl⟩
  rw [← hu8] at f8
  have d1 : cn s8 10 = 1 := by have := FC_cn f8 10; rw [hu8] at this; exact this
  have a8 : ∀ X, Rn (gC b nf) 86 93 [oC, some (.inl w), none] [] u7 X ↔ Rn (gC b nf) 86 114 [oC, some (.inl w), some (.inl 0)] [] u8 X := fun X => by
    rw [hu8]
    simp only [e86_93, e86_94, e86_97, e86_98, e86_99, e86_102, e86_103, e86_106, e86_109, e86_109s, e86_109sm, e86_112, e86_113, MM, MK, e10, e9, ez, d1, p3, p4, r8, if_true, if_false, Nat.zero_lt_one, exists_eq_left, List.nil_append, List.cons_append, List.append_nil, show ¬ (10 : Nat) = 8 by omega, false_and]
  clear e10 e9 ez r8 d1 p3 p4
  -- the jobs
  have f9 := FC_j0 (FC_cg (z' := b + 146 + nf) (l' := l + 2223 + 10 * nf) f8 (fun _ _ _ => rfl) (fun _ _ _ => rfl) (fun _ => rfl) (fun _ _ _ => rfl) (by omega) (by omega)) (by rfl) (by rfl) (by rfl) (by rfl)
  obtain ⟨s', r9, f10⟩ := k_jobs_l (g := gC b nf) (w := w) (by rfl) (by rfl) (by rfl) (by rfl) (fun i hi => by
    unfold gC
    refine ⟨?_, ?_, ?_, ?_, ?_, ?_⟩ <;> rcases (show i = 0 ∨ i = 1 ∨ i = 2 ∨ i = 3 by omega) with q | q | q | q <;> subst q <;> simp <;> omega) 4 0 _ (by omega) f9
  rw [nI_0] at r9
  refine ⟨s', fun X => by rw [a1, a2, a3, a4, a5, a6, a7, a8, r9], ?_⟩
  have hN := FC_cn f10
  have hP := FC_gP f10
  have hL := FC_ln f10
  refine ⟨⟨⟨h3, h16⟩, ⟨?_, ?_, ?_, ?_, ?_, ?_, ?_, ?_, ?_, ?_, ?_, ?_, ?_, ?_, ?_, ?_, ?_, ?_, ?_⟩, ⟨?_, ?_, ?_, ?_, ?_, ?_, ?_, ?_, ?_, ?_, ?_, ?_, ?_, ?_, ?_, ?_⟩, ⟨?_, ?_, ?_, ?_, ?_, ?_⟩, ⟨?_, ?_, ?_, ?_, ?_, ?_⟩, ⟨?_, ?_⟩, ⟨?_, ?_, ?_⟩, ⟨?_, ?_⟩, ⟨?_, ?_⟩⟩, ?_, f10.2.1, ⟨?_, ?_, ?_, ?_, ?_⟩, ?_, ?_, ?_⟩
  · rw [hN]; rfl
  · rw [hN]; rfl
  · rw [hN]; rfl
  · rw [hN]; rfl
  · rw [hN]; rfl
  · rw [hN]; rfl
  · rw [hN]; rfl
  · rw [hN]; rfl
  · rw [hN]; rfl
  · rw [hN]; rfl
  · rw [hN]; rfl
  · rw [hN]; rfl
  · rw [hN]; rfl
  · rw [hN]; rfl
  · rw [hN]; rfl
  · rw [hN]; rfl
  · rw [hN]; rfl
  · rw [hN]; rfl
  · rw [hN]; rfl
  · rw [hP]; rfl
  · rw [hP]; rfl
  · rw [hP]; rfl
  · rw [hP]; rfl
  · rw [hP]; rfl
  · rw [hP]; rfl
  · rw [hP]; rfl
  · rw [hP]; rfl
  · rw [hP]; rfl
  · rw [hP]; rfl
  · rw [hP]; rfl
  · rw [hP]; rfl
  · rw [hP]; rfl
  · rw [hP]; rfl
  · rw [hP]; rfl
  · rw [hP]; rfl
  · rw [hL _ _ (by omega)]; rfl
  · rw [hL _ _ (by omega)]; rfl
  · rw [hL _ _ (by omega)]; rfl
  · rw [hL _ _ (by omega)]; rfl
  · rw [hL _ _ (by omega)]; rfl
  · rw [hL _ _ (by omega)]; rfl
  · intro j hj; rw [hP]; simp [jP, hj]
  · intro j hj; rw [hP]; simp [jP, hj]
  · intro j hj; rw [hP]; simp [jP, hj]
  · intro j hj; rw [FC_gI f10]; simp [jI, hj]
  · intro j hj; rw [hL _ _ (by omega)]; simp [jL, hj]
  · intro j hj; rw [hP]; simp [jP, hj]
  · intro j hj; rw [hP]; simp [jP, uP, hj]
  · intro j hj; rw [FC_gI f10]; simp [jI, hj]
  · intro j hj; rw [hP]; simp [jP, uP, hj]
  · intro j hj; rw [hP]; simp [jP, uP, hj]
  · intro j hj; rw [FC_gI f10]; simp [jI, hj]
  · intro r hr
    rw [hP]
    rcases (show r = 0 ∨ r = 1 ∨ r = 2 ∨ 3 ≤ r by omega) with q | q | q | q
    · subst q; rfl
    · subst q; rfl
    · subst q; rfl
    · unfold jP
      rw [if_neg (by omega), if_neg (by omega), if_neg (by omega), if_neg (by omega), if_pos ⟨rfl, rfl, q, by omega⟩]
  · intro r hr
    rw [hL _ _ (by omega)]
    rcases (show r = 0 ∨ r = 1 ∨ r = 2 ∨ 3 ≤ r by omega) with q | q | q | q
    · subst q; rfl
    · subst q; rfl
    · subst q; rfl
    · have c1 : cap r = if r % 2 = 1 then 500 else 200 := by unfold cap; rw [if_neg (by omega), if_neg (by omega), if_neg (by omega)]
      rw [c1]
      unfold jL
      rw [if_neg (by omega), if_pos ⟨rfl, q, by omega⟩]
  · rw [hN]; exact Nat.zero_le _
  · intro i hi
    rw [hN] at hi
    exact absurd hi (Nat.not_lt_zero i)
  · intro c k e
    rw [FC_gI f10]
    rfl
  · rw [hP]; rfl
  · rw [hP]; rfl
  · intro k
    refine ⟨?_, ?_, ?_⟩ <;> rw [hP] <;> simp [jP, uP]
  · intro f
    rw [hP]; simp [jP, uP]
  · intro j
    rw [hP]; simp [jP, uP]
  · rw [hN]; rfl
  · rw [FC_sz f10]; omega
  · rw [f10.2.2.2.2.2.1.2]; omega
end Fc6
