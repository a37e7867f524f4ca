/-! frames for waiting jobs -/
section Fin1
variable {g : Nat → Nat → Nat} {s t u : Sg} {X : Sg × Option Av} {nf B : Nat} {Q : List Nat}
theorem lk_low (h : Rl g s t nf B Q) : lowF s nf 0 = empF t nf := by
  unfold lowF empF
  refine ff_cg (fun m _ hm => ?_)
  have := h.2.2.1.1.1 m (by omega)
  show gI s 2 1 m = 0 ↔ gI t 42 m 0 = 0
  rw [this]
theorem c_findFrame_0 (h : LC s nf) {j k : Nat} (hl : lowF s nf 0 = none) : Rn g 112 0 [some (.inr (.inr (some (10, 0)))), some (.inr (.inr (some (3, j)))), some (.inr (.inr (some (4, k)))), none] [] s X ↔ X = (s, none) := by
  have r1 := fun X => c_lowest (g := g) (X := X) h 0
  rw [hl] at r1
  simp [Q112, MM, MK, h, r1]
theorem c_findFrame_1 (h : LC s nf) {j k f : Nat} (hj : j < 4) (hk : k < 64) (hl : lowF s nf 0 = some f) (hp : gP s 4 3 k = none) : Rn g 112 0 [some (.inr (.inr (some (10, 0)))), some (.inr (.inr (some (3, j)))), some (.inr (.inr (some (4, k)))), none] [] s X ↔ X = (sP (sI (ftkF s f k 1) 3 1 j 1) 3 11 j none, none) := by
  have r1 := fun X => c_lowest (g := g) (X := X) h 0
  rw [hl] at r1
  have hf : f < nf := by have := (ff_some hl).2.1; omega
  have r2 := fun X => c_frameTake (g := g) (X := X) (st := 1) h hf hk
  have r3 := fun X => c_wake (g := g) (X := X) (ftk_LC (f := f) (k := k) (v := 1) h) hj
  have h2 := ftk_LC (f := f) (k := k) (v := 1) h
  simp [Q112, MM, MK, h, h2, hf, hj, hk, hp, r1, r2, r3]
theorem c_findFrame_2 (h : LC s nf) {j k f p q : Nat} (hj : j < 4) (hk : k < 64) (hl : lowF s nf 0 = some f) (hp : gP s 4 3 k = some p) (hq : QC s nf q) (hq16 : q < 16) : Rn g 112 0 [some (.inr (.inr (some (10, 0)))), some (.inr (.inr (some (3, j)))), some (.inr (.inr (some (4, k)))), none] [] s X ↔ X = (sI (sP (ftkF s f k 2) 14 q 0 (some f)) 1 2 0 (nI (q + 1)), none) := by
  have r1 := fun X => c_lowest (g := g) (X := X) h 0
  rw [hl] at r1
  have hf : f < nf := by have := (ff_some hl).2.1; omega
  have r2 := fun X => c_frameTake (g := g) (X := X) (st := 2) h hf hk
  have h2 := ftk_LC (f := f) (k := k) (v := 2) h
  have hq2 : QC (ftkF s f k 2) nf q := hq
  have r3 := fun X => c_enqueue (g := g) (X := X) h2 hq2 hq16 hf
  simp [Q112, MM, MK, h, h2, hf, hj, hk, hp, r1, r2, r3]
/-- one round of the class's loop, given what findFrame does -/
theorem c_find_s (h : LC s nf) {i k : Nat} (hi : i < 4) {s1 : Sg} (hs : gI s 3 1 i = 2) (hk : gP s 3 11 i = some k) (hk64 : k < 64) (hf : gP s 4 2 k = none) (hr : ∀ X, Rn g 112 0 [some (.inr (.inr (some (10, 0)))), some (.inr (.inr (some (3, i)))), some (.inr (.inr (some (4, k)))), none] [] s X ↔ X = (s1, none)) (z : Option Av) : Rn g 111 2 [some (.inr (.inr (some (10, 0)))), some (.inl (nI i)), z] [] s X ↔ Rn g 111 2 [some (.inr (.inr (some (10, 0)))), some (.inl (nI (i + 1))), some (.inr (.inr (some (3, i))))] [] s1 X := by
  have h1 : ¬ nI 4 ≤ nI i := nI_ge (by omega) (by omega)
  obtain ⟨P, hP⟩ : ∃ P, P = Rn g 111 2 [some (.inr (.inr (some (10, 0)))), some (.inl (nI (i + 1))), some (.inr (.inr (some (3, i))))] [] s1 X := ⟨_, rfl⟩
  rw [← hP]
  simp [Q111, II, MM, MK, h, ofN, h1, hi, inN hi, hs, hk, hk64, hf, hr]
  rw [e111_55, nI_1, hP]
theorem c_find_n (h : LC s nf) {i : Nat} (hi : i < 4) (hn : ¬ gI s 3 1 i = 2 ∨ (∃ k, gP s 3 11 i = some k ∧ k < 64 ∧ ¬ gP s 4 2 k = none)) (z : Option Av) : Rn g 111 2 [some (.inr (.inr (some (10, 0)))), some (.inl (nI i)), z] [] s X ↔ Rn g 111 2 [some (.inr (.inr (some (10, 0)))), some (.inl (nI (i + 1))), some (.inr (.inr (some (3, i))))] [] s X := by
  have h1 : ¬ nI 4 ≤ nI i := nI_ge (by omega) (by omega)
  obtain ⟨P, hP⟩ : ∃ P, P = Rn g 111 2 [some (.inr (.inr (some (10, 0)))), some (.inl (nI (i + 1))), some (.inr (.inr (some (3, i))))] [] s X := ⟨_, rfl⟩
  rw [← hP]
  by_cases a1 : gI s 3 1 i = 2
  · rcases hn with q | ⟨k, e1, e2, e3⟩
    · exact absurd a1 q
    · cases e : gP s 4 2 k with
      | none => exact absurd e e3
      | some f =>
        simp [Q111, II, MM, MK, h, ofN, h1, hi, inN hi, a1, e1, e2, e]
        rw [e111_55, nI_1, hP]
  · simp [Q111, II, MM, MK, h, ofN, h1, hi, inN hi, a1]
    rw [e111_55, nI_1, hP]
theorem r_find_n (h : LR t nf) {i : Nat} (hi : i < 4) (hn : ¬ gI t 22 i 0 = 2 ∨ (∃ f, frmF t nf (nI i) (gI t 25 i 0) = some f)) (z : Option Av) : Rn g 145 64 [some (.inr (.inr (some (11, 0)))), some (.inl (nI i)), z] [] t X ↔ Rn g 145 64 [some (.inr (.inr (some (11, 0)))), some (.inl (nI (i + 1))), z] [] t X := by
  obtain ⟨P, hP⟩ : ∃ P, P = Rn g 145 64 [some (.inr (.inr (some (11, 0)))), some (.inl (nI (i + 1))), z] [] t X := ⟨_, rfl⟩
  rw [← hP]
  have h1 : ¬ (4 : Int32) ≤ nI i := nI_ge (b := 4) (by omega) (by decide)
  by_cases a1 : gI t 22 i 0 = 2
  · rcases hn with q | ⟨f, e⟩
    · exact absurd a1 q
    · have r1 := fun X => r_frameOf (g := g) (X := X) h (nI i) (gI t 25 i 0)
      rw [e] at r1
      have hf : f < nf := by have := (ff_some e).2.1; omega
      have hnf : nf ≤ 16 := h.1.2.2.2
      have hm : ¬ nI f < 0 := nI_pos (by omega)
      simp [e145_64, e145_65, e145_66, e145_69, e145_70, e145_73, e145_74, e145_75, e145_76, e145_79, e145_80, e145_81, e145_82, e145_85, e145_86, e145_87, e145_90, e145_93, n145_174, MM, MK, h, h1, inN hi, a1, r1, oi_s, hm]
      rw [e145_177, nI_1, hP]
  · simp [e145_64, e145_65, e145_66, e145_69, e145_70, e145_73, e145_74, e145_75, e145_76, e145_79, e145_80, e145_81, e145_82, e145_85, e145_86, e145_87, e145_90, e145_93, n145_174, MM, MK, h, h1, inN hi, a1]
    rw [e145_177, nI_1, hP]
theorem r_find_0 (h : LR t nf) {i : Nat} (hi : i < 4) (hs : gI t 22 i 0 = 2) (hn : frmF t nf (nI i) (gI t 25 i 0) = none) (he : empF t nf = none) (z : Option Av) : Rn g 145 64 [some (.inr (.inr (some (11, 0)))), some (.inl (nI i)), z] [] t X ↔ Rn g 145 64 [some (.inr (.inr (some (11, 0)))), some (.inl (nI (i + 1))), some (.inl (-1))] [] t X := by
  obtain ⟨P, hP⟩ : ∃ P, P = Rn g 145 64 [some (.inr (.inr (some (11, 0)))), some (.inl (nI (i + 1))), some (.inl (-1))] [] t X := ⟨_, rfl⟩
  rw [← hP]
  have h1 : ¬ (4 : Int32) ≤ nI i := nI_ge (b := 4) (by omega) (by decide)
  have r1 := fun X => r_frameOf (g := g) (X := X) h (nI i) (gI t 25 i 0)
  rw [hn] at r1
  have r2 := fun X => r_emptyFrame (g := g) (X := X) h
  rw [he] at r2
  have m1 : (-1 : Int32) < 0 := by decide
  have m2 : ¬ (0 : Int32) ≤ -1 := by decide
  simp [e145_64, e145_65, e145_66, e145_69, e145_70, e145_73, e145_74, e145_75, e145_76, e145_79, e145_80, e145_81, e145_82, e145_85, e145_86, e145_87, e145_90, e145_93, e145_96, e145_97, e145_100, e145_101, e145_102, e145_105, n145_174, MM, MK, h, h1, inN hi, hs, r1, r2, oi_n, m1, m2]
  rw [e145_177, nI_1, hP]
theorem r_find_1 (h : LR t nf) {i f : Nat} (hi : i < 4) (hs : gI t 22 i 0 = 2) (hn : frmF t nf (nI i) (gI t 25 i 0) = none) (he : empF t nf = some f) (hp : plcF (cmR t f i (gI t 25 i 0)) (nI i) (gI t 25 i 0) = none) (z : Option Av) : Rn g 145 64 [some (.inr (.inr (some (11, 0)))), some (.inl (nI i)), z] [] t X ↔ Rn g 145 64 [some (.inr (.inr (some (11, 0)))), some (.inl (nI (i + 1))), some (.inl (nI f))] [] (rdyF (cmR t f i (gI t 25 i 0)) i) X := by
  obtain ⟨P, hP⟩ : ∃ P, P = Rn g 145 64 [some (.inr (.inr (some (11, 0)))), some (.inl (nI (i + 1))), some (.inl (nI f))] [] (rdyF (cmR t f i (gI t 25 i 0)) i) X := ⟨_, rfl⟩
  rw [← hP]
  have h1 : ¬ (4 : Int32) ≤ nI i := nI_ge (b := 4) (by omega) (by decide)
  have r1 := fun X => r_frameOf (g := g) (X := X) h (nI i) (gI t 25 i 0)
  rw [hn] at r1
  have r2 := fun X => r_emptyFrame (g := g) (X := X) h
  rw [he] at r2
  have m1 : (-1 : Int32) < 0 := by decide
  have m2 : ¬ (0 : Int32) ≤ -1 := by decide
  have hf : f < nf := by have := (ff_some he).2.1; omega
  have hnf : nf ≤ 16 := h.1.2.2.2
  have m3 : (0 : Int32) ≤ nI f := by rw [i32_le]; exact nI_pos (by omega)
  have hM : LR (sI (sI t 43 f 0 (nI i)) 44 f 0 (gI t 25 i 0)) nf := LR_sI (by omega) (LR_sI (by omega) h)
  have r3 := fun X => r_comes (g := g) (X := X) hM (show f < 16 by omega)
  have hC := cm_LR (f := f) (j := i) (b := gI t 25 i 0) h
  have r4 := fun X => r_placeOf (g := g) (X := X) hC (nI i) (gI t 25 i 0)
  rw [hp] at r4
  have r5 := fun X => r_ready (g := g) (X := X) hC hi
  have e25 : gI (cmR t f i (gI t 25 i 0)) 25 i 0 = gI t 25 i 0 := rfl
  unfold cmR at hC r4 r5 e25 hP
  simp [e145_64, e145_65, e145_66, e145_69, e145_70, e145_73, e145_74, e145_75, e145_76, e145_79, e145_80, e145_81, e145_82, e145_85, e145_86, e145_87, e145_90, e145_93, e145_96, e145_97, e145_100, e145_101, e145_102, e145_105, e145_108, e145_109, e145_112, e145_113, e145_114, e145_115, e145_116, e145_119, e145_120, e145_121, e145_124, e145_125, e145_126, e145_127, e145_128, e145_129, e145_132, e145_133, e145_134, e145_135, e145_138, e145_139, e145_140, e145_143, e145_146, e145_147, e145_148, e145_151, n145_174, MM, MK, h, hC, h1, inN hi, inN (show f < 16 by omega), hs, r1, r2, r3, r4, r5, e25, oi_n, oi_s, m1, m2, m3]
  rw [e145_177, nI_1, hP]
theorem r_find_2 (h : LR t nf) {i f p q : Nat} (hi : i < 4) (hs : gI t 22 i 0 = 2) (hn : frmF t nf (nI i) (gI t 25 i 0) = none) (he : empF t nf = some f) (hp : plcF (cmR t f i (gI t 25 i 0)) (nI i) (gI t 25 i 0) = some p) (hq : gI t 11 42 0 = nI q) (hq32 : q < 32) (z : Option Av) : Rn g 145 64 [some (.inr (.inr (some (11, 0)))), some (.inl (nI i)), z] [] t X ↔ Rn g 145 64 [some (.inr (.inr (some (11, 0)))), some (.inl (nI (i + 1))), some (.inl (nI f))] [] (cgR t f i (gI t 25 i 0) q) X := by
  obtain ⟨P, hP⟩ : ∃ P, P = Rn g 145 64 [some (.inr (.inr (some (11, 0)))), some (.inl (nI (i + 1))), some (.inl (nI f))] [] (cgR t f i (gI t 25 i 0) q) X := ⟨_, rfl⟩
  rw [← hP]
  have h1 : ¬ (4 : Int32) ≤ nI i := nI_ge (b := 4) (by omega) (by decide)
  have r1 := fun X => r_frameOf (g := g) (X := X) h (nI i) (gI t 25 i 0)
  rw [hn] at r1
  have r2 := fun X => r_emptyFrame (g := g) (X := X) h
  rw [he] at r2
  have m1 : (-1 : Int32) < 0 := by decide
  have hf : f < nf := by have := (ff_some he).2.1; omega
  have hp2 : p < 64 := by have := (ff_some hp).2.1; omega
  have hnf : nf ≤ 16 := h.1.2.2.2
  have m3 : (0 : Int32) ≤ nI f := by rw [i32_le]; exact nI_pos (by omega)
  have m4 : (0 : Int32) ≤ nI p := by rw [i32_le]; exact nI_pos (by omega)
  have hM : LR (sI (sI t 43 f 0 (nI i)) 44 f 0 (gI t 25 i 0)) nf := LR_sI (by omega) (LR_sI (by omega) h)
  have r3 := fun X => r_comes (g := g) (X := X) hM (show f < 16 by omega)
  have hC := cm_LR (f := f) (j := i) (b := gI t 25 i 0) h
  have r4 := fun X => r_placeOf (g := g) (X := X) hC (nI i) (gI t 25 i 0)
  rw [hp] at r4
  have hD : LR (sI (sI (cmR t f i (gI t 25 i 0)) 42 f 0 2) 48 f 0 0) nf := LR_sI (by omega) (LR_sI (by omega) hC)
  have r5 := fun X => r_queues (g := g) (X := X) (f := nI f) (w := 0) hD (q := q) hq hq32
  have e25 : gI (cmR t f i (gI t 25 i 0)) 25 i 0 = gI t 25 i 0 := rfl
  unfold cgR at hP
  unfold cmR at hC r4 r5 e25 hP
  simp [e145_64, e145_65, e145_66, e145_69, e145_70, e145_73, e145_74, e145_75, e145_76, e145_79, e145_80, e145_81, e145_82, e145_85, e145_86, e145_87, e145_90, e145_93, e145_96, e145_97, e145_100, e145_101, e145_102, e145_105, e145_108, e145_109, e145_112, e145_113, e145_114, e145_115, e145_116, e145_119, e145_120, e145_121, e145_124, e145_125, e145_126, e145_127, e145_128, e145_129, e145_132, e145_133, e145_134, e145_135, e145_138, e145_139, e145_140, e145_143, e145_154, e145_155, e145_158, e145_159, e145_160, e145_161, e145_162, e145_165, e145_166, e145_167, e145_168, e145_169, e145_170, e145_171, n145_174, MM, MK, h, hC, h1, inN hi, inN (show f < 16 by omega), hs, r1, r2, r3, r4, r5, e25, oi_n, oi_s, m1, m3, m4]
  rw [e145_177, nI_1, hP]
theorem plc_cm {f i : Nat} {a b x : Int32} : plcF (cmR t f i x) a b = plcF t a b := by
  unfold plcF
  exact ff_cg (fun m _ _ => Iff.rfl)
theorem rel_find1 (h : Rl g s t nf B Q) {i : Nat} (hi : i < 4) : ∃ s1 t1 Q1, (∀ z, ∃ z', ∀ X, Rn g 111 2 [some (.inr (.inr (some (10, 0)))), some (.inl (nI i)), z] [] s X ↔ Rn g 111 2 [some (.inr (.inr (some (10, 0)))), some (.inl (nI (i + 1))), z'] [] s1 X) ∧ (∀ z, ∃ z', ∀ X, Rn g 145 64 [some (.inr (.inr (some (11, 0)))), some (.inl (nI i)), z] [] t X ↔ Rn g 145 64 [some (.inr (.inr (some (11, 0)))), some (.inl (nI (i + 1))), z'] [] t1 X) ∧ Rl g s1 t1 nf B Q1 ∧ (∀ k, gI s1 10 k 0 = gI s 10 k 0) ∧ gI t1 11 47 0 = gI t 11 47 0 := by
  have e1 := h.2.1.1.1 i hi
  by_cases a1 : gI t 22 i 0 = 2
  · obtain ⟨k, b1, b2, b3, b4, b5, b6, b7⟩ := rl_wait h hi a1
    have hs2 : gI s 3 1 i = 2 := by rw [e1, a1]
    cases hpf : gP s 4 2 k with
    | some f =>
      rw [hpf] at b6
      exact ⟨s, t, Q, fun z => ⟨_, fun X => c_find_n h.1.1 hi (Or.inr ⟨k, b2, b1, by rw [hpf]; exact fun z => by cases z⟩) z⟩, fun z => ⟨_, fun X => r_find_n h.1.2.1 hi (Or.inr ⟨f, b6⟩) z⟩, h, fun _ => rfl, rfl⟩
    | none =>
      rw [hpf] at b6
      have hlow := lk_low h
      cases he : empF t nf with
      | none =>
        rw [he] at hlow
        exact ⟨s, t, Q, fun z => ⟨_, fun X => c_find_s h.1.1 hi hs2 b2 b1 hpf (fun X => c_findFrame_0 h.1.1 hlow) z⟩, fun z => ⟨_, fun X => r_find_0 h.1.2.1 hi a1 b6 he z⟩, h, fun _ => rfl, rfl⟩
      | some f =>
        rw [he] at hlow
        obtain ⟨y1, y2, y3, y4⟩ := ff_some he
        have hf : f < nf := by omega
        have h0 : gI t 42 f 0 = 0 := y3
        obtain ⟨a1', a2, a3, a4, a5, a6, a7, a8, a9, a10, a11⟩ := rl_qf h
        cases hpp : gP s 4 3 k with
        | none =>
          rw [hpp] at b7
          have k1 := rl_tk1 h hf h0 b1 hi b3 b4 hpf hpp
          have k2 := rl_wake k1 hi a1
          exact ⟨_, _, Q, fun z => ⟨_, fun X => c_find_s h.1.1 hi hs2 b2 b1 hpf (fun X => c_findFrame_1 h.1.1 hi b1 hlow hpp) z⟩, fun z => ⟨_, fun X => r_find_1 h.1.2.1 hi a1 b6 he (by rw [plc_cm]; exact b7) z⟩, k2, fun _ => rfl, rfl⟩
        | some p =>
          rw [hpp] at b7
          have k1 := rl_tk2 h hf h0 b1 hi b3 b4 hpf (by rw [hpp]; exact fun z => by cases z)
          have hlen : Q.length < 16 := by
            have := (rl_qf k1).1
            rw [List.length_append, List.length_singleton] at this
            omega
          exact ⟨_, _, _, fun z => ⟨_, fun X => c_find_s h.1.1 hi hs2 b2 b1 hpf (fun X => c_findFrame_2 h.1.1 hi b1 hlow hpp a6 hlen) z⟩, fun z => ⟨_, fun X => r_find_2 h.1.2.1 hi a1 b6 he (by rw [plc_cm]; exact b7) a3 (by omega) z⟩, k1, fun _ => rfl, rfl⟩
  · have hs2 : ¬ gI s 3 1 i = 2 := by rw [e1]; exact a1
    exact ⟨s, t, Q, fun z => ⟨_, fun X => c_find_n h.1.1 hi (Or.inl hs2) z⟩, fun z => ⟨_, fun X => r_find_n h.1.2.1 hi (Or.inl a1) z⟩, h, fun _ => rfl, rfl⟩
theorem rel_find : ∀ n i (s t : Sg) (Q : List Nat), i + n = 4 → Rl g s t nf B Q → ∃ s1 t1 Q1, (∀ z, ∀ X, Rn g 111 2 [some (.inr (.inr (some (10, 0)))), some (.inl (nI i)), z] [] s X ↔ X = (s1, none)) ∧ (∀ z, ∃ z', ∀ X, Rn g 145 64 [some (.inr (.inr (some (11, 0)))), some (.inl (nI i)), z] [] t X ↔ Rn g 145 180 [some (.inr (.inr (some (11, 0)))), some (.inl (nI 4)), z'] [] t1 X) ∧ Rl g s1 t1 nf B Q1 ∧ (∀ k, gI s1 10 k 0 = gI s 10 k 0) ∧ gI t1 11 47 0 = gI t 11 47 0
  | 0, i, s, t, Q, hi, h => by
    obtain rfl : i = 4 := by omega
    have h1 : nI 4 ≤ nI 4 := by decide
    have h2 : (4 : Int32) ≤ nI 4 := by decide
    refine ⟨s, t, Q, fun z X => ?_, fun z => ⟨z, fun X => ?_⟩, h, fun _ => rfl, rfl⟩
    · simp [Q111, II, MM, MK, h.1.1, ofN, h1]
    · simp only [e145_64, e145_65, e145_66, MM, MK, h2, if_true]
  | n + 1, i, s, t, Q, hi, h => by
    obtain ⟨s1, t1, Q1, a1, a2, a3, a4, a5⟩ := rel_find1 h (show i < 4 by omega)
    obtain ⟨s2, t2, Q2, b1, b2, b3, b4, b5⟩ := rel_find n (i + 1) s1 t1 Q1 (by omega) a3
    refine ⟨s2, t2, Q2, fun z X => ?_, fun z => ?_, b3, fun k => (b4 k).trans (a4 k), b5.trans a5⟩
    · obtain ⟨z', e⟩ := a1 z
      exact (e X).trans (b1 z' X)
    · obtain ⟨z', e⟩ := a2 z
      obtain ⟨z'', e2⟩ := b2 z'
      exact ⟨z'', fun X => (e X).trans (e2 X)⟩
end Fin1
