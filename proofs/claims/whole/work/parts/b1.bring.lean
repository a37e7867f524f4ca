/-! a frame is kept empty; bringing, in both programs -/
section Bri1
variable {g : Nat → Nat → Nat} {s t u : Sg} {X : Sg × Option Av} {nf B : Nat} {Q : List Nat}
theorem c_keep_0 (h : LC s nf) {f : Nat} (h0 : lowF s nf 0 = some f) : Rn g 113 0 [some (.inr (.inr (some (10, 0)))), none] [] s X ↔ X = (s, none) := by
  have r1 := fun X => c_lowest (g := g) (X := X) h 0
  rw [h0] at r1
  simp [Q113, MM, MK, h, r1]
theorem c_keep_3 (h : LC s nf) {f : Nat} (h0 : lowF s nf 0 = none) (h3 : lowF s nf 3 = some f) : Rn g 113 0 [some (.inr (.inr (some (10, 0)))), none] [] s X ↔ X = (s, none) := by
  have r1 := fun X => c_lowest (g := g) (X := X) h 0
  have r2 := fun X => c_lowest (g := g) (X := X) h 3
  rw [h0] at r1
  rw [h3] at r2
  simp [Q113, MM, MK, h, r1, r2]
theorem c_keep_n (h : LC s nf) (h0 : lowF s nf 0 = none) (h3 : lowF s nf 3 = none) (hc : choG s nf = none) : Rn g 113 0 [some (.inr (.inr (some (10, 0)))), none] [] s X ↔ X = (s, none) := by
  have r1 := fun X => c_lowest (g := g) (X := X) h 0
  have r2 := fun X => c_lowest (g := g) (X := X) h 3
  have r3 := fun X => c_choose (g := g) (X := X) h
  rw [h0] at r1
  rw [h3] at r2
  rw [hc] at r3
  simp [Q113, MM, MK, h, r1, r2, r3]
def kpC (s : Sg) (f q c x : Nat) : Sg := sI (pshF (sI (sP (sI s 2 1 f 3) 14 q 0 (some f)) 1 2 0 (nI (q + 1))) 1 c x (2048 * gI s 2 2 f + gI s 2 3 f).toInt64) 10 11 0 (gI s 10 11 0 + 1)
theorem c_keep_go (h : LC s nf) {f q c x : Nat} (hf : f < nf) (h0 : lowF s nf 0 = none) (h3 : lowF s nf 3 = none) (hc : choG s nf = some f) (hq : QC s nf q) (hq16 : q < 16) (ho : RO s 1 c x) : Rn g 113 0 [some (.inr (.inr (some (10, 0)))), none] [] s X ↔ X = (kpC s f q c x, none) := by
  have r1 := fun X => c_lowest (g := g) (X := X) h 0
  have r2 := fun X => c_lowest (g := g) (X := X) h 3
  have r3 := fun X => c_choose (g := g) (X := X) h
  rw [h0] at r1
  rw [h3] at r2
  rw [hc] at r3
  have h1 : LC (sI s 2 1 f 3) nf := LC_sI h (by omega)
  have hq1 : QC (sI s 2 1 f 3) nf q := hq
  have r4 := fun X => c_enqueue (g := g) (X := X) h1 hq1 hq16 hf
  have h2 : LC (sI (sP (sI s 2 1 f 3) 14 q 0 (some f)) 1 2 0 (nI (q + 1))) nf := LC_sI (LC_sP h1 (by unfold dyP; omega)) (by omega)
  have ho2 : RO (sI (sP (sI s 2 1 f 3) 14 q 0 (some f)) 1 2 0 (nI (q + 1))) 1 c x := ho
  have r5 := fun v X => c_push (g := g) (X := X) (v := v) h2 (show 1 < 11 by omega) ho2
  have r6 : ∀ v X, Rn g 80 0 [some (.inr (.inr (some (9, 1)))), some (.inr (.inl v)), none] [] (sI (sP (sI s 2 1 f 3) 14 q 0 (some f)) 1 2 0 (nI (q + 1))) X ↔ X = (pshF (sI (sP (sI s 2 1 f 3) 14 q 0 (some f)) 1 2 0 (nI (q + 1))) 1 c x v, none) := r5
  have hP : ∀ v, LC (pshF (sI (sP (sI s 2 1 f 3) 14 q 0 (some f)) 1 2 0 (nI (q + 1))) 1 c x v) nf := fun v => LC_pshF h2
  have e11 : ∀ v, gI (pshF (sI (sP (sI s 2 1 f 3) 14 q 0 (some f)) 1 2 0 (nI (q + 1))) 1 c x v) 10 11 0 = gI s 10 11 0 := fun v => pshF_gI (by decide)
  unfold kpC
  clear r5
  simp only [Q113, MM, MK, h, h1, h2, hP, hf, r1, r2, r3, r4, r6, e11, if_true, if_false, Nat.zero_lt_one, exists_eq_left, List.nil_append, List.cons_append, List.append_nil, show (1 : Nat) < 11 by omega]
  simp [MM]
def kpR (t : Sg) (f q n : Nat) : Sg := sI (sI (queF (sI t 42 f 0 3) q (nI f) 1) 53 (n % 64) 0 (2048 * gI t 43 f 0 + gI t 44 f 0)) 11 44 0 (nI (n + 1))
theorem r_keep_0 (h : LR t nf) {f : Nat} {z1 z2 : Option Av} (h0 : empF t nf = some f) : Rn g 145 180 [some (.inr (.inr (some (11, 0)))), z1, z2] [] t X ↔ X = (t, none) := by
  have r1 := fun X => r_emptyFrame (g := g) (X := X) h
  rw [h0] at r1
  have hf : f < nf := by have := (ff_some h0).2.1; omega
  have hnf : nf ≤ 16 := h.1.2.2.2
  have hm : ¬ nI f < 0 := nI_pos (by omega)
  simp [e145_180, e145_181, e145_184, e145_187, MM, MK, h, r1, oi_s, hm]
theorem r_keep_l (h : LR t nf) {z2 : Option Av} : ∀ n i, i + n = nf → (Rn g 145 190 [some (.inr (.inr (some (11, 0)))), some (.inl (nI i)), z2] [] t X ↔ (match ff (fun f => gI t 42 f 0 = 3) i n with | some _ => X = (t, none) | none => Rn g 145 215 [some (.inr (.inr (some (11, 0)))), some (.inl (nI nf)), z2] [] t X))
  | 0, i, hi => by
    obtain rfl : i = nf := by omega
    have h1 : nI i ≤ nI i := nI_le (by omega) (by have := h.1; omega)
    simp only [e145_190, e145_191, e145_192, e145_195, MM, MK, h, h1, ff, if_true, Nat.zero_lt_one]
  | n + 1, i, hi => by
    have h1 : ¬ nI nf ≤ nI i := nI_ge (by omega) (by have := h.1; omega)
    have h16 := inN (show i < 16 by have := h.1; omega) (by omega)
    by_cases a1 : gI t 42 i 0 = 3
    · simp only [e145_190, e145_191, e145_192, e145_195, e145_198, e145_199, e145_202, e145_203, e145_204, e145_205, e145_208, MM, MK, h, h1, h16, a1, ff, if_true, if_false, Nat.zero_lt_one]
    · have ih := r_keep_l h (z2 := z2) n (i + 1) (by omega)
      simp only [e145_190, e145_191, e145_192, e145_195, e145_198, e145_199, e145_202, e145_203, e145_204, e145_205, e145_208, n145_209, MM, MK, h, h1, h16, a1, ff, if_true, if_false, Nat.zero_lt_one]
      rw [e145_212, nI_1]
      exact ih
theorem r_keep_1 (h : LR t nf) {z1 z2 : Option Av} (h0 : empF t nf = none) : Rn g 145 180 [some (.inr (.inr (some (11, 0)))), z1, z2] [] t X ↔ (match ff (fun f => gI t 42 f 0 = 3) 0 nf with | some _ => X = (t, none) | none => Rn g 145 215 [some (.inr (.inr (some (11, 0)))), some (.inl (nI nf)), z2] [] t X) := by
  have r1 := fun X => r_emptyFrame (g := g) (X := X) h
  rw [h0] at r1
  have hm : (-1 : Int32) < 0 := by decide
  have rl := r_keep_l (g := g) (X := X) h (z2 := z2) nf 0 (by omega)
  rw [nI_0] at rl
  rw [← rl]
  simp only [e145_180, e145_181, e145_184, e145_188, e145_189, MM, MK, h, r1, oi_n, hm, if_true, Nat.zero_lt_one, exists_eq_left, List.nil_append, List.cons_append, List.append_nil]
theorem r_keep_n (h : LR t nf) {z1 z2 : Option Av} (hc : choF t nf = -1) : Rn g 145 215 [some (.inr (.inr (some (11, 0)))), z1, z2] [] t X ↔ X = (t, none) := by
  have r1 := fun X => r_choice (g := g) (X := X) h
  rw [hc] at r1
  have hm : ¬ (0 : Int32) ≤ -1 := by decide
  simp [e145_215, e145_216, e145_219, e145_220, e145_221, e145_224, MM, MK, h, r1, hm]
theorem r_keep_go (h : LR t nf) {z1 z2 : Option Av} {f q n : Nat} (hf : f < nf) (hc : choF t nf = nI f) (hq : gI t 11 42 0 = nI q) (hq32 : q < 32) (hn : gI t 11 44 0 = nI n) (hn2 : n < 2 ^ 31) : Rn g 145 215 [some (.inr (.inr (some (11, 0)))), z1, z2] [] t X ↔ X = (kpR t f q n, none) := by
  have r1 := fun X => r_choice (g := g) (X := X) h
  rw [hc] at r1
  have hnf : nf ≤ 16 := h.1.2.2.2
  have hm : (0 : Int32) ≤ nI f := by rw [i32_le]; exact nI_pos (by omega)
  have h1 : LR (sI t 42 f 0 3) nf := LR_sI (by omega) h
  have r2 := fun X => r_queues (g := g) (X := X) (f := nI f) (w := 1) h1 (q := q) hq hq32
  have h2 : LR (queF (sI t 42 f 0 3) q (nI f) 1) nf := LR_sI (by omega) (LR_sI (by omega) (LR_sI (by omega) h1))
  have e44 : gI (queF (sI t 42 f 0 3) q (nI f) 1) 11 44 0 = nI n := hn
  have e43 : gI (queF (sI t 42 f 0 3) q (nI f) 1) 43 f 0 = gI t 43 f 0 := rfl
  have e444 : gI (queF (sI t 42 f 0 3) q (nI f) 1) 44 f 0 = gI t 44 f 0 := rfl
  have m64 : nI n - nI n / 64 * 64 = nI (n % 64) := nI_rem (b := 64) hn2 (by decide)
  unfold kpR
  simp [e145_215, e145_216, e145_219, e145_220, e145_221, e145_224, e145_225, e145_226, e145_229, e145_230, e145_231, e145_232, e145_233, e145_234, e145_235, e145_238, e145_239, e145_242, e145_243, e145_246, e145_248, e145_249, e145_252, e145_253, e145_256, e145_257, e145_258, e145_259, e145_260, e145_263, e145_264, e145_265, e145_266, e145_267, e145_268, e145_269, e145_272, e145_273, e145_274, e145_277, MM, MK, h, h2, inN (show f < 16 by omega), r1, hm, r2, e44, e43, e444, m64, inN (show n % 64 < 64 by omega), nI_1]
theorem rel_keep (h : Rl g s t nf B Q) (hB : B < 2000000000) : ∃ s' t' Q', (∀ X, Rn g 113 0 [some (.inr (.inr (some (10, 0)))), none] [] s X ↔ X = (s', none)) ∧ (∀ z1 z2 X, Rn g 145 180 [some (.inr (.inr (some (11, 0)))), z1, z2] [] t X ↔ X = (t', none)) ∧ Rl g s' t' nf (B + 1) Q' ∧ gI s' 10 8 0 = gI s 10 8 0 ∧ gI t' 11 47 0 = gI t 11 47 0 := by
  have hlow := lk_low h
  have hB' := rl_B (B' := B + 1) (by omega) h
  cases e0 : empF t nf with
  | some f =>
    rw [e0] at hlow
    exact ⟨s, t, Q, fun X => c_keep_0 h.1.1 hlow, fun z1 z2 X => r_keep_0 h.1.2.1 e0, hB', rfl, rfl⟩
  | none =>
    rw [e0] at hlow
    have h3 : lowF s nf 3 = ff (fun f => gI t 42 f 0 = 3) 0 nf := by
      unfold lowF
      refine ff_cg (fun m _ hm => ?_)
      show gI s 2 1 m = 3 ↔ gI t 42 m 0 = 3
      rw [h.2.2.1.1.1 m (by omega)]
    have rk := fun z1 z2 X => r_keep_1 (g := g) (X := X) (z1 := z1) (z2 := z2) h.1.2.1 e0
    cases e3 : ff (fun f => gI t 42 f 0 = 3) 0 nf with
    | some f =>
      rw [e3] at h3 rk
      exact ⟨s, t, Q, fun X => c_keep_3 h.1.1 hlow h3, rk, hB', rfl, rfl⟩
    | none =>
      rw [e3] at h3 rk
      obtain ⟨c1, c2⟩ := cho_eq h
      cases ec : choG s nf with
      | none =>
        rw [ec] at c1
        exact ⟨s, t, Q, fun X => c_keep_n h.1.1 hlow h3 ec, fun z1 z2 X => (rk z1 z2 X).trans (r_keep_n h.1.2.1 c1), hB', rfl, rfl⟩
      | some f =>
        rw [ec] at c1
        obtain ⟨hf, h42⟩ := c2 f ec
        have k1 := rl_ch h hf h42
        obtain ⟨c, x, n, y1, y2, y3, y4, y5⟩ := rl_pc (v := 2048 * gI t 43 f 0 + gI t 44 f 0) k1
        obtain ⟨a1, a2, a3, a4, a5, a6, a7, a8, a9, a10, a11⟩ := rl_qf h
        have hlen : Q.length < 16 := by
          have := (rl_qf k1).1
          rw [List.length_append, List.length_singleton] at this
          omega
        have y3' : gI s 10 11 0 = nI n := y3
        refine ⟨_, _, Q ++ [f], fun X => c_keep_go h.1.1 hf hlow h3 ec a6 hlen y1, fun z1 z2 X => (rk z1 z2 X).trans (r_keep_go h.1.2.1 hf c1 a3 (by omega) y2 (by omega)), ?_, ?_, rfl⟩
        · unfold kpC kpR
          rw [h.2.2.1.1.2.1 f hf, h.2.2.1.1.2.2.1 f hf, y3', nI_1]
          exact y5
        · unfold kpC
          rw [gI_sI, if_neg (by decide)]
          exact pshF_gI (by decide)
theorem wj_10 {k : Nat} : ∀ n i (s : Sg), gI (wjC i n s) 10 k 0 = gI s 10 k 0
  | 0, _, _ => rfl
  | n + 1, i, s => by
    rw [wjC, wj_10 n (i + 1)]
    unfold wk1
    split
    · split
      · rfl
      · split
        · rfl
        · split <;> rfl
    · rfl
theorem wj_47 : ∀ n i (t : Sg), gI (wjR nf i n t) 11 47 0 = gI t 11 47 0
  | 0, _, _ => rfl
  | n + 1, i, t => by
    rw [wjR, wj_47 n (i + 1)]
    unfold wr1
    split
    · split
      · rfl
      · split <;> rfl
    · rfl
theorem rel_bring (h : Rl g s t nf B Q) (hB : B < 2000000000) : ∃ s1 s2 s3 t3 Q3, (∀ X, Rn g 110 0 [some (.inr (.inr (some (10, 0)))), none, none] [] s X ↔ X = (s1, none)) ∧ LC s1 nf ∧ (∀ X, Rn g 111 0 [some (.inr (.inr (some (10, 0)))), none, none] [] s1 X ↔ X = (s2, none)) ∧ LC s2 nf ∧ (∀ X, Rn g 113 0 [some (.inr (.inr (some (10, 0)))), none] [] s2 X ↔ X = (s3, none)) ∧ (∀ X, Rn g 145 0 [some (.inr (.inr (some (11, 0)))), none, none] [] t X ↔ X = (t3, none)) ∧ Rl g s3 t3 nf (B + 1) Q3 ∧ gI s3 10 8 0 = gI s 10 8 0 ∧ gI t3 11 47 0 = gI t 11 47 0 := by
  have k1 := rl_wj 4 0 s t (by omega) h
  obtain ⟨s2, t2, Q2, a1, a2, a3, a4, a5⟩ := rel_find 4 0 _ _ Q (by omega) k1
  obtain ⟨s3, t3, Q3, b1, b2, b3, b4, b5⟩ := rel_keep a3 hB
  have r1 := fun X => c_wake_l (g := g) (X := X) 4 0 s none h.1.1 (rl_WQ h) (by omega)
  have r2 := fun X => a1 none X
  have r3 := fun X => r_bring_1 (g := g) (X := X) 4 0 t h.1.2.1 (by omega)
  obtain ⟨z', r4⟩ := a2 none
  rw [nI_0] at r1 r2 r3 r4
  refine ⟨_, s2, s3, t3, Q3, fun X => ?_, k1.1.1, fun X => ?_, a3.1.1, b1, fun X => ?_, b3, b4.trans ((a4 8).trans (wj_10 4 0 s)), b5.trans (a5.trans (wj_47 4 0 t))⟩
  · simp only [e110_0, e110_1, MK]
    exact r1 X
  · simp only [e111_0, e111_1, MK]
    exact r2 X
  · simp only [e145_0, e145_1, MK]
    rw [r3 X]
    simp only [e145_62, e145_63, MK]
    rw [r4 X]
    exact b2 _ _ X
end Bri1
