/-! questions: word, paper, frame, place, drum, queued, chosen, printed, job -/
section Ask2
variable {g : Nat → Nat → Nat} {s t u : Sg} {X : Sg × Option Av} {nf B n : Nat} {Q : List Nat}
theorem rel_frame (h : Rl g s t nf B Q) (h1 : gI s 10 8 0 = nI n) (h2 : gI t 11 47 0 = nI n) (x w : Int32) : AN g 97 [oC, some (.inl x), some (.inl w), none] 171 [oR, some (.inl x), some (.inl w)] s t nf B n := by
  have hnf := h.1.1.1
  have r0 := fun X => c_frameOf (g := g) (X := X) (x0 := x) h.1.1
  have e1 : (nI nf - 1).toInt64.toInt + 1 = nf := by
    have : nI nf - 1 = nI (nf - 1) := nI_sub (b := 1) (by omega)
    rw [this, t64, nI_toInt (by omega)]
    omega
  have hN : (nI nf).toInt = (nf : Int) := nI_toInt (by omega)
  by_cases c : x < 0 ∨ ¬ x < nI nf
  · rw [if_pos c] at r0
    have r1 := fun X => r_in_x (g := g) (t := t) (X := X) (K := (nI nf - 1).toInt64) c (by rw [hN]; omega)
    refine an_same (v := .inl (-1)) h h1 h2 (fun X => ?_) (fun X => ?_)
    · simp [Q97, MM, MK, h.1.1, r0]
    · simp only [Q171, MM, MK, h.1.2.1, r1, if_true, if_false, Nat.zero_lt_one, exists_eq_left, List.nil_append, List.cons_append, List.append_nil]
  · rw [if_neg c] at r0
    obtain ⟨f, hf, rfl⟩ := arg_ex (m := nf) hN c
    rw [nI_clamp (by omega)] at r0
    have r1 := fun X => r_in_y (g := g) (t := t) (X := X) (K := (nI nf - 1).toInt64) (x := nI f) (k := nf - 1) rfl (by omega) (by omega) (by omega)
    have r2 := fun X => c_frameTell (g := g) (X := X) (w := w) h.1.1 hf
    obtain ⟨f1, f2, f3, f5, f6, f7, f8, fb⟩ := h.2.2.1.1
    have hb := fb f hf
    rw [f1 f hf, f2 f hf, f3 f hf, f5 f hf, f6 f hf, f7 f hf, f8 f hf] at r2
    refine an_same (v := .inl (if w = 0 then gI t 42 f 0 else if gI t 42 f 0 = 0 then -1 else if w = 1 then gI t 43 f 0 else if w = 2 then gI t 44 f 0 else if w = 3 then gI t 45 f 0 else if w = 4 then gI t 46 f 0 else if w = 5 then (if gI t 47 f 0 = 0 then 0 else 1) else if w = 6 then (if gI t 48 f 0 = 0 then 0 else 1) else -1)) h h1 h2 (fun X => ?_) (fun X => ?_)
    · simp [Q97, MM, MK, h.1.1, r0, hf, r2]
    · have hf16 := inN (show f < 16 by omega) (by omega)
      have m5 : gI t 47 f 0 = (if gI t 47 f 0 = 0 then 0 else 1) := by
        rcases hb.1 with z | z <;> rw [z] <;> decide
      have m6 : gI t 48 f 0 = (if gI t 48 f 0 = 0 then 0 else 1) := by
        rcases hb.2 with z | z <;> rw [z] <;> decide
      by_cases w0 : w = 0
      · subst w0; simp [Q171, MM, MK, h.1.2.1, r1, hf16]
      by_cases s0 : gI t 42 f 0 = 0
      · simp [Q171, MM, MK, h.1.2.1, r1, hf16, w0, s0]
      by_cases w1 : w = 1
      · subst w1; simp [Q171, MM, MK, h.1.2.1, r1, hf16, s0]
      by_cases w2 : w = 2
      · subst w2; simp [Q171, MM, MK, h.1.2.1, r1, hf16, s0]
      by_cases w3 : w = 3
      · subst w3; simp [Q171, MM, MK, h.1.2.1, r1, hf16, s0]
      by_cases w4 : w = 4
      · subst w4; simp [Q171, MM, MK, h.1.2.1, r1, hf16, s0]
      by_cases w5 : w = 5
      · subst w5
        rcases hb.1 with z | z <;> simp [Q171, MM, MK, h.1.2.1, r1, hf16, s0, z]
      by_cases w6 : w = 6
      · subst w6
        rcases hb.2 with z | z <;> simp [Q171, MM, MK, h.1.2.1, r1, hf16, s0, z]
      simp [Q171, MM, MK, h.1.2.1, r1, hf16, w0, s0, w1, w2, w3, w4, w5, w6]
theorem rel_place (h : Rl g s t nf B Q) (h1 : gI s 10 8 0 = nI n) (h2 : gI t 11 47 0 = nI n) (x w : Int32) : AN g 98 [oC, some (.inl x), some (.inl w), none] 172 [oR, some (.inl x), some (.inl w)] s t nf B n := by
  have r0 := fun X => c_placeOf (g := g) (X := X) (x0 := x) h.1.1
  by_cases c : x < 0 ∨ ¬ x < 64
  · rw [if_pos c] at r0
    have r1 := fun X => r_in_x (g := g) (t := t) (X := X) (K := 63) c (by decide)
    refine an_same (v := .inl (-1)) h h1 h2 (fun X => ?_) (fun X => ?_)
    · simp [Q98, MM, MK, h.1.1, r0]
    · simp [Q172, MM, MK, h.1.2.1, r1]
  · rw [if_neg c] at r0
    obtain ⟨p, hp, rfl⟩ := arg_ex (m := 64) (by decide) c
    rw [nI_clamp (by omega)] at r0
    have r1 := fun X => r_in_y (g := g) (t := t) (X := X) (K := 63) (x := nI p) rfl (show p ≤ 63 by omega) (by omega) (by decide)
    obtain ⟨l1, l2⟩ := h.2.2.1.2.2.1 p hp
    have hp64 := inN hp (by omega)
    by_cases q : gI t 49 p 0 = -1
    · have q' := l1.mpr q
      refine an_same (v := .inl (-1)) h h1 h2 (fun X => ?_) (fun X => ?_)
      · simp [Q98, MM, MK, h.1.1, r0, hp, q']
      · simp [Q172, MM, MK, h.1.2.1, r1, hp64, q]
    · have q' : ¬ gI s 6 1 p = 0 := fun z => q (l1.mp z)
      obtain ⟨y1, y2⟩ := l2 q
      refine an_same (v := .inl (if w = 0 then gI t 49 p 0 else if w = 1 then gI t 50 p 0 else -1)) h h1 h2 (fun X => ?_) (fun X => ?_)
      · by_cases w0 : w = 0
        · subst w0; simp [Q98, MM, MK, h.1.1, r0, hp, q', y1]
        by_cases w1 : w = 1
        · subst w1; simp [Q98, MM, MK, h.1.1, r0, hp, q', y2]
        simp [Q98, MM, MK, h.1.1, r0, hp, q', w0, w1]
      · by_cases w0 : w = 0
        · subst w0; simp [Q172, MM, MK, h.1.2.1, r1, hp64, q]
        by_cases w1 : w = 1
        · subst w1; simp [Q172, MM, MK, h.1.2.1, r1, hp64, q]
        simp [Q172, MM, MK, h.1.2.1, r1, hp64, q, w0, w1]
theorem rel_drumq (h : Rl g s t nf B Q) (h1 : gI s 10 8 0 = nI n) (h2 : gI t 11 47 0 = nI n) (w : Int32) : AN g 99 [oC, some (.inl w)] 173 [oR, some (.inl w)] s t nf B n := by
  obtain ⟨a1, a2, a3, a4, a5, a6, a7, a8, a9, a10, a11⟩ := rl_qf h
  obtain ⟨m1, m2, m3⟩ := h.2.2.1.2.2.2.1
  obtain ⟨k1, k2, k3, k4, k5⟩ := h.2.2.2.2.2
  obtain ⟨x1, x2, x3, x4, x5, x6, x7, x8, x9, x10, x11, x12, x13, x14⟩ := ss_d h.2.2.1.2.2.2.2.1
  cases e : gP s 1 3 0 with
  | none =>
    rw [e] at m1
    have r0 := fun X => c_drumTell (g := g) (X := X) (w := w) (tk := nI n) h.1.1 e (x9 e) (fun f z => by cases z) (fun f z => by cases z)
    dsimp only at r0
    rw [a6.1, k4, k5] at r0
    have hlt : gI t 11 33 0 < 0 := by rw [m1]; decide
    have m1' : gI t 11 33 0 = -1 := m1
    refine an_same (v := .inl (if w = 4 then nI Q.length else if w = 5 then gI t 11 38 0 else if w = 6 then gI t 11 39 0 else -1)) h h1 h2 (fun X => ?_) (fun X => ?_)
    · simp [Q99, MM, MK, h.1.1, h1, r0]
    · by_cases w0 : w = 0
      · subst w0; simp [Q173, MM, MK, h.1.2.1, m1']
      by_cases w1 : w = 1
      · subst w1; simp [Q173, MM, MK, h.1.2.1, m1', show ¬ (0 : Int32) ≤ -1 by decide, show (-1 : Int32) < 0 by decide]
      by_cases w2 : w = 2
      · subst w2; simp [Q173, MM, MK, h.1.2.1, m1', show ¬ (0 : Int32) ≤ -1 by decide, show (-1 : Int32) < 0 by decide]
      by_cases w3 : w = 3
      · subst w3; simp [Q173, MM, MK, h.1.2.1, m1', show ¬ (0 : Int32) ≤ -1 by decide, show (-1 : Int32) < 0 by decide]
      by_cases w4 : w = 4
      · subst w4; simp [Q173, MM, MK, h.1.2.1, a3]
      by_cases w5 : w = 5
      · subst w5; simp [Q173, MM, MK, h.1.2.1]
      by_cases w6 : w = 6
      · subst w6; simp [Q173, MM, MK, h.1.2.1]
      simp [Q173, MM, MK, h.1.2.1, w0, w1, w2, w3, w4, w5, w6]
  | some f =>
    obtain ⟨p, b1, b2, b3, b4, b5, b6, b7⟩ := x10 f e
    rw [e] at m1
    have r0 := fun X => c_drumTell (g := g) (X := X) (w := w) (tk := nI n) h.1.1 e b1 (fun x z => by cases z; exact b3) (fun x z => by cases z; exact b2)
    dsimp only at r0
    rw [a6.1, k4, k5] at r0
    have hnf := h.1.1.1
    have m1' : gI t 11 33 0 = nI f := m1
    have hlt : ¬ nI f < 0 := nI_pos (by omega)
    have e34 := m2 p b1
    obtain ⟨e35, e5⟩ := m3 f e
    rw [e5, h.2.2.1.1.1 f b3] at r0
    refine an_same (v := .inl (if w = 4 then nI Q.length else if w = 5 then gI t 11 38 0 else if w = 6 then gI t 11 39 0 else if w = 0 then nI f else if w = 1 then nI p else if w = 2 then (if gI t 42 f 0 = 3 then 1 else 0) else if w = 3 then 32 - (nI n - gI t 11 37 0) else -1)) h h1 h2 (fun X => ?_) (fun X => ?_)
    · simp only [Q99, MM, MK, h.1.1, h1, r0, Nat.zero_lt_one, exists_eq_left, List.nil_append, List.cons_append, List.append_nil]
    · by_cases w0 : w = 0
      · subst w0; simp [Q173, MM, MK, h.1.2.1, m1']
      by_cases w1 : w = 1
      · subst w1; simp [Q173, MM, MK, h.1.2.1, m1', hlt, e34]
      by_cases w2 : w = 2
      · subst w2; simp [Q173, MM, MK, h.1.2.1, m1', hlt, e35]
      by_cases w3 : w = 3
      · subst w3; simp [Q173, MM, MK, h.1.2.1, m1', hlt, h2]
      by_cases w4 : w = 4
      · subst w4; simp [Q173, MM, MK, h.1.2.1, a3]
      by_cases w5 : w = 5
      · subst w5; simp [Q173, MM, MK, h.1.2.1]
      by_cases w6 : w = 6
      · subst w6; simp [Q173, MM, MK, h.1.2.1]
      simp [Q173, MM, MK, h.1.2.1, w0, w1, w2, w3, w4, w5, w6]
theorem rel_queued (h : Rl g s t nf B Q) (h1 : gI s 10 8 0 = nI n) (h2 : gI t 11 47 0 = nI n) (x : Int32) : AN g 100 [oC, some (.inl x), none] 174 [oR, some (.inl x)] s t nf B n := by
  obtain ⟨a1, a2, a3, a4, a5, a6, a7, a8, a9, a10, a11⟩ := rl_qf h
  have r0 := fun X => c_queuedFrame (g := g) (X := X) h.1.1 a6 (x0 := x)
  have hN : (nI Q.length).toInt = (Q.length : Int) := nI_toInt (by omega)
  have e1 : (nI Q.length - 1).toInt64.toInt + 1 = Q.length := by
    rw [t64, Int32.toInt_sub, hN, show (1 : Int32).toInt = 1 by decide]
    simp only [Int.bmod]
    omega
  by_cases c : x < 0 ∨ ¬ x < nI Q.length
  · rw [if_pos c] at r0
    have r1 := fun X => r_in_x (g := g) (t := t) (X := X) (K := (nI Q.length - 1).toInt64) c (by rw [hN]; omega)
    refine an_same (v := .inl (-1)) h h1 h2 (fun X => ?_) (fun X => ?_)
    · simp [Q100, MM, MK, h.1.1, r0]
    · simp only [Q174, MM, MK, h.1.2.1, a3, r1, if_true, if_false, Nat.zero_lt_one, exists_eq_left, List.nil_append, List.cons_append, List.append_nil]
  · rw [if_neg c] at r0
    obtain ⟨i, hi, rfl⟩ := arg_ex (m := Q.length) hN c
    rw [nI_clamp (by omega)] at r0
    obtain ⟨f, ef⟩ : ∃ f, Q[i]? = some f := ⟨Q[i], List.getElem?_eq_getElem hi⟩
    have e14 := a10 i f ef
    have e51 := (a9.2 i f ef).1
    have hf : f < nf := by
      obtain ⟨x1, x2, x3, x4, x5, x6, x7, x8, x9, x10, x11, x12, x13, x14⟩ := ss_d h.2.2.1.2.2.2.2.1
      exact (x12 f (List.mem_of_getElem? ef)).1
    rw [e14] at r0
    have r1 := fun X => r_in_y (g := g) (t := t) (X := X) (K := (nI Q.length - 1).toInt64) (x := nI i) (k := Q.length - 1) rfl (by omega) (by omega) (by omega)
    refine an_same (v := .inl (nI f)) h h1 h2 (fun X => ?_) (fun X => ?_)
    · simp [Q100, MM, MK, h.1.1, r0, hf]
    · simp only [Q174, MM, MK, h.1.2.1, a3, r1, inN (show i < 32 by omega) (by omega), e51, if_true, if_false, Nat.zero_lt_one, exists_eq_left, List.nil_append, List.cons_append, List.append_nil, show ¬ (1 : Int32) = 0 by decide]
end Ask2
