/-! questions: both programs answer alike -/
/-- both answer v, and go on related -/
def AN (g : Nat → Nat → Nat) (mc : Nat) (lc : Lo) (mr : Nat) (lr : Lo) (s t : Sg) (nf B n : Nat) : Prop := ∃ s' t' v B' n' Q', (∀ X, Rn g mc 0 lc [] s X ↔ X = (s', some v)) ∧ (∀ X, Rn g mr 0 lr [] t X ↔ X = (t', some v)) ∧ Rl g s' t' nf B' Q' ∧ gI s' 10 8 0 = nI n' ∧ gI t' 11 47 0 = nI n' ∧ B' ≤ B + 4000 ∧ n' ≤ n + 2000
abbrev oC : Option Av := some (.inr (.inr (some (10, 0))))
abbrev oR : Option Av := some (.inr (.inr (some (11, 0))))
theorem arg_ex {x M : Int32} {m : Nat} (hM : M.toInt = m) (h : ¬ (x < 0 ∨ ¬ x < M)) : ∃ j, j < m ∧ x = nI j := by
  rw [Int32.lt_iff_toInt_lt, Int32.lt_iff_toInt_lt, hM, show (0 : Int32).toInt = 0 by decide] at h
  have hb := i32_b M
  refine ⟨x.toInt.toNat, by omega, ?_⟩
  rw [← Int32.toInt_inj, nI_toInt (by omega)]
  omega
section Ask1
variable {g : Nat → Nat → Nat} {s t u : Sg} {X : Sg × Option Av} {nf B n : Nat} {Q : List Nat}
theorem r_in_y {x : Int32} {K : Int64} {j k : Nat} (hx : x = nI j) (hj : j ≤ k) (hk : k < 2147483648) (hK : K.toInt = k) : Rn g 122 0 [some (.inr (.inl x.toInt64)), none, some (.inr (.inl 0)), none, some (.inr (.inl K)), none] [] t X ↔ X = (t, some (.inl 1)) := by
  rw [r_in, if_pos]
  rw [i64_le_i, i64_le_i, t64, hx, nI_toInt (by omega), hK, show (0 : Int64).toInt = 0 by decide]
  omega
theorem r_in_x {x M : Int32} {K : Int64} (hx : x < 0 ∨ ¬ x < M) (hM : M.toInt = K.toInt + 1) : Rn g 122 0 [some (.inr (.inl x.toInt64)), none, some (.inr (.inl 0)), none, some (.inr (.inl K)), none] [] t X ↔ X = (t, some (.inl 0)) := by
  rw [r_in, if_neg]
  rw [i64_le_i, i64_le_i, t64, show (0 : Int64).toInt = 0 by decide]
  rw [Int32.lt_iff_toInt_lt, Int32.lt_iff_toInt_lt, show (0 : Int32).toInt = 0 by decide] at hx
  omega
theorem an_same {mc mr : Nat} {lc lr : Lo} {v : Av} (h : Rl g s t nf B Q) (h1 : gI s 10 8 0 = nI n) (h2 : gI t 11 47 0 = nI n) (hc : ∀ X, Rn g mc 0 lc [] s X ↔ X = (s, some v)) (hr : ∀ X, Rn g mr 0 lr [] t X ↔ X = (t, some v)) : AN g mc lc mr lr s t nf B n :=
  ⟨s, t, v, B, n, Q, hc, hr, h, h1, h2, by omega, by omega⟩
theorem c_jobOf_n (h : LC s nf) {x : Int32} (hx : x < 0 ∨ ¬ x < 4) : Rn g 105 0 [oC, some (.inl x)] [] s X ↔ X = (s, some (.inr (.inr none))) := by
  by_cases a1 : x < 0
  · simp [Q105, MM, MK, h, a1]
  · have a3 : ¬ x < 4 := hx.elim (fun z => absurd z a1) id
    have a2 : (4 : Int32) ≤ x := by rw [i32_le]; exact a3
    simp only [Q105, MM, MK, h, ofN, a1, show nI 4 = 4 from rfl, a3, if_true, if_false, Nat.zero_lt_one]
theorem c_jobOf_y (h : LC s nf) {j : Nat} (hj : j < 4) : Rn g 105 0 [oC, some (.inl (nI j))] [] s X ↔ X = (s, some (.inr (.inr (some (3, j))))) := by
  have a1 : ¬ nI j < 0 := nI_pos (by omega)
  have a2 : ¬ nI 4 ≤ nI j := nI_ge (by omega) (by omega)
  simp [Q105, MM, MK, h, ofN, a1, a2, inN hj, hj]
theorem rel_run (hg : ∀ i, g 16 (i + 1) = g 16 i + 1) (h : Rl g s t nf B Q) (h1 : gI s 10 8 0 = nI n) (h2 : gI t 11 47 0 = nI n) (hB : B < 1800000000) (hn : n < 1800000000) (x : Int32) : AN g 91 [oC, some (.inl x), none] 138 [oR, some (.inl x), none] s t nf B n := by
  by_cases c : x < 0 ∨ ¬ x < 2001
  · refine an_same (v := .inl (-1)) h h1 h2 (fun X => ?_) (fun X => ?_)
    · by_cases a1 : x < 0
      · simp [e91_0, e91_1, e91_4, e91_5, e91_8, e91_11, e91_12, MM, MK, a1]
      · have a2 : ¬ x ≤ 2000 := fun z => by
          have := c.elim (fun z => absurd z a1) id
          rw [Int32.lt_iff_toInt_lt, show (2001 : Int32).toInt = 2001 by decide] at this
          rw [Int32.le_iff_toInt_le, show (2000 : Int32).toInt = 2000 by decide] at z
          omega
        simp [e91_0, e91_1, e91_4, e91_5, e91_8, e91_11, e91_12, MM, MK, a1, a2]
    · have r1 := fun X => r_in_x (g := g) (t := t) (X := X) (K := 2000) c (by decide)
      simp [e138_0, e138_1, e138_2, e138_3, e138_6, e138_9, e138_12, e138_13, MM, MK, r1]
  · obtain ⟨k, hk, rfl⟩ := arg_ex (m := 2001) (by decide) c
    obtain ⟨s1, t1, Q1, a1, a2, a3, a4, a5⟩ := rel_ticks hg (w := nI k) (k := k) rfl (by omega) k 0 s t B n Q (by omega) h (by omega) (by omega) h1 h2
    have b1 : ¬ nI k < 0 := nI_pos (by omega)
    have b2 : nI k ≤ 2000 := nI_le (b := 2000) (by omega) (by omega)
    rw [nI_0] at a1 a2
    refine ⟨s1, t1, .inl (nI (n + k)), B + 2 * k, n + k, Q1, fun X => ?_, fun X => ?_, a3, a4, a5, by omega, by omega⟩
    · rw [← a1 X]
      simp only [e91_0, e91_1, e91_4, e91_5, e91_8, e91_11, e91_12, e91_13, e91_14, MM, MK, b1, b2, if_true, if_false]
    · rw [← a2 X]
      have r1 := fun X => r_in_y (g := g) (t := t) (X := X) (K := 2000) (x := nI k) rfl (show k ≤ 2000 by omega) (by omega) (by decide)
      simp only [e138_0, e138_1, e138_2, e138_3, e138_6, e138_9, e138_12, e138_13, e138_14, e138_15, MM, MK, r1, if_true, if_false, exists_eq_left, List.nil_append, List.cons_append, List.append_nil, show ¬ (1 : Int32) = 0 by decide]
theorem rel_accumulator (h : Rl g s t nf B Q) (h1 : gI s 10 8 0 = nI n) (h2 : gI t 11 47 0 = nI n) (x : Int32) : AN g 94 [oC, some (.inl x), none] 168 [oR, some (.inl x)] s t nf B n := by
  by_cases c : x < 0 ∨ ¬ x < 4
  · have r1 := fun X => r_in_x (g := g) (t := t) (X := X) (K := 3) c (by decide)
    have r2 := fun X => c_jobOf_n (g := g) (X := X) h.1.1 c
    refine an_same (v := .inr (.inl 0)) h h1 h2 (fun X => ?_) (fun X => ?_)
    · simp [Q94, MM, MK, h.1.1, r2]
    · simp [Q168, MM, MK, h.1.2.1, r1]
  · obtain ⟨j, hj, rfl⟩ := arg_ex (m := 4) (by decide) c
    have r1 := fun X => r_in_y (g := g) (t := t) (X := X) (K := 3) (x := nI j) rfl (show j ≤ 3 by omega) (by omega) (by decide)
    have r2 := fun X => c_jobOf_y (g := g) (X := X) h.1.1 hj
    have e := (h.2.2.2.1.2.1 j hj).1
    refine an_same (v := .inr (.inl (gJ t 34 j 0))) h h1 h2 (fun X => ?_) (fun X => ?_)
    · simp [Q94, MM, MK, h.1.1, r2, hj, e]
    · simp [Q168, MM, MK, h.1.2.1, r1, inN hj]
theorem rel_register (h : Rl g s t nf B Q) (h1 : gI s 10 8 0 = nI n) (h2 : gI t 11 47 0 = nI n) (x b : Int32) : AN g 93 [oC, some (.inl x), some (.inl b), none] 167 [oR, some (.inl x), some (.inl b)] s t nf B n := by
  by_cases c : x < 0 ∨ ¬ x < 4
  · have r1 := fun X => r_in_x (g := g) (t := t) (X := X) (K := 3) c (by decide)
    have r2 := fun X => c_jobOf_n (g := g) (X := X) h.1.1 c
    refine an_same (v := .inl 0) h h1 h2 (fun X => ?_) (fun X => ?_)
    · simp [Q93, MM, MK, h.1.1, r2]
    · simp [Q167, MM, MK, h.1.2.1, r1]
  · obtain ⟨j, hj, rfl⟩ := arg_ex (m := 4) (by decide) c
    have r1 := fun X => r_in_y (g := g) (t := t) (X := X) (K := 3) (x := nI j) rfl (show j ≤ 3 by omega) (by omega) (by decide)
    have r2 := fun X => c_jobOf_y (g := g) (X := X) h.1.1 hj
    have r3 := fun X => c_getB (g := g) (X := X) (b := b) h.1.1 hj
    by_cases d : b < 0 ∨ ¬ b < 128
    · have r4 := fun X => r_in_x (g := g) (t := t) (X := X) (K := 127) d (by decide)
      rw [if_pos d] at r3
      refine an_same (v := .inl 0) h h1 h2 (fun X => ?_) (fun X => ?_)
      · simp [Q93, MM, MK, h.1.1, r2, hj, r3]
      · simp [Q167, MM, MK, h.1.2.1, r1, r4]
    · rw [if_neg d] at r3
      obtain ⟨k, hk, rfl⟩ := arg_ex (m := 128) (by decide) d
      rw [nI_clamp (by omega)] at r3
      have r4 := fun X => r_in_y (g := g) (t := t) (X := X) (K := 127) (x := nI k) rfl (show k ≤ 127 by omega) (by omega) (by decide)
      have r5 := fun X => r_reg (g := g) (X := X) h.1.2.1 hj hk
      have e := h.2.2.2.1.1 j k hj hk
      refine an_same (v := .inl (gI t 33 (128 * j + k) 0)) h h1 h2 (fun X => ?_) (fun X => ?_)
      · simp [Q93, MM, MK, h.1.1, r2, hj, r3, e]
      · simp [Q167, MM, MK, h.1.2.1, r1, r4, r5]
theorem rel_clock (h : Rl g s t nf B Q) (h1 : gI s 10 8 0 = nI n) (h2 : gI t 11 47 0 = nI n) (w : Int32) : AN g 103 [oC, some (.inl w)] 177 [oR, some (.inl w)] s t nf B n := by
  obtain ⟨k1, k2, k3, k4, k5⟩ := h.2.2.2.2.2
  obtain ⟨c, x, m, z1, z2, z3, z4⟩ := h.2.2.2.1.2.2.2.2.2.2.1
  obtain ⟨c', x', m', y1, y2, y3, y4⟩ := h.2.2.2.1.2.2.2.2.2.2.2
  refine an_same (v := .inl (if w = 0 then nI n else if w = 1 then gI t 11 48 0 else if w = 2 then gI t 11 49 0 else if w = 3 then nI m else if w = 4 then nI m' else if w = 5 then gI t 11 50 0 else -1)) h h1 h2 (fun X => ?_) (fun X => ?_)
  · by_cases w0 : w = 0
    · subst w0; simp [Q103, MM, MK, h.1.1, h1]
    by_cases w1 : w = 1
    · subst w1; simp [Q103, MM, MK, h.1.1, k1]
    by_cases w2 : w = 2
    · subst w2; simp [Q103, MM, MK, h.1.1, k2]
    by_cases w3 : w = 3
    · subst w3; simp [Q103, MM, MK, h.1.1, z3]
    by_cases w4 : w = 4
    · subst w4; simp [Q103, MM, MK, h.1.1, y3]
    by_cases w5 : w = 5
    · subst w5; simp [Q103, MM, MK, h.1.1, k3]
    simp [Q103, MM, MK, h.1.1, w0, w1, w2, w3, w4, w5]
  · by_cases w0 : w = 0
    · subst w0; simp [Q177, MM, MK, h.1.2.1, h2]
    by_cases w1 : w = 1
    · subst w1; simp [Q177, MM, MK, h.1.2.1]
    by_cases w2 : w = 2
    · subst w2; simp [Q177, MM, MK, h.1.2.1]
    by_cases w3 : w = 3
    · subst w3; simp [Q177, MM, MK, h.1.2.1, z2]
    by_cases w4 : w = 4
    · subst w4; simp [Q177, MM, MK, h.1.2.1, y2]
    by_cases w5 : w = 5
    · subst w5; simp [Q177, MM, MK, h.1.2.1]
    simp [Q177, MM, MK, h.1.2.1, w0, w1, w2, w3, w4, w5]
end Ask1
