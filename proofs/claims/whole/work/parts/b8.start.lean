/-! a job starts, in both programs -/
section Sta2
variable {g : Nat → Nat → Nat} {s t u : Sg} {X : Sg × Option Av} {nf B n : Nat} {Q : List Nat}
theorem in_1 {x M : Int32} {K : Int64} (hK : K.toInt = M.toInt) : ((1 : Int64) ≤ x.toInt64 ∧ x.toInt64 ≤ K) ↔ (¬ x < 1 ∧ ¬ M < x) := by
  rw [i64_le_i, i64_le_i, t64, hK, show (1 : Int64).toInt = 1 by decide, Int32.lt_iff_toInt_lt, Int32.lt_iff_toInt_lt, show (1 : Int32).toInt = 1 by decide]
  omega
theorem r_in_1y {x M : Int32} {K : Int64} (hK : K.toInt = M.toInt) (h : ¬ x < 1 ∧ ¬ M < x) : Rn g 122 0 [some (.inr (.inl x.toInt64)), none, some (.inr (.inl 1)), none, some (.inr (.inl K)), none] [] t X ↔ X = (t, some (.inl 1)) := by
  rw [r_in, if_pos ((in_1 hK).mpr h)]
theorem r_in_1n {x M : Int32} {K : Int64} (hK : K.toInt = M.toInt) (h : ¬ (¬ x < 1 ∧ ¬ M < x)) : Rn g 122 0 [some (.inr (.inl x.toInt64)), none, some (.inr (.inl 1)), none, some (.inr (.inl K)), none] [] t X ↔ X = (t, some (.inl 0)) := by
  rw [r_in, if_neg (fun z => h ((in_1 hK).mp z))]
theorem rel_start (h : Rl g s t nf B Q) (h1 : gI s 10 8 0 = nI n) (h2 : gI t 11 47 0 = nI n) (x a l b : Int32) : AN g 90 [oC, some (.inl x), some (.inl a), some (.inl l), some (.inl b), none] 137 [oR, some (.inl x), some (.inl a), some (.inl l), some (.inl b)] s t nf B n := by
  by_cases c : x < 0 ∨ ¬ x < 4
  · have r1 := fun X => r_in_x (g := g) (t := t) (X := X) (K := 3) c (by decide)
    have r2 := fun X => c_jobOf_n (g := g) (X := X) h.1.1 c
    refine an_same (v := .inl 0) h h1 h2 (fun X => ?_) (fun X => ?_)
    · simp [Q90, MM, MK, h.1.1, r2]
    · simp [Q137, MM, MK, h.1.2.1, r1]
  obtain ⟨j, hj, rfl⟩ := arg_ex (m := 4) (by decide) c
  have r1 := fun X => r_in_y (g := g) (t := t) (X := X) (K := 3) (x := nI j) rfl (show j ≤ 3 by omega) (by omega) (by decide)
  have r2 := fun X => c_jobOf_y (g := g) (X := X) h.1.1 hj
  have hj4 := inN hj (by omega)
  have e1 := h.2.1.1.1 j hj
  by_cases s0 : gI t 22 j 0 = 0
  rotate_left
  · refine an_same (v := .inl 0) h h1 h2 (fun X => ?_) (fun X => ?_)
    · simp [Q90, MM, MK, h.1.1, r2, hj, e1, s0]
    · simp [Q137, MM, MK, h.1.2.1, r1, hj4, s0]
  have hlt3 : gI t 22 j 0 < 3 := by rw [s0]; decide
  have e5 : gI s 3 5 j = gI t 41 j 0 := (h.2.1.2.1 j hj).1 hlt3
  by_cases cl : ¬ l < 1 ∧ ¬ 1000000 < l
  rotate_left
  · have r3 := fun X => r_in_1n (g := g) (t := t) (X := X) (x := l) (M := 1000000) (K := 1000000) (by decide) cl
    refine an_same (v := .inl 0) h h1 h2 (fun X => ?_) (fun X => ?_)
    · by_cases d : l < 1
      · simp [Q90, MM, MK, h.1.1, r2, hj, e1, s0, d]
      · have d2 : 1000000 < l := Classical.byContradiction (fun z => cl ⟨d, z⟩)
        have d3 : ¬ l ≤ 1000000 := by rw [i32_le]; exact not_not_intro d2
        have d4 : (1 : Int32) ≤ l := by rw [i32_le]; exact d
        simp only [Q90, MM, MK, h.1.1, r2, hj, e1, s0, d, d2, d3, d4, if_true, if_false, Nat.zero_lt_one, exists_eq_left, List.nil_append, List.cons_append, List.append_nil, reduceCtorEq, not_false_eq_true, true_or]
    · simp only [Q137, MM, MK, h.1.2.1, r1, hj4, s0, r3, if_true, if_false, Nat.zero_lt_one, exists_eq_left, List.nil_append, List.cons_append, List.append_nil, show ¬ (1 : Int32) = 0 by decide, true_or]
  have r3 := fun X => r_in_1y (g := g) (t := t) (X := X) (x := l) (M := 1000000) (K := 1000000) (by decide) cl
  have l1 : (1 : Int32) ≤ l := by rw [i32_le]; exact cl.1
  have l2 : l ≤ 1000000 := by rw [i32_le]; exact cl.2
  by_cases cb : ¬ b < 1 ∧ ¬ 64 < b
  rotate_left
  · have r4 := fun X => r_in_1n (g := g) (t := t) (X := X) (x := b) (M := 64) (K := 64) (by decide) cb
    refine an_same (v := .inl 0) h h1 h2 (fun X => ?_) (fun X => ?_)
    · by_cases d : b < 1
      · simp only [Q90, MM, MK, h.1.1, r2, hj, e1, s0, cl.1, cl.2, l1, l2, d, if_true, if_false, Nat.zero_lt_one, exists_eq_left, List.nil_append, List.cons_append, List.append_nil, reduceCtorEq, not_false_eq_true, true_or]
      · have d2 : 64 < b := Classical.byContradiction (fun z => cb ⟨d, z⟩)
        have d3 : ¬ b ≤ 64 := by rw [i32_le]; exact not_not_intro d2
        have d4 : (1 : Int32) ≤ b := by rw [i32_le]; exact d
        simp only [Q90, MM, MK, h.1.1, r2, hj, e1, s0, cl.1, cl.2, l1, l2, d, d2, d3, d4, if_true, if_false, Nat.zero_lt_one, exists_eq_left, List.nil_append, List.cons_append, List.append_nil, reduceCtorEq, not_false_eq_true, true_or]
    · simp only [Q137, MM, MK, h.1.2.1, r1, hj4, s0, r3, r4, if_true, if_false, Nat.zero_lt_one, exists_eq_left, List.nil_append, List.cons_append, List.append_nil, show ¬ (1 : Int32) = 0 by decide, true_or]
  have r4 := fun X => r_in_1y (g := g) (t := t) (X := X) (x := b) (M := 64) (K := 64) (by decide) cb
  have b1 : (1 : Int32) ≤ b := by rw [i32_le]; exact cb.1
  have b2 : b ≤ 64 := by rw [i32_le]; exact cb.2
  have hlen := h.2.1.2.2.2.2
  by_cases cn : b < gI t 41 j 0
  · have cn' : ¬ gI t 41 j 0 ≤ b := by rw [i32_le]; exact not_not_intro cn
    refine an_same (v := .inl 0) h h1 h2 (fun X => ?_) (fun X => ?_)
    · simp only [Q90, MM, MK, h.1.1, r2, hj, e1, s0, cl.1, cl.2, l1, l2, cb.1, cb.2, b1, b2, e5, cn, cn', if_true, if_false, Nat.zero_lt_one, exists_eq_left, List.nil_append, List.cons_append, List.append_nil, reduceCtorEq, not_false_eq_true, true_or]
    · simp only [Q137, MM, MK, h.1.2.1, r1, hj4, s0, r3, r4, cn, cn', if_true, if_false, Nat.zero_lt_one, exists_eq_left, List.nil_append, List.cons_append, List.append_nil, show ¬ (1 : Int32) = 0 by decide, true_or]
  have cn' : gI t 41 j 0 ≤ b := by rw [i32_le]; exact cn
  have r5 := fun X => c_resB (g := g) (X := X) h.1.1 hj
  rw [bb_eq h 4 0 0 (by omega)] at r5
  have r6 := fun X => r_blocksBut (g := g) (X := X) h.1.2.1 hj
  by_cases cs : 64 < bbF t j 0 4 0 + b
  · have cs' : ¬ bbF t j 0 4 0 + b ≤ 64 := by rw [i32_le]; exact not_not_intro cs
    refine an_same (v := .inl 0) h h1 h2 (fun X => ?_) (fun X => ?_)
    · simp only [Q90, MM, MK, h.1.1, r2, hj, e1, s0, cl.1, cl.2, l1, l2, cb.1, cb.2, b1, b2, e5, cn, cn', r5, cs, cs', if_true, if_false, Nat.zero_lt_one, exists_eq_left, List.nil_append, List.cons_append, List.append_nil, reduceCtorEq, not_false_eq_true, true_or]
    · simp only [Q137, MM, MK, h.1.2.1, r1, hj4, s0, r3, r4, cn, cn', r6, cs, cs', if_true, if_false, Nat.zero_lt_one, exists_eq_left, List.nil_append, List.cons_append, List.append_nil, show ¬ (1 : Int32) = 0 by decide, true_or]
  have cs' : bbF t j 0 4 0 + b ≤ 64 := by rw [i32_le]; exact cs
  -- it starts
  obtain ⟨L, hL, rfl⟩ := arg_ex (x := l) (M := 1000001) (m := 1000001) (by decide) (by
    have := cl
    rw [Int32.lt_iff_toInt_lt, Int32.lt_iff_toInt_lt, show (1 : Int32).toInt = 1 by decide, show (1000000 : Int32).toInt = 1000000 by decide] at this
    rw [Int32.lt_iff_toInt_lt, Int32.lt_iff_toInt_lt, show (0 : Int32).toInt = 0 by decide, show (1000001 : Int32).toInt = 1000001 by decide]
    omega)
  obtain ⟨K, hK, rfl⟩ := arg_ex (x := b) (M := 65) (m := 65) (by decide) (by
    have := cb
    rw [Int32.lt_iff_toInt_lt, Int32.lt_iff_toInt_lt, show (1 : Int32).toInt = 1 by decide, show (64 : Int32).toInt = 64 by decide] at this
    rw [Int32.lt_iff_toInt_lt, Int32.lt_iff_toInt_lt, show (0 : Int32).toInt = 0 by decide, show (65 : Int32).toInt = 65 by decide]
    omega)
  obtain ⟨hh1, ⟨r, hh2, hh3⟩, hh4⟩ := hlen
  have ensl := hh1 j hj hlt3
  have hnsl : nsl t j ≤ 64 := cf_le _ 0 64
  have hbn : nsl t j ≤ K := by
    rw [ensl] at cn
    exact Classical.byContradiction (fun z => cn (nI_lt (by omega) (by omega)))
  have hval := bb_val (r := r) (fun i hi => (hh2 i hi).1) hj
  have hsum : (if 0 = j then K else r 0) + (if 1 = j then K else r 1) + (if 2 = j then K else r 2) + (if 3 = j then K else r 3) ≤ 64 := by
    rw [hval, nI_add] at cs
    have hle : (if 0 = j then 0 else r 0) + (if 1 = j then 0 else r 1) + (if 2 = j then 0 else r 2) + (if 3 = j then 0 else r 3) ≤ 64 := by
      rcases (show j = 0 ∨ j = 1 ∨ j = 2 ∨ j = 3 by omega) with z | z | z | z <;> subst z <;> simp <;> omega
    have : (if 0 = j then 0 else r 0) + (if 1 = j then 0 else r 1) + (if 2 = j then 0 else r 2) + (if 3 = j then 0 else r 3) + K ≤ 64 := Classical.byContradiction (fun z => cs (nI_lt (a := 64) (by omega) (by omega)))
    rcases (show j = 0 ∨ j = 1 ∨ j = 2 ∨ j = 3 by omega) with z | z | z | z <;> subst z <;> simp at this ⊢ <;> omega
  have k := rl_start (a := a) h hj s0 (show L ≤ 1000000 by omega) (show K ≤ 64 by omega) hbn ⟨r, hh2, hsum⟩
  have r7 := fun X => c_begin (g := g) (X := X) (a := a) (l := nI L) (b := nI K) h.1.1 hj
  have hM : LR (sI (sI (sI t 22 j 0 1) 26 j 0 (nI L)) 27 j 0 (nI K)) nf := LR_sI (by omega) (LR_sI (by omega) (LR_sI (by omega) h.1.2.1))
  have r8 := fun X => r_half (g := g) (t := sI (sI (sI t 22 j 0 1) 26 j 0 (nI L)) 27 j 0 (nI K)) (X := X) (x := a.toInt64)
  have e127 : nI (128 * j) + 127 = nI (128 * j + 127) := nI_add (128 * j) 127
  have h127 := inN (show 128 * j + 127 < 512 by omega) (by omega)
  refine ⟨_, _, .inl 1, B, n, Q, fun X => ?_, fun X => ?_, k, h1, h2, by omega, by omega⟩
  · simp only [Q90, MM, MK, h.1.1, r2, hj, e1, s0, cl.1, cl.2, l1, l2, cb.1, cb.2, b1, b2, e5, cn, cn', r5, cs, cs', r7, if_true, if_false, Nat.zero_lt_one, exists_eq_left, List.nil_append, List.cons_append, List.append_nil, reduceCtorEq, not_false_eq_true, or_true]
  · simp only [Q137, MM, MK, h.1.2.1, r1, hj4, s0, r3, r4, cn, cn', r6, cs, cs', t128, e127, h127, r8, if_true, if_false, Nat.zero_lt_one, exists_eq_left, List.nil_append, List.cons_append, List.append_nil, show ¬ (1 : Int32) = 0 by decide, or_true]
end Sta2
