/-! constructors: the jobs, the class -/
section Fc5
variable {g : Nat → Nat → Nat} {s : Sg} {X : Sg × Option Av} {I I' : Nat → Nat → Nat → Int32} {P P' : Nat → Nat → Nat → Option Nat} {N N' : Nat → Nat} {L L' : Nat → Nat → Nat} {z l z' l' c k i n j : Nat}
def jI (I : Nat → Nat → Nat → Int32) (i : Nat) : Nat → Nat → Nat → Int32 := fun c k e => if c = 3 ∧ k = 0 ∧ e < i then nI e else if c = 3 ∧ k = 8 ∧ e < i then -1 else I c k e
def jP (P : Nat → Nat → Nat → Option Nat) (i : Nat) : Nat → Nat → Nat → Option Nat := fun c k e => if c = 20 ∧ e = 0 ∧ k < i then some k else if c = 3 ∧ k = 12 ∧ e < i then some e else if c = 3 ∧ k = 13 ∧ e < i then some (3 + 2 * e) else if c = 3 ∧ k = 14 ∧ e < i then some (4 + 2 * e) else if c = 9 ∧ k = 0 ∧ 3 ≤ e ∧ e < 3 + 2 * i then some e else P c k e
def jN (N : Nat → Nat) (i : Nat) : Nat → Nat := fun c => if c = 3 then i else if c = 15 then i else if c = 9 then 3 + 2 * i else if c = 19 then 3 + 2 * i else N c
def jL (L : Nat → Nat → Nat) (i : Nat) : Nat → Nat → Nat := fun c e => if c = 15 ∧ e < i then 128 else if c = 19 ∧ 3 ≤ e ∧ e < 3 + 2 * i then (if e % 2 = 1 then 500 else 200) else L c e
theorem jI_s (c k e : Nat) : uI (uI (jI I i) 3 0 i (nI i)) 3 8 i (-1) c k e = jI I (i + 1) c k e := by
  dsimp only [uI, jI]
  by_cases h3 : c = 3
  · subst h3
    by_cases k0 : k = 0
    · subst k0
      simp only [true_and, show ¬ (0 : Nat) = 8 by omega, false_and, if_false]
      (repeat' split) <;> first | rfl | (exfalso; omega) | (congr 1; omega)
    · by_cases k8 : k = 8
      · subst k8
        simp only [true_and, show ¬ (8 : Nat) = 0 by omega, false_and, if_false]
        (repeat' split) <;> first | rfl | (exfalso; omega)
      · simp only [k0, k8, false_and, and_false, if_false]
  · simp only [h3, false_and, if_false]
theorem jP_s (c k e : Nat) : uP (uP (uP (uP (uP (uP (jP P i) 3 12 i (some i)) 9 0 (3 + 2 * i) (some (3 + 2 * i))) 3 13 i (some (3 + 2 * i))) 9 0 (4 + 2 * i) (some (4 + 2 * i))) 3 14 i (some (4 + 2 * i))) 20 i 0 (some i) c k e = jP P (i + 1) c k e := by
  dsimp only [uP, jP]
  by_cases h3 : c = 3
  · subst h3
    simp only [true_and, show ¬ (3 : Nat) = 20 by omega, show ¬ (3 : Nat) = 9 by omega, false_and, if_false]
    by_cases k0 : k = 12
    · subst k0
      simp only [true_and, show ¬ (12 : Nat) = 13 by omega, show ¬ (12 : Nat) = 14 by omega, false_and, if_false]
      (repeat' split) <;> first | rfl | (exfalso; omega) | (congr 1; omega)
    · by_cases k1 : k = 13
      · subst k1
        simp only [true_and, show ¬ (13 : Nat) = 12 by omega, show ¬ (13 : Nat) = 14 by omega, false_and, if_false]
        (repeat' split) <;> first | rfl | (exfalso; omega) | (congr 1; omega)
      · by_cases k2 : k = 14
        · subst k2
          simp only [true_and, show ¬ (14 : Nat) = 12 by omega, show ¬ (14 : Nat) = 13 by omega, false_and, if_false]
          (repeat' split) <;> first | rfl | (exfalso; omega) | (congr 1; omega)
        · simp only [k0, k1, k2, false_and, if_false]
  · by_cases h9 : c = 9
    · subst h9
      simp only [true_and, show ¬ (9 : Nat) = 20 by omega, show ¬ (9 : Nat) = 3 by omega, false_and, if_false]
      (repeat' split) <;> first | rfl | (exfalso; omega) | (congr 1; omega)
    · by_cases h20 : c = 20
      · subst h20
        simp only [true_and, show ¬ (20 : Nat) = 9 by omega, show ¬ (20 : Nat) = 3 by omega, false_and, if_false]
        (repeat' split) <;> first | rfl | (exfalso; omega) | (congr 1; omega)
      · simp only [h3, h9, h20, false_and, if_false]
theorem jN_s (c : Nat) : (fun c => if c = 15 then i + 1 else if c = 9 then 5 + 2 * i else if c = 19 then 5 + 2 * i else uM (jN N i) 3 c) c = jN N (i + 1) c := by
  dsimp only [uM, jN]
  by_cases h3 : c = 3
  · subst h3; rfl
  · simp only [h3, if_false]
    (repeat' split) <;> first | rfl | omega
theorem jL_s (c e : Nat) : uL (uL (uL (jL L i) 15 i 128) 19 (3 + 2 * i) 500) 19 (4 + 2 * i) 200 c e = jL L (i + 1) c e := by
  dsimp only [uL, jL]
  by_cases h15 : c = 15
  · subst h15
    simp only [true_and, show ¬ (15 : Nat) = 19 by omega, false_and, if_false]
    (repeat' split) <;> first | rfl | (exfalso; omega)
  · by_cases h19 : c = 19
    · subst h19
      simp only [true_and, show ¬ (19 : Nat) = 15 by omega, false_and, if_false]
      (repeat' split) <;> first | rfl | (exfalso; omega)
    · simp only [h15, h19, false_and, if_false]
theorem k_jobs_l {w : Int32} (hN10 : N 10 = 1) (hN20 : N 20 = 1) (hP : P 10 2 0 = some 0) (hL : L 20 0 = 4) (hg : ∀ i, i < 4 → g 3 i = z + 6 * i ∧ g 15 i = z + 6 * i + 1 ∧ g 9 (3 + 2 * i) = z + 6 * i + 2 ∧ g 19 (3 + 2 * i) = z + 6 * i + 3 ∧ g 9 (4 + 2 * i) = z + 6 * i + 4 ∧ g 19 (4 + 2 * i) = z + 6 * i + 5) : ∀ m i s, i + m = 4 → FC s (jI I i) (jP P i) (jN N i) (jL L i) (z + 6 * i) (l + 849 * i) → ∃ s', (∀ X, Rn g 86 114 [oC, some (.inl w), some (.inl (nI i))] [] s X ↔ X = (s', none)) ∧ FC s' (jI I 4) (jP P 4) (jN N 4) (jL L 4) (z + 24) (l + 3396)
  | 0, i, s, hi, f => by
    obtain rfl : i = 4 := by omega
    have e1 : cn s 10 = 1 := by rw [FC_cn f]; exact hN10
    have e2 : cn s 20 = 1 := by rw [FC_cn f]; exact hN20
    have e3 : gP s 10 2 0 = some 0 := by rw [FC_gP f]; exact hP
    have e4 : ln s 20 0 = 4 := by rw [FC_ln f _ _ (by omega)]; exact hL
    have h1 : nI 4 ≤ nI 4 := by decide
    refine ⟨s, fun X => ?_, f⟩
    simp only [e86_114, e86_115, e86_116, e86_119, e86_120, e86_143, MM, MK, e1, e2, e3, e4, ofN, h1, if_true, Nat.zero_lt_one]
  | m + 1, i, s, hi, f => by
    have e1 : cn s 10 = 1 := by rw [FC_cn f]; exact hN10
    have e2 : cn s 20 = 1 := by rw [FC_cn f]; exact hN20
    have e3 : gP s 10 2 0 = some 0 := by rw [FC_gP f]; exact hP
    have e4 : ln s 20 0 = 4 := by rw [FC_ln f _ _ (by omega)]; exact hL
    have e5 : cn s 3 = i := by rw [FC_cn f]; rfl
    obtain ⟨g1, g2, g3, g4, g5, g6⟩ := hg i (by omega)
    have e6 : sz s = g 3 i := by rw [FC_sz f, g1]
    have h1 : ¬ nI 4 ≤ nI i := nI_ge (by omega) (by omega)
    have f1 := FC_nw (c := 3) (n := 15) f (by omega)
    obtain ⟨s1, r1, f2⟩ := k_job (g := g) (j := i) f1 (by omega) (by rw [uM_c]; rfl) (by rw [uM_n (by omega)]; rfl) (by rw [uM_n (by omega)]; rfl) (by rw [uM_n (by omega)]; rfl) (by omega) (by omega) (by omega) (by omega) (by omega)
    have f3 := FC_sP (c := 20) (k := i) (i := 0) (v := some i) f2 (by rw [if_neg (by omega), if_neg (by omega), if_neg (by omega), uM_n (by omega)]; show 0 < N 20; omega)
    have d1 : cn s1 20 = 1 := by rw [FC_cn f2]; exact hN20
    have d2 : cn s1 3 = i + 1 := by rw [FC_cn f2]; rfl
    have d3 : ln s1 20 0 = 4 := by rw [FC_ln f2 _ _ (by omega)]; exact hL
    have f4 := FC_cg (I' := jI I (i + 1)) (P' := jP P (i + 1)) (N' := jN N (i + 1)) (L' := jL L (i + 1)) (z' := z + 6 * (i + 1)) (l' := l + 849 * (i + 1)) f3 jI_s jP_s jN_s (fun c e _ => jL_s c e) (by omega) (by omega)
    obtain ⟨s', r2, f5⟩ := k_jobs_l (w := w) hN10 hN20 hP hL hg m (i + 1) _ (by omega) f4
    refine ⟨s', fun X => ?_, f5⟩
    rw [← r2]
    simp only [e86_114, e86_115, e86_116, e86_119, e86_120, e86_123, e86_124, e86_127, e86_128, e86_131, e86_132, e86_133, e86_136, e86_136m, n86_137, MM, MK, e1, e2, e3, e4, e5, e6, ofN, h1, r1, d1, d2, d3, e86_140, nI_1, inN (show i < 4 by omega) (show 4 ≤ 65536 by omega), Nat.lt_succ_self, if_true, if_false, Nat.zero_lt_one, exists_eq_left, List.nil_append, List.cons_append, List.append_nil]
end Fc5
