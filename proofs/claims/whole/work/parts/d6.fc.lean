/-! constructors: the reference; both programs begin alike -/
def rI (nf p i : Nat) : Nat → Nat → Nat → Int32 := fun c k e => if c = 11 ∧ k = 0 ∧ e = 0 then nI nf else if c = 11 ∧ k = 33 ∧ e = 0 then -1 else if (c = 38 ∨ c = 49) ∧ e = 0 ∧ k < p then -1 else if (c = 25 ∨ c = 29) ∧ e = 0 ∧ k < i then -1 else 0
def RI (t : Sg) (b nf l p i : Nat) : Prop := LR t nf ∧ (∀ c k e, gI t c k e = rI nf p i c k e) ∧ (∀ c k e, gJ t c k e = 0) ∧ sz t = b + 205 + nf ∧ sl t ≤ l + 50000
section Fc8
variable {g : Nat → Nat → Nat} {s t : Sg} {X : Sg × Option Av} {b nf l : Nat}
theorem k_mod2 {w : Int32} : ∀ m i (t : Sg), i + m = 64 → RI t b nf l i 0 → ∃ t', (∀ X, Rn g 120 299 [oR, some (.inl w), some (.inl (nI i))] [] t X ↔ Rn g 120 325 [oR, some (.inl w), some (.inl 64)] [] t' X) ∧ RI t' b nf l 64 0
  | 0, i, t, hi, h => by
    obtain rfl : i = 64 := by omega
    have h1 : (64 : Int32) ≤ nI 64 := by decide
    refine ⟨t, fun X => ?_, h⟩
    simp only [e120_299, e120_300, e120_302, MK, h1, if_true]
    rfl
  | m + 1, i, t, hi, h => by
    have h1 : ¬ (64 : Int32) ≤ nI i := nI_ge (b := 64) (by omega) (by omega)
    obtain ⟨q1, q2, q3, q4, q5⟩ := h
    have l1 : LR (sI t 38 i 0 (-1)) nf := LR_sI (by omega) q1
    have l2 : LR (sI (sI t 38 i 0 (-1)) 49 i 0 (-1)) nf := LR_sI (by omega) l1
    obtain ⟨t', r, r2⟩ := k_mod2 (w := w) m (i + 1) (sI (sI t 38 i 0 (-1)) 49 i 0 (-1)) (by omega) ⟨l2, fun c k e => by
      rw [gI_sI, gI_sI, q2]
      unfold rI
      by_cases c38 : c = 38
      · subst c38
        simp only [true_and, true_or, show ¬ (38 : Nat) = 49 by omega, show ¬ (38 : Nat) = 11 by omega, show ¬ (38 : Nat) = 25 by omega, show ¬ (38 : Nat) = 29 by omega, false_and, false_or, or_false, if_false]
        (repeat' split) <;> first | rfl | (exfalso; omega)
      · by_cases c49 : c = 49
        · subst c49
          simp only [true_and, or_true, show ¬ (49 : Nat) = 38 by omega, show ¬ (49 : Nat) = 11 by omega, show ¬ (49 : Nat) = 25 by omega, show ¬ (49 : Nat) = 29 by omega, false_and, false_or, or_false, if_false]
          (repeat' split) <;> first | rfl | (exfalso; omega)
        · simp only [c38, c49, false_and, or_self, if_false], q3, q4, q5⟩
    refine ⟨t', fun X => ?_, r2⟩
    rw [← r]
    simp only [e120_299, e120_300, e120_302, e120_305, e120_306, e120_309, e120_310, e120_311, e120_312, e120_313, e120_316, e120_317, e120_318, n120_319, MM, MK, q1, l1, h1, inN (show i < 64 by omega) (show 64 ≤ 65536 by omega), e120_322, nI_1, if_true, if_false, Nat.zero_lt_one]
theorem RI_fr {i : Nat} (hi : i < 4) (h : RI t b nf l 64 i) : RI (frF t i) b nf l 64 (i + 1) := by
  obtain ⟨q1, q2, q3, q4, q5⟩ := h
  unfold frF
  rw [zb_eq]
  refine ⟨LR_gh q1 rfl ?_, fun c k e => ?_, fun c k e => ?_, q4, q5⟩
  · show gI (sJ (sI (sI (sI (sI (sI (sI (sI (sI (sI (sI (sI (sI t 22 i 0 0) 23 i 0 0) 24 i 0 0) 25 i 0 (-1)) 26 i 0 0) 27 i 0 0) 28 i 0 0) 29 i 0 (-1)) 30 i 0 0) 31 i 0 0) 32 i 0 0) 41 i 0 0) 34 i 0 0) 11 0 0 = _
    simp [MM]
  · show (if c = 33 ∧ e = 0 ∧ 128 * i + 0 ≤ k ∧ k < 128 * i + 0 + 128 then (0 : Int32) else gI (sJ (sI (sI (sI (sI (sI (sI (sI (sI (sI (sI (sI (sI t 22 i 0 0) 23 i 0 0) 24 i 0 0) 25 i 0 (-1)) 26 i 0 0) 27 i 0 0) 28 i 0 0) 29 i 0 (-1)) 30 i 0 0) 31 i 0 0) 32 i 0 0) 41 i 0 0) 34 i 0 0) c k e) = _
    rw [gI_sJ]
    simp only [gI_sI, q2]
    by_cases c25 : c = 25
    · subst c25
      unfold rI
      simp only [true_and, true_or, show ¬ (25 : Nat) = 33 by omega, show ¬ (25 : Nat) = 22 by omega, show ¬ (25 : Nat) = 23 by omega, show ¬ (25 : Nat) = 24 by omega, show ¬ (25 : Nat) = 26 by omega, show ¬ (25 : Nat) = 27 by omega, show ¬ (25 : Nat) = 28 by omega, show ¬ (25 : Nat) = 29 by omega, show ¬ (25 : Nat) = 30 by omega, show ¬ (25 : Nat) = 31 by omega, show ¬ (25 : Nat) = 32 by omega, show ¬ (25 : Nat) = 41 by omega, show ¬ (25 : Nat) = 11 by omega, show ¬ (25 : Nat) = 38 by omega, show ¬ (25 : Nat) = 49 by omega, false_and, or_false, or_self, if_false]
      (repeat' split) <;> first | rfl | (exfalso; omega)
    · by_cases c29 : c = 29
      · subst c29
        unfold rI
        simp only [true_and, or_true, show ¬ (29 : Nat) = 33 by omega, show ¬ (29 : Nat) = 22 by omega, show ¬ (29 : Nat) = 23 by omega, show ¬ (29 : Nat) = 24 by omega, show ¬ (29 : Nat) = 26 by omega, show ¬ (29 : Nat) = 27 by omega, show ¬ (29 : Nat) = 28 by omega, show ¬ (29 : Nat) = 25 by omega, show ¬ (29 : Nat) = 30 by omega, show ¬ (29 : Nat) = 31 by omega, show ¬ (29 : Nat) = 32 by omega, show ¬ (29 : Nat) = 41 by omega, show ¬ (29 : Nat) = 11 by omega, show ¬ (29 : Nat) = 38 by omega, show ¬ (29 : Nat) = 49 by omega, false_and, false_or, or_false, or_self, if_false]
        (repeat' split) <;> first | rfl | (exfalso; omega)
      · have e1 : rI nf 64 (i + 1) c k e = rI nf 64 i c k e := by
          unfold rI
          simp only [c25, c29, or_self, false_and, if_false]
        rw [e1]
        simp only [c25, c29, false_and, if_false]
        have z0 : ∀ a, (a = 33 ∨ a = 22 ∨ a = 23 ∨ a = 24 ∨ a = 26 ∨ a = 27 ∨ a = 28 ∨ a = 30 ∨ a = 31 ∨ a = 32 ∨ a = 41) → c = a → (0 : Int32) = rI nf 64 i c k e := fun a ha hc => by
          unfold rI
          rw [if_neg (by omega), if_neg (by omega), if_neg (by omega), if_neg (by omega)]
        (repeat' split) <;> first | rfl | exact z0 c (by omega) rfl
  · show (if c = 34 ∧ k = i ∧ e = 0 then (0 : Int64) else gJ t c k e) = 0
    rw [q3, ite_self]
theorem k_mod3 {w : Int32} : ∀ m i (t : Sg), i + m = 4 → RI t b nf l 64 i → ∃ t', (∀ X, Rn g 120 327 [oR, some (.inl w), some (.inl (nI i))] [] t X ↔ X = (t', none)) ∧ RI t' b nf l 64 4
  | 0, i, t, hi, h => by
    obtain rfl : i = 4 := by omega
    have h1 : (4 : Int32) ≤ nI 4 := by decide
    refine ⟨t, fun X => ?_, h⟩
    simp only [e120_327, e120_328, e120_329, e120_343, MK, h1, if_true]
  | m + 1, i, t, hi, h => by
    have h1 : ¬ (4 : Int32) ≤ nI i := nI_ge (b := 4) (by omega) (by omega)
    have r0 := fun X => r_fresh (g := g) (X := X) h.1 (show i < 4 by omega)
    obtain ⟨t', r, r2⟩ := k_mod3 (w := w) m (i + 1) (frF t i) (by omega) (RI_fr (by omega) h)
    refine ⟨t', fun X => ?_, r2⟩
    rw [← r]
    simp only [e120_327, e120_328, e120_329, e120_332, e120_333, e120_334, n120_337, MM, MK, h.1, h1, r0, e120_340, nI_1, if_true, if_false, Nat.zero_lt_one, exists_eq_left, List.nil_append, List.cons_append, List.append_nil]
theorem k_mod {w : Int32} (h3 : 3 ≤ nf) (h16 : nf ≤ 16) (hw : (if (3 : Int32) ≤ w then (if w ≤ 16 then w else 16) else 3) = nI nf) (f0 : FC t (fun _ _ _ => 0) (fun _ _ _ => none) (fun c => if c = 11 then 1 else 0) (fun _ _ => 0) (b + 171 + nf) l) : ∃ t', (∀ X, Rn (gC b nf) 120 0 [oR, some (.inl w), none] [] t X ↔ X = (t', none)) ∧ RI t' b nf l 64 4 := by
  obtain ⟨t1, a1, q1, q2, q3, q4, q5, q6⟩ := k_mod1 (w := w) h3 h16 f0
  have h : RI (sI t1 11 0 0 (nI nf)) b nf l 0 0 := ⟨q1, fun c k e => by
    rw [gI_sI, q3]
    unfold rI
    rw [if_neg (c := (c = 38 ∨ c = 49) ∧ e = 0 ∧ k < 0) (by omega), if_neg (c := (c = 25 ∨ c = 29) ∧ e = 0 ∧ k < 0) (by omega)], q4, q5, q6⟩
  obtain ⟨t2, a2, h2⟩ := k_mod2 (g := gC b nf) (w := w) 64 0 _ (by omega) h
  obtain ⟨t3, a3, h4⟩ := k_mod3 (g := gC b nf) (w := w) 4 0 t2 (by omega) h2
  rw [nI_0] at a2 a3
  refine ⟨t3, fun X => ?_, h4⟩
  rw [a1, ← a3]
  have e1 : Rn (gC b nf) 120 272 [oR, some (.inl w), none] [] t1 X ↔ Rn (gC b nf) 120 299 [oR, some (.inl w), some (.inl 0)] [] (sI t1 11 0 0 (nI nf)) X := by
    rw [← hw]
    by_cases c : (3 : Int32) ≤ w
    · by_cases d : w ≤ 16
      · simp only [e120_272, e120_273, e120_274, e120_275, e120_278, e120_279, e120_282, e120_283, e120_285, e120_288, e120_290, e120_293, e120_294, e120_297, e120_298, MM, MK, q2, c, d, if_true, if_false, Nat.zero_lt_one]
      · simp only [e120_272, e120_273, e120_274, e120_275, e120_278, e120_279, e120_282, e120_283, e120_285, e120_288, e120_290, e120_293, e120_294, e120_297, e120_298, MM, MK, q2, c, d, if_true, if_false, Nat.zero_lt_one]
    · simp only [e120_272, e120_273, e120_274, e120_275, e120_278, e120_279, e120_282, e120_283, e120_285, e120_288, e120_290, e120_293, e120_294, e120_297, e120_298, MM, MK, q2, c, if_true, if_false, Nat.zero_lt_one]
  rw [e1, a2]
  simp only [e120_325, e120_326, MK]
end Fc8
