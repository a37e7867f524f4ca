/-! the reference: looks, the printer, the end of a job -/
section Ref3
variable {g : Nat → Nat → Nat} {t : Sg} {X : Sg × Option Av} {nf : Nat}
def lk1 (t : Sg) (f : Nat) : Sg := if gI t 42 f 0 = 1 then sI (if gI t 47 f 0 = 1 then sI (if 0 < gI t 45 f 0 then sI t 46 f 0 (gI t 45 f 0) else t) 45 f 0 0 else sI t 45 f 0 (gI t 45 f 0 + 1)) 47 f 0 0 else t
def lkF : Sg → Nat → Nat → Sg
  | t, _, 0 => t
  | t, i, n + 1 => lkF (lk1 t i) (i + 1) n
theorem LR_lk1 {f : Nat} (h : LR t nf) : LR (lk1 t f) nf := by
  unfold lk1
  split
  · refine LR_sI (by omega) ?_
    split
    · refine LR_sI (by omega) ?_
      split
      · exact LR_sI (by omega) h
      · exact h
    · exact LR_sI (by omega) h
  · exact h
theorem r_look_l : ∀ n i (t : Sg), LR t nf → i + n = nf → (Rn g 148 12 [some (.inr (.inr (some (11, 0)))), some (.inl (nI i))] [] t X ↔ X = (lkF t i n, none))
  | 0, i, t, h, hi => by
    have h1 : nI nf ≤ nI i := nI_le (by omega) (by have := h.1; omega)
    simp [Q148, II, MK, h, h1, lkF]
  | n + 1, i, t, h, hi => by
    have h1 : ¬ nI nf ≤ nI i := nI_ge (by omega) (by have := h.1; omega)
    have ih := r_look_l n (i + 1) (lk1 t i) (LR_lk1 h) (by omega)
    have hi16 := inN (show i < 16 by have := h.1; omega) (by omega)
    unfold lk1 at ih
    by_cases a1 : gI t 42 i 0 = 1
    · by_cases a2 : gI t 47 i 0 = 1
      · by_cases a3 : 0 < gI t 45 i 0
        · simp [a1, a2, a3] at ih
          simp [Q148, II, MM, MK, h, h1, hi16, e148_94, nI_1, a1, a2, a3, ih, lkF, lk1, i32_le]
        · simp [a1, a2, a3] at ih
          simp [Q148, II, MM, MK, h, h1, hi16, e148_94, nI_1, a1, a2, a3, ih, lkF, lk1, i32_le]
      · simp [a1, a2] at ih
        simp [Q148, II, MM, MK, h, h1, hi16, e148_94, nI_1, a1, a2, ih, lkF, lk1]
    · simp [a1] at ih
      simp [Q148, II, MM, MK, h, h1, hi16, e148_94, nI_1, a1, ih, lkF, lk1]
theorem r_look (h : LR t nf) : Rn g 148 0 [some (.inr (.inr (some (11, 0)))), none] [] t X ↔ X = (lkF (sI t 11 50 0 (gI t 11 50 0 + 1)) 0 nf, none) := by
  have := r_look_l (g := g) (X := X) nf 0 (sI t 11 50 0 (gI t 11 50 0 + 1)) (LR_sI (by omega) h) (by omega)
  simp [e148_0, e148_1, e148_2, e148_5, e148_6, e148_7, e148_10, e148_11, MM, MK, h]
  exact this
end Ref3
