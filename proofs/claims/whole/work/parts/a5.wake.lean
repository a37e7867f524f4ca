/-! jobs that waited wake -/
def wk1 (s : Sg) (i : Nat) : Sg := if gI s 3 1 i = 2 then (match gP s 3 11 i with
  | none => s
  | some k => match gP s 4 2 k with
    | none => s
    | some f => if gI s 2 1 f = 1 then sP (sI s 3 1 i 1) 3 11 i none else s) else s
def wjC : Nat → Nat → Sg → Sg
  | _, 0, s => s
  | i, n + 1, s => wjC (i + 1) n (wk1 s i)
def wr1 (t : Sg) (nf i : Nat) : Sg := if gI t 22 i 0 = 2 then (match frmF t nf (nI i) (gI t 25 i 0) with
  | none => t
  | some f => if gI t 42 f 0 = 1 then rdyF t i else t) else t
def wjR (nf : Nat) : Nat → Nat → Sg → Sg
  | _, 0, t => t
  | i, n + 1, t => wjR nf (i + 1) n (wr1 t nf i)
/-- wanted pages and their frames are ones -/
def WQ (s : Sg) (nf : Nat) : Prop := (∀ j k, j < 4 → gP s 3 11 j = some k → k < 64) ∧ ∀ k f, k < 64 → gP s 4 2 k = some f → f < nf
section Wak1
variable {g : Nat → Nat → Nat} {s t u : Sg} {X : Sg × Option Av} {nf B : Nat} {Q : List Nat}
theorem LC_wk1 {i : Nat} (h : LC s nf) : LC (wk1 s i) nf := by
  unfold wk1
  split
  · split
    · exact h
    · split
      · exact h
      · split
        · exact LC_sP (LC_sI h (by omega)) (by unfold dyP; omega)
        · exact h
  · exact h
theorem WQ_wk1 {i : Nat} (h : WQ s nf) : WQ (wk1 s i) nf := by
  unfold wk1
  split
  · split
    · exact h
    · split
      · exact h
      · split
        · refine ⟨fun j k hj e => ?_, h.2⟩
          rw [gP_sP] at e
          split at e
          · cases e
          · exact h.1 j k hj e
        · exact h
  · exact h
theorem c_wake_l : ∀ n i (s : Sg) (z : Option Av), LC s nf → WQ s nf → i + n = 4 → (Rn g 110 2 [some (.inr (.inr (some (10, 0)))), some (.inl (nI i)), z] [] s X ↔ X = (wjC i n s, none))
  | 0, i, s, z, h, hw, hi => by
    obtain rfl : i = 4 := by omega
    have h1 : nI 4 ≤ nI 4 := by decide
    simp [Q110, II, MM, MK, h, ofN, h1, wjC]
  | n + 1, i, s, z, h, hw, hi => by
    have h1 : ¬ nI 4 ≤ nI i := nI_ge (by omega) (by omega)
    have hi4 : i < 4 := by omega
    have ih := fun z => c_wake_l n (i + 1) (wk1 s i) z (LC_wk1 h) (WQ_wk1 hw) (by omega)
    unfold wk1 at ih
    rw [wjC, wk1]
    by_cases a1 : gI s 3 1 i = 2
    · cases e : gP s 3 11 i with
      | none =>
        rw [a1, if_pos rfl, e] at ih
        rw [a1, if_pos rfl]
        simp [Q110, II, MM, MK, h, ofN, h1, hi4, inN hi4, a1, e]
        simp only [e110_50, nI_1, ih]
      | some k =>
        have hk := hw.1 i k hi4 e
        have r1 := fun X => c_isInUse (g := g) (X := X) h hk (fun f => hw.2 k f hk)
        cases e2 : gP s 4 2 k with
        | none =>
          rw [a1, if_pos rfl, e] at ih
          dsimp only at ih
          rw [e2] at ih r1
          rw [a1, if_pos rfl]
          dsimp only at ih r1 ⊢
          rw [e2]
          dsimp only
          simp [Q110, II, MM, MK, h, ofN, h1, hi4, inN hi4, a1, e, hk, r1]
          simp only [e110_50, nI_1, ih]
        | some f =>
          rw [a1, if_pos rfl, e] at ih
          dsimp only at ih
          rw [e2] at ih r1
          rw [a1, if_pos rfl]
          dsimp only at ih r1 ⊢
          rw [e2]
          dsimp only
          by_cases a3 : gI s 2 1 f = 1
          · have r2 := fun X => c_wake (g := g) (X := X) h hi4
            rw [if_pos a3] at ih r1
            rw [if_pos a3]
            simp [Q110, II, MM, MK, h, ofN, h1, hi4, inN hi4, a1, e, hk, r1, r2]
            simp only [e110_50, nI_1, ih]
          · rw [if_neg a3] at ih r1
            rw [if_neg a3]
            simp [Q110, II, MM, MK, h, ofN, h1, hi4, inN hi4, a1, e, hk, r1]
            simp only [e110_50, nI_1, ih]
    · rw [if_neg a1] at ih
      rw [if_neg a1]
      simp [Q110, II, MM, MK, h, ofN, h1, hi4, inN hi4, a1]
      simp only [e110_50, nI_1, ih]
theorem LR_wr1 {i : Nat} (h : LR t nf) : LR (wr1 t nf i) nf := by
  unfold wr1
  split
  · split
    · exact h
    · split
      · exact LR_sI (by omega) (LR_sI (by omega) h)
      · exact h
  · exact h
theorem r_bring_1 : ∀ n i (t : Sg), LR t nf → i + n = 4 → (Rn g 145 2 [some (.inr (.inr (some (11, 0)))), some (.inl (nI i)), none] [] t X ↔ Rn g 145 62 [some (.inr (.inr (some (11, 0)))), some (.inl (nI 4)), none] [] (wjR nf i n t) X)
  | 0, i, t, h, hi => by
    obtain rfl : i = 4 := by omega
    have h1 : (4 : Int32) ≤ nI 4 := by decide
    simp only [e145_2, e145_3, e145_4, MM, MK, h1, wjR, if_true]
  | n + 1, i, t, h, hi => by
    have h1 : ¬ (4 : Int32) ≤ nI i := nI_ge (b := 4) (by omega) (by decide)
    have hi4 : i < 4 := by omega
    have ih := r_bring_1 n (i + 1) (wr1 t nf i) (LR_wr1 h) (by omega)
    have r1 := fun X => r_frameOf (g := g) (X := X) h (nI i) (gI t 25 i 0)
    have hnf : nf ≤ 16 := h.1.2.2.2
    rw [wjR]
    unfold wr1 at ih ⊢
    by_cases a1 : gI t 22 i 0 = 2
    · rw [if_pos a1] at ih ⊢
      cases e : frmF t nf (nI i) (gI t 25 i 0) with
      | none =>
        rw [e] at ih r1
        dsimp only at ih ⊢
        have hm : oi none < 0 := by decide
        simp [e145_2, e145_3, e145_4, e145_7, e145_8, e145_11, e145_12, e145_13, e145_14, e145_17, e145_18, e145_19, e145_20, e145_23, e145_24, e145_25, e145_28, e145_31, e145_32, e145_35, e145_36, e145_37, e145_38, e145_41, e145_42, e145_43, e145_46, e145_47, e145_48, e145_51, e145_52, e145_53, n145_56, MM, MK, h, h1, inN hi4, a1, r1, hm]
        rw [e145_59, nI_1]
        exact ih
      | some f =>
        rw [e] at ih r1
        dsimp only at ih ⊢
        have hf : f < nf := by have := (ff_some e).2.1; omega
        have hm : ¬ nI f < 0 := nI_pos (by omega)
        by_cases a3 : gI t 42 f 0 = 1
        · rw [if_pos a3] at ih ⊢
          have r2 := fun X => r_ready (g := g) (X := X) h hi4
          simp [e145_2, e145_3, e145_4, e145_7, e145_8, e145_11, e145_12, e145_13, e145_14, e145_17, e145_18, e145_19, e145_20, e145_23, e145_24, e145_25, e145_28, e145_31, e145_32, e145_35, e145_36, e145_37, e145_38, e145_41, e145_42, e145_43, e145_46, e145_47, e145_48, e145_51, e145_52, e145_53, n145_56, MM, MK, h, h1, inN hi4, a1, r1, oi_s, hm, inN (show f < 16 by omega), a3, r2]
          rw [e145_59, nI_1]
          exact ih
        · rw [if_neg a3] at ih ⊢
          simp [e145_2, e145_3, e145_4, e145_7, e145_8, e145_11, e145_12, e145_13, e145_14, e145_17, e145_18, e145_19, e145_20, e145_23, e145_24, e145_25, e145_28, e145_31, e145_32, e145_35, e145_36, e145_37, e145_38, e145_41, e145_42, e145_43, e145_46, e145_47, e145_48, e145_51, e145_52, e145_53, n145_56, MM, MK, h, h1, inN hi4, a1, r1, oi_s, hm, inN (show f < 16 by omega), a3]
          rw [e145_59, nI_1]
          exact ih
    · rw [if_neg a1] at ih ⊢
      simp [e145_2, e145_3, e145_4, e145_7, e145_8, e145_11, e145_12, e145_13, e145_14, e145_17, e145_18, e145_19, e145_20, e145_23, e145_24, e145_25, e145_28, e145_31, e145_32, e145_35, e145_36, e145_37, e145_38, e145_41, e145_42, e145_43, e145_46, e145_47, e145_48, e145_51, e145_52, e145_53, n145_56, MM, MK, h, h1, inN hi4, a1]
      rw [e145_59, nI_1]
      exact ih
/-- what a waiting job waits for -/
theorem rl_wait (h : Rl g s t nf B Q) {i : Nat} (hi : i < 4) (hs : gI t 22 i 0 = 2) : ∃ k, k < 64 ∧ gP s 3 11 i = some k ∧ gI t 38 k 0 = nI i ∧ gI t 39 k 0 = gI t 25 i 0 ∧ slotF t (nI i) (gI t 25 i 0) = some k ∧ frmF t nf (nI i) (gI t 25 i 0) = gP s 4 2 k ∧ plcF t (nI i) (gI t 25 i 0) = gP s 4 3 k := by
  rcases h.2.1.2.2.1 i hi with e | ⟨k, e1, e2, e3, e4, e5⟩
  · exact absurd hs e.2.2
  · have hsl := lk_sl h hi e1 e4 e5
    refine ⟨k, e1, e2, e4, e5, hsl, ?_, ?_⟩
    · rw [lk_frm h hi, hsl]; rfl
    · rw [lk_plc h hi, hsl]; rfl
theorem rl_wk1 (h : Rl g s t nf B Q) {i : Nat} (hi : i < 4) : Rl g (wk1 s i) (wr1 t nf i) nf B Q := by
  have e1 := h.2.1.1.1 i hi
  unfold wk1 wr1
  rw [e1]
  by_cases a1 : gI t 22 i 0 = 2
  · obtain ⟨k, b1, b2, b3, b4, b5, b6, b7⟩ := rl_wait h hi a1
    rw [if_pos a1, if_pos a1, b2, b6]
    dsimp only
    cases e : gP s 4 2 k with
    | none => exact h
    | some f =>
      dsimp only
      obtain ⟨h1, h2, h3⟩ := ss_d h.2.2.1.2.2.2.2.1
      have hf := (h2 k f b1 e).1
      rw [h.2.2.1.1.1 f hf]
      by_cases a3 : gI t 42 f 0 = 1
      · rw [if_pos a3, if_pos a3]
        exact rl_wake h hi a1
      · rw [if_neg a3, if_neg a3]
        exact h
  · rw [if_neg a1, if_neg a1]
    exact h
theorem rl_wj : ∀ n i (s t : Sg), i + n = 4 → Rl g s t nf B Q → Rl g (wjC i n s) (wjR nf i n t) nf B Q
  | 0, _, _, _, _, h => h
  | n + 1, i, s, t, hi, h => rl_wj n (i + 1) _ _ (by omega) (rl_wk1 h (by omega))
theorem rl_WQ (h : Rl g s t nf B Q) : WQ s nf := by
  obtain ⟨h1, h2, h3⟩ := ss_d h.2.2.1.2.2.2.2.1
  refine ⟨fun j k hj e => ?_, fun k f hk e => (h2 k f hk e).1⟩
  rcases h.2.1.2.2.1 j hj with e1 | ⟨k', e1, e2, e3⟩
  · rw [e1.1] at e; cases e
  · rw [e2] at e; cases e; exact e1
end Wak1
