/-! the drum turns: the reference's loop over the queue -/
/-- the free places of sector c, by their number in it -/
abbrev seP (t : Sg) (c e : Nat) : Prop := gI t 49 (8 * e + c) 0 = -1
def seV (a : Int32) (c : Nat) (o : Option Nat) : Int32 := match o with
  | none => a
  | some e => nI (8 * e + c)
section Beg2
variable {g : Nat → Nat → Nat} {s t u : Sg} {X : Sg × Option Av} {nf B : Nat} {Q : List Nat} {n : Int32}
theorem seV_last {c m : Nat} {a : Int32} (h : seP t c m) : seV (nI (8 * m + c)) c (ff (seP t c) 0 m) = seV a c (ff (seP t c) 0 (m + 1)) := by
  rw [ff_snoc]
  cases e : ff (seP t c) 0 m with
  | none =>
    simp only [Nat.zero_add, if_pos h]
    rfl
  | some k => rfl
theorem seV_skip {c m : Nat} {a : Int32} (h : ¬ seP t c m) : seV a c (ff (seP t c) 0 m) = seV a c (ff (seP t c) 0 (m + 1)) := by
  rw [ff_snoc]
  cases e : ff (seP t c) 0 m with
  | none =>
    simp only [Nat.zero_add, if_neg h]
  | some k => rfl
theorem r_drum_in (h : LR t nf) {c : Nat} {k : Int32} (hc : c < 8) : ∀ m (a : Int32), m ≤ 8 → (Rn g 140 153 [some (.inr (.inr (some (11, 0)))), some (.inl n), some (.inl (nI c)), some (.inl k), some (.inl a), some (.inl (nI (8 * m + c) - 8))] [] t X ↔ Rn g 140 215 [some (.inr (.inr (some (11, 0)))), some (.inl n), some (.inl (nI c)), some (.inl k), some (.inl (seV a c (ff (seP t c) 0 m))), some (.inl (nI c - 8))] [] t X)
  | 0, a, hm => by
    have h1 : nI (8 * 0 + c) - 8 < 0 := by
      rw [show 8 * 0 + c = c by omega, Int32.lt_iff_toInt_lt, Int32.toInt_sub, nI_toInt (by omega), show (8 : Int32).toInt = 8 by decide, show (0 : Int32).toInt = 0 by decide]
      simp only [Int.bmod]
      omega
    have h2 : seV a c (ff (seP t c) 0 0) = a := rfl
    rw [h2]
    rw [show 8 * 0 + c = c by omega] at h1 ⊢
    simp [e140_153, e140_155, e140_158, e140_159, e140_162, e140_164, e140_165, e140_166, e140_169, e140_171, e140_174, e140_176, n140_178, e140_184, MM, MK, h, h1]
  | m + 1, a, hm => by
    have e0 : nI (8 * (m + 1) + c) - 8 = nI (8 * m + c) := by
      have := nI_sub (a := 8 * (m + 1) + c) (b := 8) (by omega)
      rw [show 8 * (m + 1) + c - 8 = 8 * m + c by omega] at this
      exact this
    have h1 : ¬ nI (8 * m + c) < 0 := nI_pos (by omega)
    have hi := inN (show 8 * m + c < 64 by omega) (by omega)
    have e1 : nI (8 * m + c) + -8 = nI (8 * m + c) - 8 := (Int32.sub_eq_add_neg _ _).symm
    have ih := fun a => r_drum_in (k := k) h hc m a (by omega)
    rw [e0]
    by_cases q : gI t 49 (8 * m + c) 0 = -1
    · have := ih (nI (8 * m + c))
      rw [seV_last (a := a) q] at this
      simp only [e140_153, e140_155, e140_158, e140_159, e140_162, e140_164, e140_165, e140_166, e140_169, e140_171, e140_174, e140_176, n140_178, MM, MK, h, h1, hi, q, if_true, if_false, Nat.zero_lt_one]
      rw [e140_181, e1]
      exact this
    · have := ih a
      rw [seV_skip q] at this
      simp only [e140_153, e140_155, e140_158, e140_159, e140_162, e140_164, e140_165, e140_166, e140_169, e140_171, e140_174, e140_176, n140_178, MM, MK, h, h1, hi, q, if_true, if_false, Nat.zero_lt_one]
      rw [e140_181, e1]
      exact this
/-- the place for what stands at i of the queue -/
def plR (t : Sg) (c f i : Nat) : Int32 := if gI t 52 i 0 = 1 then seV (-1) c (ff (seP t c) 0 8) else oi (plcF t (gI t 43 f 0) (gI t 44 f 0))
def btR (t : Sg) (n : Int32) (c q : Nat) : Nat → Nat → Sg
  | _, 0 => t
  | i, m + 1 => if plR t c (gI t 51 i 0).toNatClampNeg i = -1 ∨ ¬ plR t c (gI t 51 i 0).toNatClampNeg i - plR t c (gI t 51 i 0).toNatClampNeg i / 8 * 8 = nI c then btR t n c q (i + 1) m else bgR t n (gI t 51 i 0).toNatClampNeg (plR t c (gI t 51 i 0).toNatClampNeg i).toNatClampNeg i q
theorem r_drum_l (h : LR t nf) {c q : Nat} (hc : c < 8) (hm : gI t 11 33 0 < 0) (hq : gI t 11 42 0 = nI q) (hq32 : q ≤ 32) (hQ : ∀ k, k < q → ∃ f, f < nf ∧ gI t 51 k 0 = nI f) (hpl : ∀ f i, f < nf → i < q → plR t c f i = -1 ∨ ∃ p, p < 64 ∧ plR t c f i = nI p) : ∀ m i (z4 z5 : Option Av), i + m = q → (Rn g 140 119 [some (.inr (.inr (some (11, 0)))), some (.inl n), some (.inl (nI c)), some (.inl (nI i)), z4, z5] [] t X ↔ X = (btR t n c q i m, none))
  | 0, i, z4, z5, hi => by
    obtain rfl : i = q := by omega
    have h1 : nI i ≤ nI i := nI_le (by omega) (by omega)
    simp only [e140_119, e140_120, e140_121, e140_124, e140_312, MM, MK, h, hq, h1, btR, if_true, Nat.zero_lt_one]
  | m + 1, i, z4, z5, hi => by
    have h1 : ¬ nI q ≤ nI i := nI_ge (by omega) (by omega)
    have h2 : ¬ (0 : Int32) ≤ gI t 11 33 0 := by rw [i32_le]; exact not_not_intro hm
    obtain ⟨f, hf, ef⟩ := hQ i (by omega)
    have hnf : nf ≤ 16 := h.1.2.2.2
    have hf16 := inN (show f < 16 by omega) (by omega)
    have hi32 := inN (show i < 32 by omega) (by omega)
    have ih := fun z4 z5 => r_drum_l h hc hm hq hq32 hQ hpl m (i + 1) z4 z5 (by omega)
    have r56 : (56 : Int32) + nI c = nI (8 * 8 + c) - 8 := by
      have e1 := nI_sub (a := 8 * 8 + c) (b := 8) (by omega)
      rw [show 8 * 8 + c - 8 = 56 + c by omega] at e1
      rw [show nI (8 * 8 + c) - 8 = nI (56 + c) from e1]
      exact nI_add 56 c
    -- to the test of the place
    have k1 : ∃ z5', Rn g 140 119 [some (.inr (.inr (some (11, 0)))), some (.inl n), some (.inl (nI c)), some (.inl (nI i)), z4, z5] [] t X ↔ Rn g 140 215 [some (.inr (.inr (some (11, 0)))), some (.inl n), some (.inl (nI c)), some (.inl (nI i)), some (.inl (plR t c f i)), z5'] [] t X := by
      by_cases w : gI t 52 i 0 = 1
      · refine ⟨some (.inl (nI c - 8)), ?_⟩
        have rin := r_drum_in (g := g) (X := X) (n := n) (k := nI i) h hc 8 (-1) (by omega)
        unfold plR
        rw [if_pos w, ← rin]
        simp only [e140_119, e140_120, e140_121, e140_124, e140_127, e140_128, e140_131, e140_134, e140_135, e140_137, e140_138, e140_141, e140_142, e140_143, e140_144, e140_147, e140_149, e140_150, e140_151, MM, MK, h, hq, h1, h2, hi32, w, r56, if_true, if_false, Nat.zero_lt_one]
      · refine ⟨z5, ?_⟩
        have rp := fun X => r_placeOf (g := g) (X := X) h (gI t 43 f 0) (gI t 44 f 0)
        unfold plR
        rw [if_neg w]
        simp only [e140_119, e140_120, e140_121, e140_124, e140_127, e140_128, e140_131, e140_134, e140_135, e140_137, e140_138, e140_141, e140_142, e140_143, e140_144, e140_187, e140_188, e140_189, e140_192, e140_193, e140_196, e140_197, e140_198, e140_199, e140_200, e140_203, e140_204, e140_207, e140_208, e140_209, e140_210, e140_213, MM, MK, h, hq, h1, h2, hi32, w, ef, hf16, rp, if_true, if_false, Nat.zero_lt_one, exists_eq_left, List.nil_append, List.cons_append, List.append_nil]
    obtain ⟨z5', k1⟩ := k1
    rw [k1, btR, ef, nI_clamp (by omega)]
    have cont : ∀ z4 z5, Rn g 140 306 [some (.inr (.inr (some (11, 0)))), some (.inl n), some (.inl (nI c)), some (.inl (nI i)), z4, z5] [] t X ↔ X = (btR t n c q (i + 1) m, none) := fun z4 z5 => by
      simp only [n140_306, MK, nI_1]
      rw [e140_309]
      exact ih z4 z5
    rcases hpl f i hf (by omega) with e | ⟨p, hp, e⟩
    · rw [if_pos (Or.inl e), e]
      simp only [e140_215, e140_217, e140_218, MM, MK, if_true]
      exact cont _ _
    · have hnm : ¬ nI p = -1 := nI_nm (by omega)
      rw [e, m8 (by omega), nI_clamp (by omega)]
      by_cases hpc : p % 8 = c
      · rw [if_neg (by rw [hpc]; exact fun z => z.elim hnm (fun z => z rfl))]
        have hM : LR (sI (sI (sI (sI (sI (sI (sI t 11 33 0 (nI f)) 11 35 0 (gI t 52 i 0)) 11 34 0 (nI p)) 11 36 0 0) 11 37 0 n) 49 p 0 (gI t 43 f 0)) 50 p 0 (gI t 44 f 0)) nf := LR_sI (by omega) (LR_sI (by omega) (LR_sI (by omega) (LR_sI (by omega) (LR_sI (by omega) (LR_sI (by omega) (LR_sI (by omega) h))))))
        have rl := fun X => r_leaves (g := g) (X := X) hM (q := q) (k := i) hq hq32 (by omega)
        have hL : LR (bgR t n f p i q) nf := LR_leaF hM
        have e42 : gI (bgR t n f p i q) 11 42 0 = nI (q - 1) := by unfold bgR leaF; rw [shF_gI, if_neg (by omega)]; rfl
        have e33 : gI (bgR t n f p i q) 11 33 0 = nI f := by unfold bgR leaF; rw [shF_gI, if_neg (by omega)]; rfl
        have h0 : (0 : Int32) ≤ nI f := by rw [i32_le]; exact nI_pos (by omega)
        have fin : ∀ z4 z5, Rn g 140 306 [some (.inr (.inr (some (11, 0)))), some (.inl n), some (.inl (nI c)), some (.inl (nI i)), z4, z5] [] (bgR t n f p i q) X ↔ X = (bgR t n f p i q, none) := fun z4 z5 => by
          simp only [n140_306, MK, nI_1]
          rw [e140_309]
          by_cases cc : nI (q - 1) ≤ nI (i + 1)
          · simp only [e140_119, e140_120, e140_121, e140_124, e140_312, MM, MK, hL, e42, cc, if_true, Nat.zero_lt_one]
          · simp only [e140_119, e140_120, e140_121, e140_124, e140_127, e140_128, e140_131, e140_312, MM, MK, hL, e42, e33, cc, h0, if_true, if_false, Nat.zero_lt_one]
        have hp64 := inN hp (by omega)
        have hm8 := m8 (a := p) (by omega)
        unfold bgR at fin
        unfold bgR
        simp [e140_215, e140_217, e140_218, e140_221, e140_223, e140_225, e140_226, e140_227, e140_230, e140_233, e140_234, e140_235, e140_238, e140_239, e140_240, e140_243, e140_244, e140_245, e140_248, e140_249, e140_250, e140_253, e140_254, e140_256, e140_259, e140_260, e140_261, e140_264, e140_265, e140_266, e140_269, e140_270, e140_273, e140_275, e140_276, e140_279, e140_280, e140_283, e140_284, e140_285, e140_286, e140_289, e140_291, e140_292, e140_295, e140_296, e140_299, e140_300, e140_301, e140_302, e140_303, MM, MK, h, hi32, ef, hf16, hp64, hm8, hpc, hnm, rl, fin]
      · have hne : ¬ nI (p % 8) = nI c := fun z => hpc ((nI_eq (by omega) (by omega)).mp z)
        rw [if_pos (Or.inr hne)]
        have hm8 := m8 (a := p) (by omega)
        simp only [e140_215, e140_217, e140_218, e140_221, e140_223, e140_225, e140_226, e140_227, e140_230, MM, MK, hm8, hnm, hne, if_true, if_false, show ¬ (8 : Int32) = 0 by decide, not_false_eq_true]
        exact cont _ _
end Beg2
