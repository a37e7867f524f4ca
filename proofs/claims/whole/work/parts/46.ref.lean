/-! the reference: the end of a job -/
section Ref4
variable {g : Nat → Nat → Nat} {t : Sg} {X : Sg × Option Av} {nf : Nat}
theorem shF_gI : ∀ (n i : Nat) (t : Sg) (c m k : Nat), gI (shF t i n) c m k = if (c = 51 ∨ c = 52) ∧ k = 0 ∧ i ≤ m ∧ m < i + n then gI t c (m + 1) k else gI t c m k
  | 0, i, t, c, m, k => by rw [if_neg (by omega)]; rfl
  | n + 1, i, t, c, m, k => by
    rw [shF, shF_gI n (i + 1)]
    simp only [gI_sI]
    by_cases h1 : c = 51
    · subst h1
      by_cases h2 : k = 0
      · subst h2
        by_cases h3 : m = i
        · subst h3; simp
        · by_cases h4 : i + 1 ≤ m ∧ m < i + 1 + n
          · have : ¬ m + 1 = i := by omega
            simp [h3, this, h4, show i ≤ m by omega, show m < i + (n + 1) by omega]
          · simp [h3]
            by_cases h5 : i + 1 ≤ m
            · have : ¬ m < i + 1 + n := by omega
              have h6 : ¬ m < i + (n + 1) := by omega
              simp [this, h6]
            · have : ¬ i ≤ m := by omega
              simp [h5, this]
      · simp [h2]
    · by_cases h1b : c = 52
      · subst h1b
        by_cases h2 : k = 0
        · subst h2
          by_cases h3 : m = i
          · subst h3; simp
          · by_cases h4 : i + 1 ≤ m ∧ m < i + 1 + n
            · have : ¬ m + 1 = i := by omega
              simp [h3, this, h4, show i ≤ m by omega, show m < i + (n + 1) by omega]
            · simp [h3]
              by_cases h5 : i + 1 ≤ m
              · have : ¬ m < i + 1 + n := by omega
                have h6 : ¬ m < i + (n + 1) := by omega
                simp [this, h6]
              · have : ¬ i ≤ m := by omega
                simp [h5, this]
        · simp [h2]
      · simp [h1, h1b]
theorem shF_gh : ∀ (n i : Nat) (t : Sg), (shF t i n).2 = t.2
  | 0, _, _ => rfl
  | n + 1, i, t => by rw [shF, shF_gh n (i + 1)]; rfl
theorem LR_gh {t t' : Sg} (h : LR t nf) (h2 : t'.2.2 = t.2.2) (h1 : gI t' 11 0 0 = gI t 11 0 0) : LR t' nf := by
  unfold LR cn gP ln at *
  rw [h1, h2]
  exact h
theorem LR_shF {i n : Nat} (h : LR t nf) : LR (shF t i n) nf := LR_gh h (by rw [shF_gh]) (by rw [shF_gI]; simp)
theorem LR_leaF {q k : Nat} (h : LR t nf) : LR (leaF t q k) nf := LR_shF (LR_sI (by omega) h)
/-- the queue loses what is of job j: from place n - 1 down -/
def e1F (j : Nat) : Nat → Sg → Sg
  | 0, t => t
  | n + 1, t => e1F j n (if gI t 43 (gI t 51 n 0).toNatClampNeg 0 = nI j then leaF (sI t 42 (gI t 51 n 0).toNatClampNeg 0 0) (gI t 11 42 0).toNatClampNeg n else t)
/-- the queue's entries are frames -/
def QI (t : Sg) (nf : Nat) : Prop := ∃ q, q ≤ 32 ∧ gI t 11 42 0 = nI q ∧ ∀ k, k < q → ∃ f, f < nf ∧ gI t 51 k 0 = nI f
theorem r_ends_1 {j : Nat} {a b z : Int32} (hj : j < 4) : ∀ n (t : Sg), LR t nf → QI t nf → (∃ q, gI t 11 42 0 = nI q ∧ n ≤ q ∧ q ≤ 32) → (Rn g 151 49 [some (.inr (.inr (some (11, 0)))), some (.inl (nI j)), some (.inl a), some (.inl b), some (.inl (nI n - 1)), none] [] t X ↔ Rn g 151 98 [some (.inr (.inr (some (11, 0)))), some (.inl (nI j)), some (.inl a), some (.inl b), some (.inl (-1)), none] [] (e1F j n t) X)
  | 0, t, h, hQ, hq => by
    have h1 : nI 0 - 1 = -1 := by decide
    have h2 : (-1 : Int32) < 0 := by decide
    simp only [e151_49, e151_51, e151_54, e151_55, e151_58, e151_59, e151_62, e151_64, e151_65, e151_66, e151_67, e151_70, e151_73, e151_74, e151_77, e151_78, e151_81, e151_83, e151_84, e151_85, e151_86, e151_87, e151_89, n151_92, MM, MK, h1, h2, e1F, if_true]
  | n + 1, t, h, hQ, hq => by
    obtain ⟨q, hq, hn, h32⟩ := hq
    obtain ⟨q', hq32, hq', hf⟩ := hQ
    obtain rfl : q = q' := (nI_eq (by omega) (by omega)).mp (hq.symm.trans hq')
    obtain ⟨f, hf1, hf2⟩ := hf n (by omega)
    have h0 : nI (n + 1) - 1 = nI n := nI_pred n
    have h1 : ¬ nI n < 0 := nI_pos (by omega)
    have h16 : f < 16 := by have := h.1; omega
    have hl := fun X => r_leaves (g := g) (X := X) (LR_sI (t := t) (c := 42) (k := f) (i := 0) (v := 0) (by omega) h) (q := q) (k := n) (by simp [MM, hq]) h32 (by omega)
    by_cases a1 : gI t 43 f 0 = nI j
    · have h' : LR (leaF (sI t 42 f 0 0) q n) nf := LR_leaF (LR_sI (by omega) h)
      have hq2 : gI (leaF (sI t 42 f 0 0) q n) 11 42 0 = nI (q - 1) := by unfold leaF; rw [shF_gI]; simp [MM]
      have hQ' : QI (leaF (sI t 42 f 0 0) q n) nf := by
        refine ⟨q - 1, by omega, hq2, fun k hk => ?_⟩
        unfold leaF
        rw [shF_gI]
        split
        · obtain ⟨f2, a, b⟩ := hf (k + 1) (by omega); exact ⟨f2, a, by simpa [MM] using b⟩
        · obtain ⟨f2, a, b⟩ := hf k (by omega); exact ⟨f2, a, by simpa [MM] using b⟩
      have ih := r_ends_1 (a := a) (b := b) (z := z) hj n _ h' hQ' ⟨q - 1, hq2, by omega, by omega⟩
      simp [e151_49, e151_51, e151_54, e151_55, e151_58, e151_59, e151_62, e151_64, e151_65, e151_66, e151_67, e151_70, e151_73, e151_74, e151_77, e151_78, e151_81, e151_83, e151_84, e151_85, e151_86, e151_87, e151_89, n151_92, MM, MK, h, h0, h1, hf2, inN h16, inN (show n < 32 by omega), a1, hl, e151_95, e1F, hq, nI_clamp (show q < 2 ^ 31 by omega), Int32.sub_eq_add_neg] at ih ⊢
      exact ih
    · have ih := r_ends_1 (a := a) (b := b) (z := z) hj n t h ⟨q, h32, hq, hf⟩ ⟨q, hq, by omega, by omega⟩
      simp [e151_49, e151_51, e151_54, e151_55, e151_58, e151_59, e151_62, e151_64, e151_65, e151_66, e151_67, e151_70, e151_73, e151_74, e151_77, e151_78, e151_81, e151_83, e151_84, e151_85, e151_86, e151_87, e151_89, n151_92, MM, MK, h, h0, h1, hf2, inN h16, inN (show n < 32 by omega), a1, e151_95, e1F, Int32.sub_eq_add_neg] at ih ⊢
      exact ih
def e2F (j : Nat) : Sg → Nat → Nat → Sg
  | t, _, 0 => t
  | t, i, n + 1 => e2F j (if gI t 42 i 0 = 1 ∧ gI t 43 i 0 = nI j then sI t 42 i 0 0 else t) (i + 1) n
theorem r_ends_2 {j : Nat} {a b z : Int32} (hj : j < 4) : ∀ n i (t : Sg), LR t nf → i + n = nf → (Rn g 151 135 [some (.inr (.inr (some (11, 0)))), some (.inl (nI j)), some (.inl a), some (.inl b), some (.inl z), some (.inl (nI i))] [] t X ↔ Rn g 151 180 [some (.inr (.inr (some (11, 0)))), some (.inl (nI j)), some (.inl a), some (.inl b), some (.inl z), some (.inl (nI nf))] [] (e2F j t i n) X)
  | 0, i, t, h, hi => by
    obtain rfl : i = nf := by omega
    have h1 : nI i ≤ nI i := nI_le (by omega) (by have := h.1; omega)
    simp only [e151_135, e151_137, e151_138, e151_141, e151_144, e151_145, e151_148, e151_150, e151_151, e151_152, e151_155, e151_156, e151_159, e151_161, e151_162, e151_163, e151_166, e151_167, e151_170, e151_172, e151_173, n151_174, MM, MK, h, h1, e2F, if_true, Nat.lt_irrefl, Nat.zero_lt_one]
  | n + 1, i, t, h, hi => by
    have h1 : ¬ nI nf ≤ nI i := nI_ge (by omega) (by have := h.1; omega)
    have h16 := inN (show i < 16 by have := h.1; omega) (by omega)
    by_cases a1 : gI t 42 i 0 = 1
    · by_cases a2 : gI t 43 i 0 = nI j
      · have ih := r_ends_2 (a := a) (b := b) (z := z) hj n (i + 1) (sI t 42 i 0 0) (LR_sI (by omega) h) (by omega)
        simp [e151_135, e151_137, e151_138, e151_141, e151_144, e151_145, e151_148, e151_150, e151_151, e151_152, e151_155, e151_156, e151_159, e151_161, e151_162, e151_163, e151_166, e151_167, e151_170, e151_172, e151_173, n151_174, MM, MK, h, h1, h16, a1, a2, e151_177, nI_1, e2F, ih]
      · have ih := r_ends_2 (a := a) (b := b) (z := z) hj n (i + 1) t h (by omega)
        simp [e151_135, e151_137, e151_138, e151_141, e151_144, e151_145, e151_148, e151_150, e151_151, e151_152, e151_155, e151_156, e151_159, e151_161, e151_162, e151_163, e151_166, e151_167, e151_170, e151_172, e151_173, n151_174, MM, MK, h, h1, h16, a1, a2, e151_177, nI_1, e2F, ih]
    · have ih := r_ends_2 (a := a) (b := b) (z := z) hj n (i + 1) t h (by omega)
      simp [e151_135, e151_137, e151_138, e151_141, e151_144, e151_145, e151_148, e151_150, e151_151, e151_152, e151_155, e151_156, e151_159, e151_161, e151_162, e151_163, e151_166, e151_167, e151_170, e151_172, e151_173, n151_174, MM, MK, h, h1, h16, a1, e151_177, nI_1, e2F, ih]
def e3F (j : Nat) : Sg → Nat → Nat → Sg
  | t, _, 0 => t
  | t, i, n + 1 => e3F j (if gI t 49 i 0 = nI j ∧ ¬ (¬ gI t 11 33 0 < 0 ∧ nI i = gI t 11 34 0) then sI t 49 i 0 (-1) else t) (i + 1) n
theorem r_ends_3 {j : Nat} {a b z : Int32} (hj : j < 4) : ∀ n i (t : Sg), LR t nf → i + n = 64 → (Rn g 151 183 [some (.inr (.inr (some (11, 0)))), some (.inl (nI j)), some (.inl a), some (.inl b), some (.inl z), some (.inl (nI i))] [] t X ↔ Rn g 151 231 [some (.inr (.inr (some (11, 0)))), some (.inl (nI j)), some (.inl a), some (.inl b), some (.inl z), some (.inl (nI 64))] [] (e3F j t i n) X)
  | 0, i, t, h, hi => by
    obtain rfl : i = 64 := by omega
    have h1 : (64 : Int32) ≤ nI 64 := by decide
    simp only [e151_183, e151_185, e151_187, e151_190, e151_191, e151_194, e151_196, e151_197, e151_198, e151_201, e151_202, e151_205, e151_208, e151_210, e151_211, e151_214, e151_217, e151_218, e151_221, e151_223, e151_224, n151_225, MM, MK, h1, e3F, if_true]
  | n + 1, i, t, h, hi => by
    have h1 : ¬ (64 : Int32) ≤ nI i := nI_ge (b := 64) (by omega) (by decide)
    have h16 := inN (show i < 64 by omega) (by omega)
    by_cases a1 : gI t 49 i 0 = nI j
    · by_cases a2 : gI t 11 33 0 < 0
      · have ih := r_ends_3 (a := a) (b := b) (z := z) hj n (i + 1) (sI t 49 i 0 (-1)) (LR_sI (by omega) h) (by omega)
        simp [e151_183, e151_185, e151_187, e151_190, e151_191, e151_194, e151_196, e151_197, e151_198, e151_201, e151_202, e151_205, e151_208, e151_210, e151_211, e151_214, e151_217, e151_218, e151_221, e151_223, e151_224, n151_225, MM, MK, h, h1, h16, a1, a2, e151_228, nI_1, e3F, ih]
      · by_cases a3 : gI t 11 34 0 = nI i
        · have ih := r_ends_3 (a := a) (b := b) (z := z) hj n (i + 1) t h (by omega)
          simp [e151_183, e151_185, e151_187, e151_190, e151_191, e151_194, e151_196, e151_197, e151_198, e151_201, e151_202, e151_205, e151_208, e151_210, e151_211, e151_214, e151_217, e151_218, e151_221, e151_223, e151_224, n151_225, MM, MK, h, h1, h16, a1, a2, a3, e151_228, nI_1, e3F, ih]
        · have a3' : ¬ nI i = gI t 11 34 0 := fun q => a3 q.symm
          have ih := r_ends_3 (a := a) (b := b) (z := z) hj n (i + 1) (sI t 49 i 0 (-1)) (LR_sI (by omega) h) (by omega)
          simp [e151_183, e151_185, e151_187, e151_190, e151_191, e151_194, e151_196, e151_197, e151_198, e151_201, e151_202, e151_205, e151_208, e151_210, e151_211, e151_214, e151_217, e151_218, e151_221, e151_223, e151_224, n151_225, MM, MK, h, h1, h16, a1, a2, a3', e151_228, nI_1, e3F, ih]
    · have ih := r_ends_3 (a := a) (b := b) (z := z) hj n (i + 1) t h (by omega)
      simp [e151_183, e151_185, e151_187, e151_190, e151_191, e151_194, e151_196, e151_197, e151_198, e151_201, e151_202, e151_205, e151_208, e151_210, e151_211, e151_214, e151_217, e151_218, e151_221, e151_223, e151_224, n151_225, MM, MK, h, h1, h16, a1, e151_228, nI_1, e3F, ih]
def e4F (j : Nat) : Sg → Nat → Nat → Sg
  | t, _, 0 => t
  | t, i, n + 1 => e4F j (if gI t 38 i 0 = nI j then sI t 38 i 0 (-1) else t) (i + 1) n
theorem r_ends_4 {j : Nat} {a b z : Int32} (hj : j < 4) : ∀ n i (t : Sg), LR t nf → i + n = 64 → (Rn g 151 244 [some (.inr (.inr (some (11, 0)))), some (.inl (nI j)), some (.inl a), some (.inl b), some (.inl z), some (.inl (nI i))] [] t X ↔ X = (e4F j t i n, none))
  | 0, i, t, h, hi => by
    obtain rfl : i = 64 := by omega
    have h1 : (64 : Int32) ≤ nI 64 := by decide
    simp only [e151_244, e151_246, e151_248, e151_251, e151_252, e151_255, e151_257, e151_258, e151_259, e151_262, e151_263, e151_266, e151_268, e151_269, n151_270, e151_276, MM, MK, h1, e4F, if_true]
  | n + 1, i, t, h, hi => by
    have h1 : ¬ (64 : Int32) ≤ nI i := nI_ge (b := 64) (by omega) (by decide)
    have h16 := inN (show i < 64 by omega) (by omega)
    by_cases a1 : gI t 38 i 0 = nI j
    · have ih := r_ends_4 (a := a) (b := b) (z := z) hj n (i + 1) (sI t 38 i 0 (-1)) (LR_sI (by omega) h) (by omega)
      simp [e151_244, e151_246, e151_248, e151_251, e151_252, e151_255, e151_257, e151_258, e151_259, e151_262, e151_263, e151_266, e151_268, e151_269, n151_270, e151_276, MM, MK, h, h1, h16, a1, e151_273, nI_1, e4F, ih]
    · have ih := r_ends_4 (a := a) (b := b) (z := z) hj n (i + 1) t h (by omega)
      simp [e151_244, e151_246, e151_248, e151_251, e151_252, e151_255, e151_257, e151_258, e151_259, e151_262, e151_263, e151_266, e151_268, e151_269, n151_270, e151_276, MM, MK, h, h1, h16, a1, e151_273, nI_1, e4F, ih]
/-- whether the transfer under way is of job j -/
abbrev itsP (t : Sg) (j : Nat) : Prop := ¬ gI t 11 33 0 < 0 ∧ gI t 11 36 0 = 0 ∧ gI t 43 (gI t 11 33 0).toNatClampNeg 0 = nI j
def e0F (t : Sg) (j : Nat) (how n : Int32) (o : Nat) : Sg := sI (sI (sI (sI (sI t 22 j 0 how) 29 j 0 n) 25 j 0 (-1)) 37 o 0 (nI j)) 11 19 0 (nI (o + 1))
theorem LR_if {P : Prop} [Decidable P] {u : Sg} (h1 : LR u nf) (h2 : LR t nf) : LR (if P then u else t) nf := by split <;> assumption
theorem LR_e2F (j : Nat) : ∀ n i (t : Sg), LR t nf → LR (e2F j t i n) nf
  | 0, _, _, h => h
  | n + 1, i, _, h => LR_e2F j n (i + 1) _ (LR_if (LR_sI (by omega) h) h)
theorem LR_e3F (j : Nat) : ∀ n i (t : Sg), LR t nf → LR (e3F j t i n) nf
  | 0, _, _, h => h
  | n + 1, i, _, h => LR_e3F j n (i + 1) _ (LR_if (LR_sI (by omega) h) h)
theorem LR_e4F (j : Nat) : ∀ n i (t : Sg), LR t nf → LR (e4F j t i n) nf
  | 0, _, _, h => h
  | n + 1, i, _, h => LR_e4F j n (i + 1) _ (LR_if (LR_sI (by omega) h) h)
theorem LR_e1F (j : Nat) : ∀ n (t : Sg), LR t nf → LR (e1F j n t) nf
  | 0, _, h => h
  | n + 1, _, h => LR_e1F j n _ (LR_if (LR_leaF (LR_sI (by omega) h)) h)
theorem QI_sI {c k i : Nat} {v : Int32} (h : QI t nf) (h1 : ¬ (c = 51)) (h2 : ¬ (c = 11 ∧ k = 42)) : QI (sI t c k i v) nf := by
  obtain ⟨q, a, b, d⟩ := h
  refine ⟨q, a, ?_, fun k hk => ?_⟩
  · rw [gI_sI, if_neg (by omega)]; exact b
  · rw [gI_sI, if_neg (by omega)]; exact d k hk
/-- the moving frame's number is one, if there is one -/
def MI (t : Sg) (nf : Nat) : Prop := ¬ gI t 11 33 0 < 0 → ∃ f, f < nf ∧ gI t 11 33 0 = nI f
theorem e1F_gI (j : Nat) : ∀ (n : Nat) (t : Sg) (c k i : Nat), c ≠ 51 → c ≠ 52 → c ≠ 42 → ¬ (c = 11 ∧ k = 42) → gI (e1F j n t) c k i = gI t c k i
  | 0, _, _, _, _, _, _, _, _ => rfl
  | n + 1, t, c, k, i, h1, h2, h3, h4 => by
    rw [e1F, e1F_gI j n _ c k i h1 h2 h3 h4]
    split
    · unfold leaF
      rw [shF_gI, if_neg (by omega), gI_sI, if_neg (by omega), gI_sI, if_neg (by omega)]
    · rfl
def endF (t : Sg) (nf j : Nat) (how n : Int32) (o q : Nat) : Sg :=
  let t1 := e1F j q (e0F t j how n o)
  let t3 := e3F j (e2F j t1 0 nf) 0 64
  e4F j (if itsP t1 j then sI t3 11 36 0 1 else t3) 0 64
theorem r_ends (h : LR t nf) {j o q : Nat} {how n : Int32} (hj : j < 4) (ho : gI t 11 19 0 = nI o) (ho4 : o < 4) (hq : gI t 11 42 0 = nI q) (h32 : q ≤ 32) (hQ : QI t nf) (hM : MI t nf) : Rn g 151 0 [some (.inr (.inr (some (11, 0)))), some (.inl (nI j)), some (.inl how), some (.inl n), none, none] [] t X ↔ X = (endF t nf j how n o q, none) := by
  have h0 : LR (e0F t j how n o) nf := LR_sI (by omega) (LR_sI (by omega) (LR_sI (by omega) (LR_sI (by omega) (LR_sI (by omega) h))))
  have hQ0 : QI (e0F t j how n o) nf := QI_sI (QI_sI (QI_sI (QI_sI (QI_sI hQ (by omega) (by omega)) (by omega) (by omega)) (by omega) (by omega)) (by omega) (by omega)) (by omega) (by omega)
  have hq0 : gI (e0F t j how n o) 11 42 0 = nI q := by simp [e0F, MM, hq]
  have r1 := r_ends_1 (g := g) (X := X) (a := how) (b := n) (z := 0) hj q _ h0 hQ0 ⟨q, hq0, Nat.le_refl _, h32⟩
  have h1 := LR_e1F j q _ h0
  have hm1 : gI (e1F j q (e0F t j how n o)) 11 33 0 = gI t 11 33 0 := by rw [e1F_gI _ _ _ _ _ _ (by omega) (by omega) (by omega) (by omega)]; simp [e0F, MM]
  have k1 : Rn g 151 0 [some (.inr (.inr (some (11, 0)))), some (.inl (nI j)), some (.inl how), some (.inl n), none, none] [] t X ↔ Rn g 151 49 [some (.inr (.inr (some (11, 0)))), some (.inl (nI j)), some (.inl how), some (.inl n), some (.inl (nI q - 1)), none] [] (e0F t j how n o) X := by
    simp [e151_0, e151_1, e151_4, e151_5, e151_6, e151_7, e151_8, e151_11, e151_12, e151_13, e151_14, e151_15, e151_18, e151_19, e151_20, e151_21, e151_22, e151_25, e151_26, e151_29, e151_30, e151_31, e151_32, e151_33, e151_36, e151_37, e151_38, e151_41, e151_42, e151_45, e151_46, e151_47, MM, MK, h, inN hj, inN ho4, ho, hq, nI_1, e0F]
  rw [k1, r1]
  unfold endF
  generalize e1F j q (e0F t j how n o) = t1 at h1 hm1
  dsimp only
  have h2 := LR_e2F j nf 0 t1 h1
  have h3 := LR_e3F j 64 0 _ h2
  have k2 : ∀ z : Int32, Rn g 151 130 [some (.inr (.inr (some (11, 0)))), some (.inl (nI j)), some (.inl how), some (.inl n), some (.inl (-1)), none] [.inl z] t1 X ↔ X = (e4F j (if z = 0 then e3F j (e2F j t1 0 nf) 0 64 else sI (e3F j (e2F j t1 0 nf) 0 64) 11 36 0 1) 0 64, none) := by
    intro z
    have r2 := r_ends_2 (g := g) (X := X) (a := how) (b := n) (z := z) hj nf 0 t1 h1 (by omega)
    have r3 := r_ends_3 (g := g) (X := X) (a := how) (b := n) (z := z) hj 64 0 _ h2 rfl
    have r4 := r_ends_4 (g := g) (X := X) (a := how) (b := n) (z := z) hj 64 0 _ h3 rfl
    have r5 := r_ends_4 (g := g) (X := X) (a := how) (b := n) (z := z) hj 64 0 (sI (e3F j (e2F j t1 0 nf) 0 64) 11 36 0 1) (LR_sI (by omega) h3) rfl
    rw [nI_0] at r2 r3 r4 r5
    simp only [e151_130, e151_132, e151_133, MK]
    rw [r2]
    simp only [e151_180, e151_181, MK]
    rw [r3]
    by_cases hz : z = 0
    · simp only [e151_231, e151_233, e151_236, e151_237, e151_238, e151_241, e151_242, MK, hz, if_true] at r4 ⊢
      exact r4
    · simp only [e151_231, e151_233, e151_236, e151_237, e151_238, e151_241, e151_242, MK, hz, if_false, h3] at r5 ⊢
      simp only [e151_231, e151_233, e151_236, e151_237, e151_238, e151_241, e151_242, MK, h3, Nat.zero_lt_one]
      exact r5
  by_cases a1 : gI t1 11 33 0 < 0
  · have : ¬ itsP t1 j := fun q => q.1 a1
    simp [e151_98, e151_99, e151_102, e151_105, e151_106, e151_109, e151_112, e151_113, e151_116, e151_117, e151_120, e151_121, e151_122, e151_125, e151_126, e151_129, MM, MK, h1, a1, k2, this]
  · obtain ⟨f, hf1, hf2⟩ := hM (by rw [← hm1]; exact a1)
    rw [← hm1] at hf2
    have h16 : f < 16 := by have := h.1; omega
    have hnf : ¬ nI f < 0 := nI_pos (by omega)
    by_cases a2 : gI t1 11 36 0 = 0
    · by_cases a3 : gI t1 43 f 0 = nI j
      · have : itsP t1 j := ⟨a1, a2, by rw [hf2, nI_clamp (by omega)]; exact a3⟩
        rw [if_pos this]
        simp [e151_98, e151_99, e151_102, e151_105, e151_106, e151_109, e151_112, e151_113, e151_116, e151_117, e151_120, e151_121, e151_122, e151_125, e151_126, e151_129, MM, MK, h1, hf2, hnf, a2, a3, inN h16, k2]
      · have : ¬ itsP t1 j := fun q => a3 (by have := q.2.2; rw [hf2, nI_clamp (by omega)] at this; exact this)
        simp [e151_98, e151_99, e151_102, e151_105, e151_106, e151_109, e151_112, e151_113, e151_116, e151_117, e151_120, e151_121, e151_122, e151_125, e151_126, e151_129, MM, MK, h1, hf2, hnf, a2, a3, inN h16, k2, this]
    · have : ¬ itsP t1 j := fun q => a2 q.2.1
      simp [e151_98, e151_99, e151_102, e151_105, e151_106, e151_109, e151_112, e151_113, e151_116, e151_117, e151_120, e151_121, e151_122, e151_125, e151_126, e151_129, MM, MK, h1, hf2, hnf, a2, k2, this]
end Ref4
