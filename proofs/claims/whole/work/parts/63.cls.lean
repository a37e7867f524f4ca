/-! the class: the core -/
section Cls4
variable {g : Nat → Nat → Nat} {s : Sg} {X : Sg × Option Av} {nf : Nat}
theorem c_pagesHold (h : LC s nf) {o b : Int32} {a : Nat} (ha : ff (frP s) 0 64 = some a) (hw : gP s 4 4 a = none ∨ (gP s 4 4 a = some a ∧ a < cn s 16)) (hg : gP s 4 4 a = none → sz s = g 16 (cn s 16)) (hc : gP s 4 4 a = none → cn s 16 < 64) : Rn g 49 0 [some (.inr (.inr (some (5, 0)))), some (.inl o), some (.inl b), none] [] s X ↔ X = (hldF s a o b, some (.inr (.inr (some (4, a))))) := by
  obtain ⟨h1, h2, h3, h4⟩ := ff_some ha
  have r := c_pagesHold_l (g := g) (X := X) h (o := o) (b := b) (by omega) h3 hw hg hc (fun k hk => h4 k (by omega) hk) a 0 (by omega)
  rw [nI_0] at r
  simp only [e49_0, e49_1, MK]
  exact r
def rl1 (s : Sg) (o : Int32) (k : Nat) : Sg := if gI s 4 0 k = o then rlF s k else s
def rlsF (o : Int32) : Sg → Nat → Nat → Sg
  | s, _, 0 => s
  | s, i, n + 1 => rlsF o (rl1 s o i) (i + 1) n
theorem LC_rl1 {o : Int32} {k : Nat} (h : LC s nf) : LC (rl1 s o k) nf := LC_if (LC_rlF h) h
theorem WI_rl1 {o : Int32} {k : Nat} (h : WI s) : WI (rl1 s o k) := by
  unfold rl1
  split
  · intro i hi
    rw [rlF_44.1, (rlF_44 (i := i)).2]
    exact h i hi
  · exact h
theorem c_pagesRelease_l {o : Int32} : ∀ n i (s : Sg), LC s nf → WI s → i + n = 64 → (Rn g 50 2 [some (.inr (.inr (some (5, 0)))), some (.inl o), some (.inl (nI i))] [] s X ↔ X = (rlsF o s i n, none))
  | 0, i, s, h, hw, hi => by
    have h1 : (64 : Int32) ≤ nI i := nI_le (a := 64) (by omega) (by omega)
    simp [Q50, II, MM, MK, h, ofN, show nI 64 = 64 from rfl, h1, rlsF]
  | n + 1, i, s, h, hw, hi => by
    have h1 : ¬ (64 : Int32) ≤ nI i := nI_ge (b := 64) (by omega) (by decide)
    have ih := c_pagesRelease_l (o := o) n (i + 1) (rl1 s o i) (LC_rl1 h) (WI_rl1 hw) (by omega)
    have hi64 : i < 64 := by omega
    have hr := fun X => c_release (g := g) (X := X) h hi64 (hw i hi64)
    unfold rl1 at ih
    by_cases a1 : gI s 4 0 i = o
    · simp [a1] at ih
      simp [Q50, II, MM, MK, h, ofN, show nI 64 = 64 from rfl, h1, hi64, inN hi64, a1, hr, rlsF, rl1]
      simp only [e50_36, nI_1, ih]
    · simp [a1] at ih
      simp [Q50, II, MM, MK, h, ofN, show nI 64 = 64 from rfl, h1, hi64, inN hi64, a1, rlsF, rl1]
      simp only [e50_36, nI_1, ih]
theorem c_pagesRelease (h : LC s nf) (hw : WI s) {o : Int32} : Rn g 50 0 [some (.inr (.inr (some (5, 0)))), some (.inl o), none] [] s X ↔ X = (rlsF o s 0 64, none) := by
  have r := c_pagesRelease_l (g := g) (X := X) (o := o) 64 0 s h hw rfl
  rw [nI_0] at r
  simp only [e50_0, e50_1, MK]
  exact r
theorem c_frameOf (h : LC s nf) {x0 : Int32} : Rn g 1 0 [some (.inr (.inr (some (0, 0)))), some (.inl x0)] [] s X ↔ X = (s, some (.inr (.inr (mk 2 (if x0 < 0 ∨ ¬ x0 < nI nf then none else some x0.toNatClampNeg))))) := by
  by_cases a1 : x0 < 0
  · simp [Q1, MM, MK, h, a1]
  · obtain ⟨e, he, rfl⟩ := nI_of a1
    by_cases a2 : e < nf
    · have h1 : nI e < nI nf := nI_lt a2 (by have := h.1; omega)
      have h1' : ¬ nI nf ≤ nI e := nI_ge a2 (by have := h.1; omega)
      simp [Q1, MM, MK, h, a1, ofN, h1, h1', a2, inN a2 (by have := h.1; omega)]
    · have h1 : ¬ nI e < nI nf := nI_nlt (by omega) he
      have h1' : nI nf ≤ nI e := nI_le (by omega) he
      simp [Q1, MM, MK, h, a1, ofN, h1, h1']
abbrev lowP (s : Sg) (st : Int32) (f : Nat) : Prop := gI s 2 1 f = st
def lowF (s : Sg) (nf : Nat) (st : Int32) : Option Nat := ff (lowP s st) 0 nf
theorem c_lowest_l (h : LC s nf) (st : Int32) : ∀ n i, i + n = nf → (Rn g 2 2 [some (.inr (.inr (some (0, 0)))), some (.inl st), some (.inl (nI i))] [] s X ↔ X = (s, some (.inr (.inr (mk 2 (ff (lowP s st) i n))))))
  | 0, i, hi => by
    have h1 : nI nf ≤ nI i := nI_le (by omega) (by have := h.1; omega)
    simp [Q2, II, MM, MK, h, ofN, h1, ff]
  | n + 1, i, hi => by
    have h1 : ¬ nI nf ≤ nI i := nI_ge (by omega) (by have := h.1; omega)
    have ih := c_lowest_l h st n (i + 1) (by omega)
    have hi64 : i < nf := by omega
    by_cases a1 : gI s 2 1 i = st <;> simp [Q2, II, MM, MK, h, ofN, h1, hi64, inN hi64 (by have := h.1; omega), a1, e2_34, nI_1, ih, ff, lowP]
theorem c_lowest (h : LC s nf) (st : Int32) : Rn g 2 0 [some (.inr (.inr (some (0, 0)))), some (.inl st), none] [] s X ↔ X = (s, some (.inr (.inr (mk 2 (lowF s nf st))))) := by
  have r := c_lowest_l (g := g) (X := X) h st nf 0 (by omega)
  rw [nI_0] at r
  simp only [e2_0, e2_1, MK]
  exact r
abbrev hoP (s : Sg) (o b : Int32) (f : Nat) : Prop := gI s 2 3 f = b ∧ gI s 2 2 f = o ∧ gI s 2 1 f = 1
def hoF (s : Sg) (nf : Nat) (o b : Int32) : Option Nat := ff (hoP s o b) 0 nf
theorem c_holding_l (h : LC s nf) (o b : Int32) : ∀ n i (z : Option Av), i + n = nf → (Rn g 3 2 [some (.inr (.inr (some (0, 0)))), some (.inl o), some (.inl b), some (.inl (nI i)), z] [] s X ↔ X = (s, some (.inr (.inr (mk 2 (ff (hoP s o b) i n))))))
  | 0, i, z, hi => by
    have h1 : nI nf ≤ nI i := nI_le (by omega) (by have := h.1; omega)
    simp [Q3, II, MM, MK, h, ofN, h1, ff]
  | n + 1, i, z, hi => by
    have h1 : ¬ nI nf ≤ nI i := nI_ge (by omega) (by have := h.1; omega)
    have ih := fun z => c_holding_l h o b n (i + 1) z (by omega)
    have hi64 : i < nf := by omega
    by_cases a1 : gI s 2 3 i = b <;> by_cases a2 : gI s 2 2 i = o <;> by_cases a3 : gI s 2 1 i = 1 <;> simp [Q3, II, MM, MK, h, ofN, h1, hi64, inN hi64 (by have := h.1; omega), a1, a2, a3, e3_52, nI_1, ih, ff, hoP]
theorem c_holding (h : LC s nf) (o b : Int32) : Rn g 3 0 [some (.inr (.inr (some (0, 0)))), some (.inl o), some (.inl b), none, none] [] s X ↔ X = (s, some (.inr (.inr (mk 2 (hoF s nf o b))))) := by
  have r := c_holding_l (g := g) (X := X) h o b nf 0 none (by omega)
  rw [nI_0] at r
  simp only [e3_0, e3_1, MK]
  exact r
/-- the best one so far -/
def beF (s : Sg) (fr : Int32) : Nat → Nat → Option Nat → Option Nat
  | _, 0, b => b
  | i, n + 1, b => beF s fr (i + 1) n (if gI s 2 1 i = 1 ∧ gI s 2 8 i = fr then (match b with | none => some i | some e => if gbF s i e = 0 then b else some i) else b)
theorem c_best_l (h : LC s nf) (fr : Int32) : ∀ n i (b : Option Nat) (z : Option Av), (∀ e, b = some e → e < nf) → i + n = nf → (Rn g 5 4 [some (.inr (.inr (some (0, 0)))), some (.inl fr), some (.inr (.inr (mk 2 b))), some (.inl (nI i)), z] [] s X ↔ X = (s, some (.inr (.inr (mk 2 (beF s fr i n b))))))
  | 0, i, b, z, hb, hi => by
    have h1 : nI nf ≤ nI i := nI_le (by omega) (by have := h.1; omega)
    simp [Q5, II, MM, MK, h, ofN, h1, beF]
  | n + 1, i, b, z, hb, hi => by
    have h1 : ¬ nI nf ≤ nI i := nI_ge (by omega) (by have := h.1; omega)
    have ih := fun b z hb => c_best_l h fr n (i + 1) b z hb (by omega)
    have hi64 : i < nf := by omega
    have i1 := fun z => ih b z hb
    have i2 := fun z => ih (some i) z (fun e he => by cases he; exact hi64)
    rw [mk_some] at i2
    by_cases a1 : gI s 2 1 i = 1
    · by_cases a2 : gI s 2 8 i = fr
      · cases b with
        | none =>
          simp [Q5, II, MM, MK, h, ofN, h1, hi64, inN hi64 (by have := h.1; omega), a1, a2, e5_58, nI_1, i2, beF]
        | some e =>
          rw [mk_some] at i1
          have hgb := fun X => c_goesBefore (g := g) (X := X) h hi64 (hb e rfl)
          by_cases a3 : gbF s i e = 0
          · simp [Q5, II, MM, MK, h, ofN, h1, hi64, hb e rfl, inN hi64 (by have := h.1; omega), a1, a2, hgb, a3, e5_58, nI_1, i1, beF]
          · simp [Q5, II, MM, MK, h, ofN, h1, hi64, hb e rfl, inN hi64 (by have := h.1; omega), a1, a2, hgb, a3, e5_58, nI_1, i2, beF]
      · simp [Q5, II, MM, MK, h, ofN, h1, hi64, inN hi64 (by have := h.1; omega), a1, a2, e5_58, nI_1, i1, beF]
    · simp [Q5, II, MM, MK, h, ofN, h1, hi64, inN hi64 (by have := h.1; omega), a1, e5_58, nI_1, i1, beF]
theorem c_best (h : LC s nf) (fr : Int32) : Rn g 5 0 [some (.inr (.inr (some (0, 0)))), some (.inl fr), none, none, none] [] s X ↔ X = (s, some (.inr (.inr (mk 2 (beF s fr 0 nf none))))) := by
  have r := c_best_l (g := g) (X := X) h fr nf 0 none none (fun e he => by cases he) (by omega)
  rw [nI_0, mk_none] at r
  simp only [e5_0, e5_1, e5_2, e5_3, MK]
  exact r
def choG (s : Sg) (nf : Nat) : Option Nat := match beF s 0 0 nf none with
  | none => beF s 1 0 nf none
  | some e => some e
theorem c_choose (h : LC s nf) : Rn g 4 0 [some (.inr (.inr (some (0, 0)))), none] [] s X ↔ X = (s, some (.inr (.inr (mk 2 (choG s nf))))) := by
  have r0 := fun X => c_best (g := g) (X := X) h 0
  have r1 := fun X => c_best (g := g) (X := X) h 1
  unfold choG
  cases hb : beF s 0 0 nf none with
  | none => simp [Q4, MM, MK, h, r0, r1, hb]
  | some e => simp [Q4, MM, MK, h, r0, hb]
def clkF : Sg → Nat → Nat → Sg
  | s, _, 0 => s
  | s, i, n + 1 => clkF (if gI s 2 1 i = 1 then flkF s i else s) (i + 1) n
theorem LC_flkF {f : Nat} (h : LC s nf) : LC (flkF s f) nf := by
  unfold flkF
  split
  · exact LC_sI h (by omega)
  · refine LC_sI (LC_sI ?_ (by omega)) (by omega)
    split
    · exact LC_sI h (by omega)
    · exact h
theorem c_coreLook_l : ∀ n i (s : Sg), LC s nf → i + n = nf → (Rn g 6 2 [some (.inr (.inr (some (0, 0)))), some (.inl (nI i))] [] s X ↔ X = (clkF s i n, none))
  | 0, i, s, h, hi => by
    have h1 : nI nf ≤ nI i := nI_le (by omega) (by have := h.1; omega)
    simp [Q6, II, MM, MK, h, ofN, h1, clkF]
  | n + 1, i, s, h, hi => by
    have h1 : ¬ nI nf ≤ nI i := nI_ge (by omega) (by have := h.1; omega)
    have hi64 : i < nf := by omega
    have hl := fun X => c_frameLook (g := g) (X := X) h hi64
    by_cases a1 : gI s 2 1 i = 1
    · have ih := c_coreLook_l n (i + 1) (flkF s i) (LC_flkF h) (by omega)
      simp [Q6, II, MM, MK, h, ofN, h1, hi64, inN hi64 (by have := h.1; omega), a1, hl, clkF]
      simp only [e6_36, nI_1, ih]
    · have ih := c_coreLook_l n (i + 1) s h (by omega)
      simp [Q6, II, MM, MK, h, ofN, h1, hi64, inN hi64 (by have := h.1; omega), a1, clkF]
      simp only [e6_36, nI_1, ih]
theorem c_coreLook (h : LC s nf) : Rn g 6 0 [some (.inr (.inr (some (0, 0)))), none] [] s X ↔ X = (clkF s 0 nf, none) := by
  have r := c_coreLook_l (g := g) (X := X) nf 0 s h (by omega)
  rw [nI_0] at r
  simp only [e6_0, e6_1, MK]
  exact r
/-- the frames of a job that is over are emptied, but the moving one -/
def ccl1 (s : Sg) (o : Int32) (mv : Option Nat) (f : Nat) : Sg := if gI s 2 2 f = o then (if some f = mv then sP s 2 4 f none else sP (sI s 2 1 f 0) 2 4 f none) else s
def cclF (o : Int32) (mv : Option Nat) : Sg → Nat → Nat → Sg
  | s, _, 0 => s
  | s, i, n + 1 => cclF o mv (ccl1 s o mv i) (i + 1) n
theorem LC_ccl1 {o : Int32} {mv : Option Nat} {f : Nat} (h : LC s nf) : LC (ccl1 s o mv f) nf := LC_if (LC_if (LC_sP h (by unfold dyP; omega)) (LC_sP (LC_sI h (by omega)) (by unfold dyP; omega))) h
theorem c_coreClear_l {o : Int32} {mv : Option Nat} (hm : ∀ f, mv = some f → f < nf) : ∀ n i (s : Sg) (z : Option Av), LC s nf → i + n = nf → (Rn g 7 2 [some (.inr (.inr (some (0, 0)))), some (.inl o), some (.inr (.inr (mk 2 mv))), some (.inl (nI i)), z] [] s X ↔ X = (cclF o mv s i n, none))
  | 0, i, s, z, h, hi => by
    have h1 : nI nf ≤ nI i := nI_le (by omega) (by have := h.1; omega)
    simp [Q7, II, MM, MK, h, ofN, h1, cclF]
  | n + 1, i, s, z, h, hi => by
    have h1 : ¬ nI nf ≤ nI i := nI_ge (by omega) (by have := h.1; omega)
    have hi64 : i < nf := by omega
    have he := fun X => c_empty (g := g) (X := X) h hi64
    have ih := fun z => c_coreClear_l (o := o) hm n (i + 1) (ccl1 s o mv i) z (LC_ccl1 h) (by omega)
    by_cases a1 : gI s 2 2 i = o
    · cases mv with
      | none =>
        simp [ccl1, a1, mk_none] at ih
        simp [Q7, II, MM, MK, h, ofN, h1, hi64, inN hi64 (by have := h.1; omega), a1, he, cclF, ccl1]
        simp only [e7_54, nI_1, ih]
      | some e =>
        have he2 := hm e rfl
        by_cases a2 : i = e
        · subst a2
          simp [ccl1, a1, mk_some] at ih
          simp [Q7, II, MM, MK, h, ofN, h1, hi64, inN hi64 (by have := h.1; omega), a1, cclF, ccl1]
          simp only [e7_54, nI_1, ih]
        · simp [ccl1, a1, a2, mk_some] at ih
          simp [Q7, II, MM, MK, h, ofN, h1, hi64, he2, inN hi64 (by have := h.1; omega), a1, a2, he, cclF, ccl1]
          simp only [e7_54, nI_1, ih]
    · simp [ccl1, a1] at ih
      simp [Q7, II, MM, MK, h, ofN, h1, hi64, inN hi64 (by have := h.1; omega), a1, cclF, ccl1]
      simp only [e7_54, nI_1, ih]
theorem c_coreClear (h : LC s nf) {o : Int32} {mv : Option Nat} (hm : ∀ f, mv = some f → f < nf) : Rn g 7 0 [some (.inr (.inr (some (0, 0)))), some (.inl o), some (.inr (.inr (mk 2 mv))), none, none] [] s X ↔ X = (cclF o mv s 0 nf, none) := by
  have r := c_coreClear_l (g := g) (X := X) (o := o) hm nf 0 s none h (by omega)
  rw [nI_0] at r
  simp only [e7_0, e7_1, MK]
  exact r
end Cls4
