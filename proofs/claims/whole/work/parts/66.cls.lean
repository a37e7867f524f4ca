/-! the class: the printer, what is told, a job anew -/
section Cls7
variable {g : Nat → Nat → Nat} {s : Sg} {X : Sg × Option Av} {nf : Nat}
/-- the jobs that are over: o of them -/
abbrev OC (s : Sg) (o : Nat) : Prop := gI s 7 3 0 = nI o ∧ o ≤ 4 ∧ ∀ k, k < o → ∃ j, j < 4 ∧ gP s 18 k 0 = some j
theorem c_add (h : LC s nf) {o j : Nat} (ho : OC s o) (h4 : o < 4) (hj : j < 4) : Rn g 54 0 [some (.inr (.inr (some (7, 0)))), some (.inr (.inr (some (3, j))))] [] s X ↔ X = (sI (sP s 18 o 0 (some j)) 7 3 0 (nI (o + 1)), none) := by
  have h1 : ¬ nI o < 0 := nI_pos (by omega)
  have h2' : ¬ (4 : Int32) ≤ nI o := nI_ge (b := 4) h4 (by decide)
  have h2 : nI o < (4 : Int32) := nI_lt (b := 4) h4 (by decide)
  simp [Q54, MM, MK, h, ho.1, hj, ofN, show nI 4 = 4 from rfl, h1, h2, h2', inN h4, nI_1]
def drF (j : Nat) : Nat → Nat → Sg × Nat → Sg × Nat
  | _, 0, u => u
  | i, n + 1, u => drF j (i + 1) n (match gP u.1 18 i 0 with | none => u | some e => if e = j then u else (sP u.1 18 u.2 0 (some e), u.2 + 1))
theorem c_drop_l {o j : Nat} (h4 : o ≤ 4) (hj : j < 4) : ∀ n i (u : Sg × Nat), LC u.1 nf → OC u.1 o → u.2 ≤ i → i + n = o → (Rn g 55 4 [some (.inr (.inr (some (7, 0)))), some (.inr (.inr (some (3, j)))), some (.inl (nI u.2)), some (.inl (nI i))] [] u.1 X ↔ X = (sI (drF j i n u).1 7 3 0 (nI (drF j i n u).2), none))
  | 0, i, u, h, hq, hk, hi => by
    have h1 : nI o ≤ nI i := nI_le (by omega) (by omega)
    simp [Q55, II, MM, MK, h, hq.1, h1, drF]
  | n + 1, i, u, h, hq, hk, hi => by
    obtain ⟨s, k⟩ := u
    dsimp only at h hq hk ⊢
    have h1 : ¬ nI o ≤ nI i := nI_ge (by omega) (by omega)
    have h2 : ¬ (4 : Int32) ≤ nI i := nI_ge (b := 4) (by omega) (by decide)
    have h3 : ¬ (4 : Int32) ≤ nI k := nI_ge (b := 4) (by omega) (by decide)
    obtain ⟨f, hf, e1⟩ := hq.2.2 i (by omega)
    have hi16 := inN (show i < 4 by omega) (by omega)
    by_cases a1 : f = j
    · have ih := c_drop_l h4 hj n (i + 1) (s, k) h hq (by dsimp only; omega) (by omega)
      dsimp only at ih
      subst a1
      simp [Q55, II, MM, MK, h, hq.1, h1, ofN, show nI 4 = 4 from rfl, h2, hi16, e1, hf, e55_58, nI_1, ih, drF]
    · have hq' : OC (sP s 18 k 0 (some f)) o := by
        refine ⟨hq.1, hq.2.1, fun e he => ?_⟩
        rw [gP_sP]
        split
        · exact ⟨f, hf, rfl⟩
        · exact hq.2.2 e he
      have ih := c_drop_l h4 hj n (i + 1) (sP s 18 k 0 (some f), k + 1) (LC_sP h (by unfold dyP; omega)) hq' (by dsimp only; omega) (by omega)
      dsimp only at ih
      simp [Q55, II, MM, MK, h, hq.1, h1, ofN, show nI 4 = 4 from rfl, h2, h3, hi16, inN (show k < 4 by omega), e1, hf, hj, a1, e55_58, nI_1, ih, drF]
theorem c_drop (h : LC s nf) {o j : Nat} (ho : OC s o) (hj : j < 4) : Rn g 55 0 [some (.inr (.inr (some (7, 0)))), some (.inr (.inr (some (3, j)))), none, none] [] s X ↔ X = (sI (drF j 0 o (s, 0)).1 7 3 0 (nI (drF j 0 o (s, 0)).2), none) := by
  have r := c_drop_l (g := g) (X := X) ho.2.1 hj o 0 (s, 0) h ho (by dsimp only; omega) (by omega)
  dsimp only at r
  rw [nI_0] at r
  simp only [e55_0, e55_1, e55_2, e55_3, MK]
  exact r
theorem c_frameTell (h : LC s nf) {f : Nat} {w : Int32} (hf : f < nf) : Rn g 27 0 [some (.inr (.inr (some (2, f)))), some (.inl w)] [] s X ↔ X = (s, some (.inl (if w = 0 then gI s 2 1 f else if gI s 2 1 f = 0 then -1 else if w = 1 then gI s 2 2 f else if w = 2 then gI s 2 3 f else if w = 3 then gI s 2 5 f else if w = 4 then gI s 2 6 f else if w = 5 then (if gI s 2 7 f = 0 then 0 else 1) else if w = 6 then (if gI s 2 8 f = 0 then 0 else 1) else -1))) := by
  by_cases a0 : w = 0
  · simp [Q27, MM, MK, h, hf, a0]
  by_cases b0 : gI s 2 1 f = 0
  · simp [Q27, MM, MK, h, hf, a0, b0]
  by_cases a1 : w = 1
  · simp [Q27, MM, MK, h, hf, b0, a1]
  by_cases a2 : w = 2
  · simp [Q27, MM, MK, h, hf, b0, a2]
  by_cases a3 : w = 3
  · simp [Q27, MM, MK, h, hf, b0, a3]
  by_cases a4 : w = 4
  · simp [Q27, MM, MK, h, hf, b0, a4]
  by_cases a5 : w = 5
  · by_cases c5 : gI s 2 7 f = 0 <;> simp [Q27, MM, MK, h, hf, b0, a5, c5]
  by_cases a6 : w = 6
  · by_cases c6 : gI s 2 8 f = 0 <;> simp [Q27, MM, MK, h, hf, b0, a6, c6]
  · simp [Q27, MM, MK, h, hf, a0, b0, a1, a2, a3, a4, a5, a6]
def jtF (s : Sg) (j : Nat) (w : Int32) (c d : Nat) : Int32 := if w = 0 then gI s 3 1 j else if w = 1 then gI s 3 2 j else if w = 2 then gI s 3 3 j else if w = 3 then (match gP s 3 11 j with | none => -1 | some k => gI s 4 1 k) else if w = 4 then gI s 3 5 j else if w = 5 then nI c else if w = 6 then nI d else if w = 7 then gI s 3 7 j else if w = 8 then gI s 3 8 j else -1
theorem c_jobTell (h : LC s nf) {j c f d e : Nat} {w : Int32} (hj : j < 4) (ht : RO s (3 + 2 * j) c f) (hp : RO s (4 + 2 * j) d e) (hw : ∀ k, gP s 3 11 j = some k → k < 64) : Rn g 40 0 [some (.inr (.inr (some (3, j)))), some (.inl w)] [] s X ↔ X = (s, some (.inl (jtF s j w c d))) := by
  have r1 := fun X => c_size (g := g) (X := X) h (show 3 + 2 * j < 11 by omega) ht
  have r2 := fun X => c_size (g := g) (X := X) h (show 4 + 2 * j < 11 by omega) hp
  unfold jtF
  by_cases a0 : w = 0
  · simp [Q40, MM, MK, h, hj, a0]
  by_cases a1 : w = 1
  · simp [Q40, MM, MK, h, hj, a1]
  by_cases a2 : w = 2
  · simp [Q40, MM, MK, h, hj, a2]
  by_cases a3 : w = 3
  · cases hg : gP s 3 11 j with
    | none => simp [Q40, MM, MK, h, hj, a3, hg]
    | some k => simp [Q40, MM, MK, h, hj, a3, hg, hw k hg]
  by_cases a4 : w = 4
  · simp [Q40, MM, MK, h, hj, a4]
  by_cases a5 : w = 5
  · simp [Q40, MM, MK, h, hj, a5, show 3 + 2 * j < 11 by omega, r1]
  by_cases a6 : w = 6
  · simp [Q40, MM, MK, h, hj, a6, show 4 + 2 * j < 11 by omega, r2]
  by_cases a7 : w = 7
  · simp [Q40, MM, MK, h, hj, a7]
  by_cases a8 : w = 8
  · simp [Q40, MM, MK, h, hj, a8]
  · simp [Q40, MM, MK, h, hj, a0, a1, a2, a3, a4, a5, a6, a7, a8]
theorem c_drumTell (h : LC s nf) {w tk : Int32} {mf mp : Option Nat} (h1 : gP s 1 3 0 = mf) (h2 : gP s 1 4 0 = mp) (hf : ∀ f, mf = some f → f < nf) (hp : ∀ p, mp = some p → p < 64) : Rn g 21 0 [some (.inr (.inr (some (1, 0)))), some (.inl w), some (.inl tk)] [] s X ↔ X = (s, some (.inl (if w = 4 then gI s 1 2 0 else if w = 5 then gI s 1 6 0 else if w = 6 then gI s 1 7 0 else match mf, mp with | some f, some p => (if w = 0 then nI f else if w = 1 then nI p else if w = 2 then (if gI s 2 1 f = 3 then 1 else 0) else if w = 3 then 32 - (tk - gI s 1 5 0) else -1) | _, _ => -1))) := by
  by_cases a4 : w = 4
  · simp [Q21, MM, MK, h, a4]
  by_cases a5 : w = 5
  · simp [Q21, MM, MK, h, a5]
  by_cases a6 : w = 6
  · simp [Q21, MM, MK, h, a6]
  cases mf with
  | none => simp [Q21, MM, MK, h, h1, a4, a5, a6]
  | some f =>
    have hf := hf f rfl
    cases mp with
    | none => simp [Q21, MM, MK, h, h1, h2, a4, a5, a6]
    | some p =>
      have hp := hp p rfl
      by_cases a0 : w = 0
      · simp [Q21, MM, MK, h, h1, h2, hf, hp, a0]
      by_cases a1 : w = 1
      · simp [Q21, MM, MK, h, h1, h2, hf, hp, a1]
      by_cases a2 : w = 2
      · by_cases c2 : gI s 2 1 f = 3 <;> simp [Q21, MM, MK, h, h1, h2, hf, hp, a2, c2]
      by_cases a3 : w = 3
      · simp [Q21, MM, MK, h, h1, h2, hf, hp, a3]
      · simp [Q21, MM, MK, h, h1, h2, hf, hp, a0, a1, a2, a3, a4, a5, a6]
end Cls7
