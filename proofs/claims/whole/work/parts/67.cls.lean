/-! the class: printing, a job anew, small things of the processor -/
section Cls8
variable {g : Nat → Nat → Nat} {s : Sg} {X : Sg × Option Av} {nf : Nat}
def pshF (s : Sg) (r c f : Nat) (v : Int64) : Sg := if c < cap r then sI (sJ s 19 (rix r f c) r v) 9 2 r (nI (c + 1)) else sI (sJ (sI (sI s 9 1 r (nI (rix r f 1))) 9 2 r (nI (c - 1))) 19 (rix r (rix r f 1) (c - 1)) r v) 9 2 r (nI c)
theorem LC_pshF {r c f : Nat} {v : Int64} (h : LC s nf) : LC (pshF s r c f v) nf := LC_if (LC_sI (LC_sJ h) (by omega)) (LC_sI (LC_sJ (LC_sI (LC_sI h (by omega)) (by omega))) (by omega))
theorem pshF_gI {r c f k i e : Nat} {v : Int64} (hc : c ≠ 9) : gI (pshF s r e f v) c k i = gI s c k i := by
  unfold pshF; split <;> simp [MM, hc]
/-- the printer prints the first word that it has not printed, from place i of the row on -/
def pnF (s : Sg) (c2 f2 : Nat) (pc pf : Nat → Nat) : Nat → Nat → Sg
  | _, 0 => s
  | i, n + 1 => match gP s 18 i 0 with
    | none => pnF s c2 f2 pc pf (i + 1) n
    | some j => if gI s 3 9 j < nI (pc j) then sI (sI (pshF s 2 c2 f2 (gJ s 19 (rix (4 + 2 * j) (pf j) (gI s 3 9 j).toNatClampNeg) (4 + 2 * j))) 3 9 j (gI s 3 9 j + 1)) 7 1 0 (gI s 7 1 0 + 1) else pnF s c2 f2 pc pf (i + 1) n
theorem c_printNext_l (h : LC s nf) {o c2 f2 : Nat} {pc pf : Nat → Nat} (ho : OC s o) (h2 : RO s 2 c2 f2) (hp : ∀ j, j < 4 → RO s (4 + 2 * j) (pc j) (pf j)) (hn : ∀ j, j < 4 → ¬ gI s 3 9 j < 0) : ∀ n i (z : Option Av), i + n = o → (Rn g 56 2 [some (.inr (.inr (some (7, 0)))), some (.inl (nI i)), z] [] s X ↔ X = (pnF s c2 f2 pc pf i n, none))
  | 0, i, z, hi => by
    have h4 := ho.2.1
    have h1 : nI o ≤ nI i := nI_le (by omega) (by omega)
    simp [Q56, II, MM, MK, h, ho.1, h1, pnF]
  | n + 1, i, z, hi => by
    have h4 := ho.2.1
    have h1 : ¬ nI o ≤ nI i := nI_ge (by omega) (by omega)
    have h3 : ¬ (4 : Int32) ≤ nI i := nI_ge (b := 4) (by omega) (by decide)
    have ih := fun z => c_printNext_l h ho h2 hp hn n (i + 1) z (by omega)
    obtain ⟨j, hj, e1⟩ := ho.2.2 i (by omega)
    have hi16 := inN (show i < 4 by omega) (by omega)
    have hip := fun X => c_isPrinted (g := g) (X := X) h hj (hp j hj)
    by_cases a1 : gI s 3 9 j < nI (pc j)
    · have hat := fun X => c_at (g := g) (X := X) (x0 := gI s 3 9 j) h (show 4 + 2 * j < 11 by omega) (hp j hj)
      have hps := fun v X => c_push (g := g) (X := X) (v := v) h (show 2 < 11 by omega) h2
      have hnj := hn j hj
      have hcond : ¬ (gI s 3 9 j < 0 ∨ ¬ gI s 3 9 j < nI (pc j)) := fun q => q.elim hnj (fun q => q a1)
      simp only [if_neg hcond] at hat
      have hl := fun v => LC_pshF (r := 2) (c := c2) (f := f2) (v := v) h
      have hg := fun v k i => pshF_gI (s := s) (r := 2) (e := c2) (f := f2) (v := v) (c := 3) (k := k) (i := i) (by omega)
      have hg7 := fun v k i => pshF_gI (s := s) (r := 2) (e := c2) (f := f2) (v := v) (c := 7) (k := k) (i := i) (by omega)
      have hps' : ∀ v X, Rn g 80 0 [some (.inr (.inr (some (9, 2)))), some (.inr (.inl v)), none] [] s X ↔ X = (pshF s 2 c2 f2 v, none) := hps
      simp [Q56, II, MM, MK, h, hl, ho.1, h1, ofN, show nI 4 = 4 from rfl, h3, hi16, e1, hj, hip, a1, show 4 + 2 * j < 11 by omega, hat, hps', hg, hg7, pnF]
    · simp [Q56, II, MM, MK, h, ho.1, h1, ofN, show nI 4 = 4 from rfl, h3, hi16, e1, hj, hip, a1, pnF]
      simp only [e56_79, nI_1, ih]
def fi1 (j : Nat) : Sg → Nat → Nat → Sg
  | s, _, 0 => s
  | s, i, n + 1 => fi1 j (sI s 15 i j 0) (i + 1) n
theorem LC_fi1 (j : Nat) : ∀ n i (s : Sg), LC s nf → LC (fi1 j s i n) nf
  | 0, _, _, h => h
  | n + 1, i, _, h => LC_fi1 j n (i + 1) _ (LC_sI h (by omega))
theorem c_fillI_l {j : Nat} (hj : j < 4) : ∀ n i (s : Sg), LC s nf → i + n = 128 → (Rn g 183 5 [some (.inr (.inr (some (15, j)))), some (.inl 0), some (.inl (nI i)), some (.inl 128)] [] s X ↔ X = (fi1 j s i n, none))
  | 0, i, s, h, hi => by
    obtain rfl : i = 128 := by omega
    have h1 : (128 : Int32) ≤ nI 128 := by decide
    simp [Q183, II, MM, MK, h1, fi1]
  | n + 1, i, s, h, hi => by
    have h1 : ¬ (128 : Int32) ≤ nI i := nI_ge (b := 128) (by omega) (by decide)
    have ih := c_fillI_l hj n (i + 1) (sI s 15 i j 0) (LC_sI h (by omega)) (by omega)
    simp [Q183, II, MM, MK, h, hj, h1, inN (show i < 128 by omega), e183_17, nI_1, fi1, ih]
theorem c_fillI (h : LC s nf) {j : Nat} (hj : j < 4) : Rn g 183 0 [some (.inr (.inr (some (15, j)))), some (.inl 0), none, none] [] s X ↔ X = (fi1 j s 0 128, none) := by
  have r := c_fillI_l (g := g) (X := X) hj 128 0 s h rfl
  rw [nI_0] at r
  simp [e183_0, e183_1, e183_2, e183_3, e183_4, MM, MK, h, hj, ofN, show nI 128 = 128 from rfl]
  exact r
def rstF (s : Sg) (j : Nat) : Sg :=
  let u := fi1 j (sP (sJ (sI (sI (sI (sI (sI (sI (sI (sI (sI s 3 1 j 0) 3 2 j 0) 3 3 j 0) 3 4 j 0) 3 5 j 0) 3 6 j 0) 3 7 j 0) 3 8 j (-1)) 3 9 j 0) 3 10 j 0) 3 11 j none) 0 128
  sI (sI (sI (sI u 9 1 (3 + 2 * j) 0) 9 2 (3 + 2 * j) 0) 9 1 (4 + 2 * j) 0) 9 2 (4 + 2 * j) 0
theorem c_reset (h : LC s nf) {j : Nat} (hj : j < 4) : Rn g 31 0 [some (.inr (.inr (some (3, j))))] [] s X ↔ X = (rstF s j, none) := by
  have h1 : LC (sP (sJ (sI (sI (sI (sI (sI (sI (sI (sI (sI s 3 1 j 0) 3 2 j 0) 3 3 j 0) 3 4 j 0) 3 5 j 0) 3 6 j 0) 3 7 j 0) 3 8 j (-1)) 3 9 j 0) 3 10 j 0) 3 11 j none) nf := LC_sP (LC_sJ (LC_sI (LC_sI (LC_sI (LC_sI (LC_sI (LC_sI (LC_sI (LC_sI (LC_sI h (by omega)) (by omega)) (by omega)) (by omega)) (by omega)) (by omega)) (by omega)) (by omega)) (by omega))) (by unfold dyP; omega)
  have h2 := LC_fi1 j 128 0 _ h1
  have h3 := LC_sI (c := 9) (k := 2) (i := 3 + 2 * j) (v := 0) (LC_sI (c := 9) (k := 1) (i := 3 + 2 * j) (v := 0) h2 (by omega)) (by omega)
  have r1 := fun X => c_fillI (g := g) (X := X) h1 hj
  have r2 := fun X => c_clear (g := g) (X := X) h2 (show 3 + 2 * j < 11 by omega)
  have r3 := fun X => c_clear (g := g) (X := X) h3 (show 4 + 2 * j < 11 by omega)
  simp [Q31, MM, MK, h, hj, h2, show 3 + 2 * j < 11 by omega, show 4 + 2 * j < 11 by omega, r1, r2, r3, rstF]
theorem c_signOf {v : Int64} : Rn g 74 0 [some (.inr (.inl v)), none] [] s X ↔ X = (s, some (.inl (sgF v))) := by
  unfold sgF
  by_cases h1 : v = 0
  · subst h1
    simp [Q74, NC, MK]
  · by_cases h2 : 0 < v
    · simp [Q74, NC, MK, h1, h2, i64_le (x := v) (y := 0)]
    · have h3 : v < 0 := by rw [i64_lt] at h2 ⊢; have : ¬ v.toInt = (0 : Int64).toInt := fun q => h1 (Int64.toInt_inj.mp q); omega
      simp [Q74, NC, MK, h1, h2, h3, i64_le (x := v) (y := 0)]
theorem c_holds {k : Nat} (hk : k < 4) {v : Int64} : Rn g 71 0 [some (.inl (nI k)), some (.inr (.inl v)), none] [] s X ↔ X = (s, some (.inl (if isF k v = true then 1 else 0))) := by
  have k4 : k = 0 ∨ k = 1 ∨ k = 2 ∨ k = 3 := by omega
  rcases k4 with rfl | rfl | rfl | rfl
  · by_cases h1 : v = 0 <;> simp [Q71, NC, MK, isF, nI_0, h1]
  · by_cases h1 : v = 0 <;> simp [Q71, NC, MK, isF, show nI 1 = 1 from rfl, h1]
  · by_cases h1 : v < 0 <;> simp [Q71, NC, MK, isF, show nI 2 = 2 from rfl, h1, i64_le]
  · by_cases h1 : v < 0 <;> simp [Q71, NC, MK, isF, show nI 3 = 3 from rfl, h1, i64_le]
end Cls8
