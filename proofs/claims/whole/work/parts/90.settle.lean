/-! settling an order -/
def insF (s : Sg) (nf : Nat) : Sg := if gI s 10 9 0 + 1 - (gI s 10 9 0 + 1) / 64 * 64 = 0 then sI (clkF (sI s 10 9 0 (gI s 10 9 0 + 1)) 0 nf) 10 12 0 (gI s 10 12 0 + 1) else sI s 10 9 0 (gI s 10 9 0 + 1)
section Set1
variable {g : Nat → Nat → Nat} {s t : Sg} {X : Sg × Option Av} {nf B : Nat} {Q : List Nat}
theorem flk_cm {f : Nat} {v : Int32} : flkF (sI s 10 12 0 v) f = sI (flkF s f) 10 12 0 v := by
  unfold flkF
  show (if gI s 2 7 f = 0 then sI (sI s 10 12 0 v) 2 5 f (gI s 2 5 f + 1) else sI (sI (if 0 < gI s 2 5 f then sI (sI s 10 12 0 v) 2 6 f (gI s 2 5 f) else sI s 10 12 0 v) 2 5 f 0) 2 7 f 0) = _
  by_cases c1 : gI s 2 7 f = 0
  · rw [if_pos c1, if_pos c1, sI_cm (by omega)]
  · rw [if_neg c1, if_neg c1]
    by_cases c2 : 0 < gI s 2 5 f
    · rw [if_pos c2, if_pos c2, sI_cm (c := 10) (k := 12) (by omega), sI_cm (c := 10) (k := 12) (by omega), sI_cm (c := 10) (k := 12) (by omega)]
    · rw [if_neg c2, if_neg c2, sI_cm (c := 10) (k := 12) (by omega), sI_cm (c := 10) (k := 12) (by omega)]
theorem clk_cm {v : Int32} : ∀ n i (s : Sg), clkF (sI s 10 12 0 v) i n = sI (clkF s i n) 10 12 0 v
  | 0, _, _ => rfl
  | n + 1, i, s => by
    rw [clkF, clkF]
    have e : gI (sI s 10 12 0 v) 2 1 i = gI s 2 1 i := rfl
    rw [e]
    by_cases c : gI s 2 1 i = 1
    · rw [if_pos c, if_pos c, flk_cm, clk_cm n (i + 1)]
    · rw [if_neg c, if_neg c, clk_cm n (i + 1)]
theorem flk_gI {f c k i : Nat} (h : ¬ c = 2) : gI (flkF s f) c k i = gI s c k i := by
  unfold flkF
  split
  · rw [gI_sI, if_neg (by omega)]
  · rw [gI_sI, if_neg (by omega), gI_sI, if_neg (by omega)]
    split
    · rw [gI_sI, if_neg (by omega)]
    · rfl
theorem clk_gI {c k e : Nat} (h : ¬ c = 2) : ∀ n i (s : Sg), gI (clkF s i n) c k e = gI s c k e
  | 0, _, _ => rfl
  | n + 1, i, s => by
    rw [clkF, clk_gI h n (i + 1)]
    split
    · exact flk_gI h
    · rfl
theorem LC_clkF : ∀ n i (s : Sg), LC s nf → LC (clkF s i n) nf
  | 0, _, _, h => h
  | n + 1, i, s, h => by
    rw [clkF]
    exact LC_clkF n (i + 1) _ (LC_if (LC_flkF h) h)
theorem c_settle_held (h : LC s nf) {j : Nat} : Rn g 115 0 [some (.inr (.inr (some (10, 0)))), some (.inr (.inr (some (3, j)))), some (.inl (-1))] [] s X ↔ X = (s, none) := by
  have h1 : (-1 : Int32) ≤ 0 := by decide
  have h2 : ¬ (-1 : Int32) = -2 := by decide
  simp [Q115, MM, MK, h, h1, h2]
theorem c_settle_done (h : LC s nf) {j : Nat} : Rn g 115 0 [some (.inr (.inr (some (10, 0)))), some (.inr (.inr (some (3, j)))), some (.inl 0)] [] s X ↔ X = (insF s nf, none) := by
  have h1 : LC (sI s 10 9 0 (gI s 10 9 0 + 1)) nf := LC_sI h (by omega)
  have r1 := fun X => c_coreLook (g := g) (X := X) h1
  have h2 := LC_clkF nf 0 _ h1
  have e1 : gI (clkF (sI s 10 9 0 (gI s 10 9 0 + 1)) 0 nf) 10 12 0 = gI s 10 12 0 := by rw [clk_gI (by omega)]; rfl
  have h3 : ¬ (0 : Int32) = -2 := by decide
  unfold insF
  by_cases c : gI s 10 9 0 + 1 - (gI s 10 9 0 + 1) / 64 * 64 = 0
  · simp [Q115, MM, MK, h, h1, h2, h3, r1, c, e1]
  · simp [Q115, MM, MK, h, h1, h2, h3, r1, c, e1]
theorem c_settle_last (h : LC s nf) {j : Nat} {u : Sg} (hu : LC u nf) (hr : ∀ X, Rn g 116 0 [some (.inr (.inr (some (10, 0)))), some (.inr (.inr (some (3, j)))), some (.inl 3)] [] s X ↔ X = (u, none)) : Rn g 115 0 [some (.inr (.inr (some (10, 0)))), some (.inr (.inr (some (3, j)))), some (.inl (-2))] [] s X ↔ X = (insF u nf, none) := by
  have h1 : LC (sI u 10 9 0 (gI u 10 9 0 + 1)) nf := LC_sI hu (by omega)
  have r1 := fun X => c_coreLook (g := g) (X := X) h1
  have h2 := LC_clkF nf 0 _ h1
  have e1 : gI (clkF (sI u 10 9 0 (gI u 10 9 0 + 1)) 0 nf) 10 12 0 = gI u 10 12 0 := by rw [clk_gI (by omega)]; rfl
  have h3 : (-2 : Int32) ≤ 0 := by decide
  unfold insF
  by_cases c : gI u 10 9 0 + 1 - (gI u 10 9 0 + 1) / 64 * 64 = 0
  · simp [Q115, MM, MK, h, hu, h1, h2, h3, r1, hr, c, e1]
  · simp [Q115, MM, MK, h, hu, h1, h2, h3, r1, hr, c, e1]
theorem c_settle_fail (h : LC s nf) {j : Nat} {v : Int32} {u : Sg} (hj : j < 4) (hv : 0 < v) (hr : ∀ X, Rn g 116 0 [some (.inr (.inr (some (10, 0)))), some (.inr (.inr (some (3, j)))), some (.inl 4)] [] (sI s 3 2 j v) X ↔ X = (u, none)) : Rn g 115 0 [some (.inr (.inr (some (10, 0)))), some (.inr (.inr (some (3, j)))), some (.inl v)] [] s X ↔ X = (u, none) := by
  have h1 : ¬ v ≤ 0 := by rw [i32_le]; exact not_not_intro hv
  have h2 : ¬ v = 0 := fun e => by rw [e] at hv; exact absurd hv (by decide)
  have h3 : ¬ v = -2 := fun e => by rw [e] at hv; exact absurd hv (by decide)
  simp [Q115, MM, MK, h, hj, h1, h2, h3, hr]
theorem rl_ins (h : Rl g (sI s 10 9 0 (gI s 10 9 0 + 1)) t nf B Q) : Rl g (insF s nf) (if gI t 11 48 0 - gI t 11 48 0 / 64 * 64 = 0 then lkF (sI t 11 50 0 (gI t 11 50 0 + 1)) 0 nf else t) nf B Q := by
  have k := h.2.2.2.2.2
  have e1 : gI t 11 48 0 = gI s 10 9 0 + 1 := k.1.symm
  have e2 : gI t 11 50 0 = gI s 10 12 0 := k.2.2.1.symm
  unfold insF
  rw [e1, e2]
  by_cases c : gI s 10 9 0 + 1 - (gI s 10 9 0 + 1) / 64 * 64 = 0
  · rw [if_pos c, if_pos c, ← clk_cm]
    exact rl_look nf 0 _ _ (by omega) (rl_looks h)
  · rw [if_neg c, if_neg c]
    exact h
end Set1
