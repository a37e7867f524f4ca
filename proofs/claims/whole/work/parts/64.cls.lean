/-! the class: the drum -/
theorem d32 {a : Nat} (ha : a < 2 ^ 31) : nI a / 32 = nI (a / 32) := nI_div (b := 32) ha (by decide)
theorem m8 {a : Nat} (ha : a < 2 ^ 31) : nI a - nI a / 8 * 8 = nI (a % 8) := nI_rem (b := 8) ha (by decide)
section Cls5
variable {g : Nat → Nat → Nat} {s : Sg} {X : Sg × Option Av} {nf : Nat}
/-- the queue: q frames -/
abbrev QC (s : Sg) (nf q : Nat) : Prop := gI s 1 2 0 = nI q ∧ q ≤ 16 ∧ ∀ k, k < q → ∃ f, f < nf ∧ gP s 14 k 0 = some f
theorem c_placeOf (h : LC s nf) {x0 : Int32} : Rn g 9 0 [some (.inr (.inr (some (1, 0)))), some (.inl x0)] [] s X ↔ X = (s, some (.inr (.inr (mk 6 (if x0 < 0 ∨ ¬ x0 < 64 then none else some x0.toNatClampNeg))))) := by
  by_cases a1 : x0 < 0
  · simp [Q9, MM, MK, h, a1]
  · obtain ⟨e, he, rfl⟩ := nI_of a1
    by_cases a2 : e < 64
    · have h1 : nI e < (64 : Int32) := nI_lt (b := 64) a2 (by decide)
      have h1' : ¬ (64 : Int32) ≤ nI e := nI_ge (b := 64) a2 (by decide)
      simp [Q9, MM, MK, h, a1, ofN, show nI 64 = 64 from rfl, h1, h1', a2, inN a2]
    · have h1 : ¬ nI e < (64 : Int32) := nI_nlt (b := 64) (by omega) he
      have h1' : (64 : Int32) ≤ nI e := nI_le (a := 64) (by omega) he
      simp [Q9, MM, MK, h, a1, ofN, show nI 64 = 64 from rfl, h1, h1']
theorem c_queuedFrame (h : LC s nf) {q : Nat} (hq : QC s nf q) {x0 : Int32} : Rn g 10 0 [some (.inr (.inr (some (1, 0)))), some (.inl x0)] [] s X ↔ X = (s, some (.inr (.inr (mk 2 (if x0 < 0 ∨ ¬ x0 < nI q then none else gP s 14 x0.toNatClampNeg 0))))) := by
  by_cases a1 : x0 < 0
  · simp [Q10, MM, MK, h, a1]
  · obtain ⟨e, he, rfl⟩ := nI_of a1
    have hq2 := hq.2.1
    by_cases a2 : e < q
    · have h1 : nI e < nI q := nI_lt a2 (by omega)
      have h1' : ¬ nI q ≤ nI e := nI_ge a2 (by omega)
      have h2' : ¬ (16 : Int32) ≤ nI e := nI_ge (b := 16) (by omega) (by decide)
      have h2 : nI e < (16 : Int32) := nI_lt (b := 16) (by omega) (by decide)
      simp [Q10, MM, MK, h, hq.1, a1, ofN, show nI 16 = 16 from rfl, h1, h1', h2, h2', inN (show e < 16 by omega)]
    · have h1 : ¬ nI e < nI q := nI_nlt (by omega) he
      have h1' : nI q ≤ nI e := nI_le (by omega) he
      simp [Q10, MM, MK, h, hq.1, a1, h1, h1']
abbrev tkP (s : Sg) (p : Nat) : Prop := gI s 6 1 p = 0
theorem c_countFree_l (h : LC s nf) : ∀ n i a, i + n = 64 → (Rn g 11 4 [some (.inr (.inr (some (1, 0)))), some (.inl (nI a)), some (.inl (nI i))] [] s X ↔ X = (s, some (.inl (nI (a + cf (tkP s) i n)))))
  | 0, i, a, hi => by
    have h1 : (64 : Int32) ≤ nI i := nI_le (a := 64) (by omega) (by omega)
    simp [Q11, II, MM, MK, h, ofN, show nI 64 = 64 from rfl, h1, cf]
  | n + 1, i, a, hi => by
    have h1 : ¬ (64 : Int32) ≤ nI i := nI_ge (b := 64) (by omega) (by decide)
    have ih := fun a => c_countFree_l h n (i + 1) a (by omega)
    have hi64 : i < 64 := by omega
    by_cases a1 : gI s 6 1 i = 0
    · simp [Q11, II, MM, MK, h, ofN, show nI 64 = 64 from rfl, h1, hi64, inN hi64, a1, e11_31, nI_1, ih, cf, tkP, Nat.add_assoc]
    · simp [Q11, II, MM, MK, h, ofN, show nI 64 = 64 from rfl, h1, hi64, inN hi64, a1, e11_31, nI_1, ih, cf, tkP]
theorem c_countFree (h : LC s nf) : Rn g 11 0 [some (.inr (.inr (some (1, 0)))), none, none] [] s X ↔ X = (s, some (.inl (nI (cf (tkP s) 0 64)))) := by
  have r := c_countFree_l (g := g) (X := X) h 64 0 0 rfl
  rw [Nat.zero_add] at r
  simp only [e11_0, e11_1, e11_2, e11_3, MK]
  exact r
theorem c_lowestFree_l (h : LC s nf) : ∀ n i, i + n = 64 → (Rn g 12 2 [some (.inr (.inr (some (1, 0)))), some (.inl (nI i))] [] s X ↔ X = (s, some (.inr (.inr (mk 6 (ff (tkP s) i n))))))
  | 0, i, hi => by
    have h1 : (64 : Int32) ≤ nI i := nI_le (a := 64) (by omega) (by omega)
    simp [Q12, II, MM, MK, h, ofN, show nI 64 = 64 from rfl, h1, ff]
  | n + 1, i, hi => by
    have h1 : ¬ (64 : Int32) ≤ nI i := nI_ge (b := 64) (by omega) (by decide)
    have ih := c_lowestFree_l h n (i + 1) (by omega)
    have hi64 : i < 64 := by omega
    by_cases a1 : gI s 6 1 i = 0 <;> simp [Q12, II, MM, MK, h, ofN, show nI 64 = 64 from rfl, h1, hi64, inN hi64, a1, e12_33, nI_1, ih, ff, tkP]
theorem c_lowestFree (h : LC s nf) : Rn g 12 0 [some (.inr (.inr (some (1, 0)))), none] [] s X ↔ X = (s, some (.inr (.inr (mk 6 (ff (tkP s) 0 64))))) := by
  have r := c_lowestFree_l (g := g) (X := X) h 64 0 rfl
  simp only [e12_0, e12_1, MK]
  exact r
theorem c_enqueue (h : LC s nf) {q f : Nat} (hq : QC s nf q) (h16 : q < 16) (hf : f < nf) : Rn g 13 0 [some (.inr (.inr (some (1, 0)))), some (.inr (.inr (some (2, f))))] [] s X ↔ X = (sI (sP s 14 q 0 (some f)) 1 2 0 (nI (q + 1)), none) := by
  have h1 : ¬ nI q < 0 := nI_pos (by omega)
  have h2 : nI q < (16 : Int32) := nI_lt (b := 16) h16 (by decide)
  have h2' : ¬ (16 : Int32) ≤ nI q := nI_ge (b := 16) h16 (by decide)
  simp [Q13, MM, MK, h, hq.1, hf, ofN, show nI 16 = 16 from rfl, h1, h2, h2', inN h16, nI_1]
def lvF (s : Sg) (f : Nat) (k : Option Nat) : Sg := match k with
  | none => sP (sI s 2 1 f 0) 2 4 f none
  | some k => sP (sP (sI s 2 1 f 0) 2 4 f none) 4 2 k none
theorem c_leave (h : LC s nf) {f : Nat} {k : Option Nat} (hf : f < nf) (hk : ∀ e, k = some e → e < 64) : Rn g 15 0 [some (.inr (.inr (some (2, f)))), some (.inr (.inr (mk 4 k)))] [] s X ↔ X = (lvF s f k, none) := by
  have he := fun X => c_empty (g := g) (X := X) h hf
  cases k with
  | none => simp [Q15, MM, MK, h, hf, he, lvF]
  | some e => simp [Q15, MM, MK, h, hf, he, hk e rfl, lvF]
def etF (s : Sg) (f p : Nat) : Sg :=
  let u := sP (sP s 1 3 0 none) 1 4 0 none
  if gI s 2 1 f = 3 then lvF (sI (sI u 1 7 0 (gI s 1 7 0 + 1)) 6 1 p (if gP s 2 4 f = none then 0 else 1)) f (gP s 2 4 f)
  else match gP s 2 4 f with
    | none => sP (sI (sI (sI u 1 6 0 (gI s 1 6 0 + 1)) 6 1 p 0) 2 1 f 0) 2 4 f none
    | some k => ftkF (sP (sI (sI u 1 6 0 (gI s 1 6 0 + 1)) 6 1 p 0) 4 3 k none) f k 1
theorem c_endTransfer_0 (h : LC s nf) (hm : gP s 1 3 0 = none) : Rn g 14 0 [some (.inr (.inr (some (1, 0)))), none, none, none] [] s X ↔ X = (sP (sP s 1 3 0 none) 1 4 0 none, none) := by
  simp [Q14, MM, MK, h, hm]
theorem c_endTransfer (h : LC s nf) {f p : Nat} (hm : gP s 1 3 0 = some f) (hp : gP s 1 4 0 = some p) (hf : f < nf) (hp64 : p < 64) (hk : ∀ e, gP s 2 4 f = some e → e < 64) : Rn g 14 0 [some (.inr (.inr (some (1, 0)))), none, none, none] [] s X ↔ X = (etF s f p, none) := by
  have hu : LC (sP (sP s 1 3 0 none) 1 4 0 none) nf := LC_sP (LC_sP h (by unfold dyP; omega)) (by unfold dyP; omega)
  unfold etF
  dsimp only
  by_cases a1 : gI s 2 1 f = 3
  · rw [if_pos a1]
    have h' : ∀ v w, LC (sI (sI (sP (sP s 1 3 0 none) 1 4 0 none) 1 7 0 v) 6 1 p w) nf := fun v w => LC_sI (LC_sI hu (by omega)) (by omega)
    cases hg : gP s 2 4 f with
    | none =>
      have hl := fun v w X => c_leave (g := g) (X := X) (k := none) (h' v w) hf (fun e he => by cases he)
      rw [mk_none] at hl
      simp [Q14, MM, MK, h, hm, hp, hf, hp64, a1, hg, hl]
    | some k =>
      have hl := fun v w X => c_leave (g := g) (X := X) (k := some k) (h' v w) hf (fun e he => by cases he; exact hk k hg)
      rw [mk_some] at hl
      simp [Q14, MM, MK, h, hm, hp, hf, hp64, a1, hg, hl]
  · rw [if_neg a1]
    have h' : ∀ v, LC (sI (sI (sP (sP s 1 3 0 none) 1 4 0 none) 1 6 0 v) 6 1 p 0) nf := fun v => LC_sI (LC_sI hu (by omega)) (by omega)
    cases hg : gP s 2 4 f with
    | none =>
      have hl := fun v X => c_empty (g := g) (X := X) (h' v) hf
      simp [Q14, MM, MK, h, hm, hp, hf, hp64, a1, hg, hl]
    | some k =>
      have h64 := hk k hg
      have hl := fun v X => c_frameTake (g := g) (X := X) (st := 1) (LC_sP (c := 4) (k := 3) (i := k) (v := none) (h' v) (by unfold dyP; omega)) hf h64
      simp [Q14, MM, MK, h, hm, hp, hf, hp64, h64, a1, hg, hl]
abbrev fpP (s : Sg) (c p : Nat) : Prop := gI s 6 1 p = 0 ∧ p % 8 = c
def pfF (s : Sg) (st : Int32) (k c : Nat) : Option Nat := if st = 2 then (match gP s 4 3 k with | none => none | some p => if p % 8 = c then some p else none) else ff (fpP s c) 0 64
theorem c_placeFor_l (h : LC s nf) {st : Int32} {k c : Nat} (hc : c < 8) : ∀ n i, i + n = 64 → (Rn g 17 38 [some (.inr (.inr (some (1, 0)))), some (.inl st), some (.inr (.inr (some (4, k)))), some (.inl (nI c)), some (.inl (nI i))] [] s X ↔ X = (s, some (.inr (.inr (mk 6 (ff (fpP s c) i n))))))
  | 0, i, hi => by
    have h1 : (64 : Int32) ≤ nI i := nI_le (a := 64) (by omega) (by omega)
    simp [Q17, II, MM, MK, h, ofN, show nI 64 = 64 from rfl, h1, ff]
  | n + 1, i, hi => by
    have h1 : ¬ (64 : Int32) ≤ nI i := nI_ge (b := 64) (by omega) (by decide)
    have ih := c_placeFor_l h (st := st) (k := k) hc n (i + 1) (by omega)
    have hi64 : i < 64 := by omega
    have hm : nI i - nI i / 8 * 8 = nI (i % 8) := m8 (by omega)
    have he : (nI (i % 8) = nI c) = (i % 8 = c) := propext (nI_eq (by omega) (by omega))
    by_cases a1 : gI s 6 1 i = 0 <;> by_cases a2 : i % 8 = c <;> simp [Q17, II, MM, MK, h, ofN, show nI 64 = 64 from rfl, h1, hi64, inN hi64, a1, hm, he, a2, e17_81, nI_1, ih, ff, fpP]
theorem c_placeFor (h : LC s nf) {st : Int32} {k c : Nat} (hk : k < 64) (hc : c < 8) (hp : ∀ p, gP s 4 3 k = some p → p < 64) : Rn g 17 0 [some (.inr (.inr (some (1, 0)))), some (.inl st), some (.inr (.inr (some (4, k)))), some (.inl (nI c)), none] [] s X ↔ X = (s, some (.inr (.inr (mk 6 (pfF s st k c))))) := by
  unfold pfF
  by_cases a1 : st = 2
  · rw [if_pos a1]
    cases hg : gP s 4 3 k with
    | none => simp [Q17, MM, MK, h, hk, a1, hg]
    | some p =>
      have h64 := hp p hg
      have hm : nI p - nI p / 8 * 8 = nI (p % 8) := m8 (by omega)
      have he : (nI (p % 8) = nI c) = (p % 8 = c) := propext (nI_eq (by omega) (by omega))
      by_cases a2 : p % 8 = c <;> simp [Q17, MM, MK, h, hk, h64, a1, hg, hm, he, a2]
  · rw [if_neg a1]
    have r := c_placeFor_l (g := g) (X := X) (st := st) (k := k) h hc 64 0 rfl
    rw [nI_0] at r
    simp only [e17_0, e17_1, e17_2, e17_35, e17_36, MK, a1, if_false]
    exact r
end Cls5
