/-! the reference's small methods -/
section Ref1
variable {g : Nat → Nat → Nat} {t : Sg} {X : Sg × Option Av} {nf : Nat}
theorem r_in {a b d : Int64} : Rn g 122 0 [some (.inr (.inl a)), none, some (.inr (.inl b)), none, some (.inr (.inl d)), none] [] t X ↔ X = (t, some (.inl (if b ≤ a ∧ a ≤ d then 1 else 0))) := by
  simp [Q122, NC, MK]
  by_cases h1 : a < b <;> by_cases h2 : d < a <;> simp [h1, h2, i64_le]
theorem r_whole {x : Int64} : Rn g 123 0 [some (.inr (.inl x)), none] [] t X ↔ X = (t, some (.inr (.inl (wh x)))) := by
  simp only [Q123]; rfl
theorem r_half {x : Int64} : Rn g 124 0 [some (.inr (.inl x)), none] [] t X ↔ X = (t, some (.inl (hf x))) := by
  simp only [Q124]; rfl
theorem r_isOver (h : LR t nf) {j : Nat} (hj : j < 4) : Rn g 126 0 [some (.inr (.inr (some (11, 0)))), some (.inl (nI j))] [] t X ↔ X = (t, some (.inl (if 3 ≤ gI t 22 j 0 then 1 else 0))) := by
  simp [Q126, MM, MK, h, inN hj]
  by_cases h1 : gI t 22 j 0 < 3 <;> simp [h1, i32_le]
abbrev slotP (t : Sg) (j b : Int32) (k : Nat) : Prop := gI t 38 k 0 = j ∧ gI t 39 k 0 = b
def slotF (t : Sg) (j b : Int32) : Option Nat := ff (slotP t j b) 0 64
theorem r_slot_l (h : LR t nf) (j b : Int32) : ∀ n i, i + n = 64 → (Rn g 127 2 [some (.inr (.inr (some (11, 0)))), some (.inl j), some (.inl b), some (.inl (nI i))] [] t X ↔ X = (t, some (.inl (oi (ff (slotP t j b) i n)))))
  | 0, i, hi => by
    have h1 : (64 : Int32) ≤ nI i := nI_le (a := 64) (by omega) (by omega)
    simp [Q127, II, MK, h, h1, ff, oi]
  | n + 1, i, hi => by
    have h1 : ¬ (64 : Int32) ≤ nI i := nI_ge (b := 64) (by omega) (by decide)
    have ih := r_slot_l h j b n (i + 1) (by omega)
    simp [Q127, II, MM, MK, h, h1, inN (show i < 64 by omega), e127_33, nI_1, ih, ff, oi_if, oi_s]
    by_cases a1 : gI t 38 i 0 = j <;> by_cases a2 : gI t 39 i 0 = b <;> simp [slotP, a1, a2]
theorem r_slot (h : LR t nf) (j b : Int32) : Rn g 127 0 [some (.inr (.inr (some (11, 0)))), some (.inl j), some (.inl b), none] [] t X ↔ X = (t, some (.inl (oi (slotF t j b)))) := by
  simp only [e127_0, e127_1, MK]
  exact r_slot_l h j b 64 0 rfl
abbrev frmP (t : Sg) (j b : Int32) (f : Nat) : Prop := ¬ gI t 42 f 0 = 0 ∧ gI t 43 f 0 = j ∧ gI t 44 f 0 = b ∧ ¬ (nI f = gI t 11 33 0 ∧ gI t 11 36 0 = 1)
def frmF (t : Sg) (nf : Nat) (j b : Int32) : Option Nat := ff (frmP t j b) 0 nf
theorem r_frameOf_l (h : LR t nf) (j b : Int32) : ∀ n i, i + n = nf → (Rn g 129 2 [some (.inr (.inr (some (11, 0)))), some (.inl j), some (.inl b), some (.inl (nI i))] [] t X ↔ X = (t, some (.inl (oi (ff (frmP t j b) i n)))))
  | 0, i, hi => by
    have h1 : nI nf ≤ nI i := nI_le (by omega) (by have := h.1; omega)
    simp [Q129, II, MK, h, h1, ff, oi]
  | n + 1, i, hi => by
    have h1 : ¬ nI nf ≤ nI i := nI_ge (by omega) (by have := h.1; omega)
    have ih := r_frameOf_l h j b n (i + 1) (by omega)
    simp [Q129, II, MM, MK, h, h1, inN (show i < 16 by have := h.1; omega), e129_60, nI_1, ih, ff, oi_if, oi_s]
    by_cases a1 : gI t 42 i 0 = 0 <;> by_cases a2 : gI t 43 i 0 = j <;> by_cases a3 : gI t 44 i 0 = b <;> by_cases a4 : nI i = gI t 11 33 0 <;> by_cases a5 : gI t 11 36 0 = 1 <;> simp [frmP, a1, a2, a3, a4, a5]
theorem r_frameOf (h : LR t nf) (j b : Int32) : Rn g 129 0 [some (.inr (.inr (some (11, 0)))), some (.inl j), some (.inl b), none] [] t X ↔ X = (t, some (.inl (oi (frmF t nf j b)))) := by
  simp only [e129_0, e129_1, MK]
  exact r_frameOf_l h j b nf 0 (by omega)
abbrev plcP (t : Sg) (j b : Int32) (q : Nat) : Prop := gI t 49 q 0 = j ∧ gI t 50 q 0 = b ∧ ¬ (0 ≤ gI t 11 33 0 ∧ gI t 11 36 0 = 1 ∧ nI q = gI t 11 34 0)
def plcF (t : Sg) (j b : Int32) : Option Nat := ff (plcP t j b) 0 64
theorem r_placeOf_l (h : LR t nf) (j b : Int32) : ∀ n i, i + n = 64 → (Rn g 130 2 [some (.inr (.inr (some (11, 0)))), some (.inl j), some (.inl b), some (.inl (nI i))] [] t X ↔ X = (t, some (.inl (oi (ff (plcP t j b) i n)))))
  | 0, i, hi => by
    have h1 : (64 : Int32) ≤ nI i := nI_le (a := 64) (by omega) (by omega)
    simp [Q130, II, MK, h, h1, ff, oi]
  | n + 1, i, hi => by
    have h1 : ¬ (64 : Int32) ≤ nI i := nI_ge (b := 64) (by omega) (by decide)
    have ih := r_placeOf_l h j b n (i + 1) (by omega)
    simp [Q130, II, MM, MK, h, h1, inN (show i < 64 by omega), e130_56, nI_1, ih, ff, oi_if, oi_s]
    by_cases a1 : gI t 49 i 0 = j <;> by_cases a2 : gI t 50 i 0 = b <;> by_cases a3 : gI t 11 33 0 < 0 <;> by_cases a4 : nI i = gI t 11 34 0 <;> by_cases a5 : gI t 11 36 0 = 1 <;> simp [plcP, a1, a2, a3, a4, a5, i32_le]
theorem r_placeOf (h : LR t nf) (j b : Int32) : Rn g 130 0 [some (.inr (.inr (some (11, 0)))), some (.inl j), some (.inl b), none] [] t X ↔ X = (t, some (.inl (oi (plcF t j b)))) := by
  simp only [e130_0, e130_1, MK]
  exact r_placeOf_l h j b 64 0 rfl
/-- how many k from i on, among n, have p -/
def cf (p : Nat → Prop) [DecidablePred p] : Nat → Nat → Nat
  | _, 0 => 0
  | i, n + 1 => (if p i then 1 else 0) + cf p (i + 1) n
theorem cf_le (p : Nat → Prop) [DecidablePred p] : ∀ i n, cf p i n ≤ n
  | _, 0 => Nat.le_refl 0
  | i, n + 1 => by have := cf_le p (i + 1) n; simp only [cf]; split <;> omega
abbrev freP (t : Sg) (q : Nat) : Prop := gI t 49 q 0 = -1
def freF (t : Sg) : Nat := cf (freP t) 0 64
theorem r_freePlaces_l (h : LR t nf) : ∀ n i a, i + n = 64 → (Rn g 131 4 [some (.inr (.inr (some (11, 0)))), some (.inl (nI a)), some (.inl (nI i))] [] t X ↔ X = (t, some (.inl (nI (a + cf (freP t) i n)))))
  | 0, i, a, hi => by
    have h1 : (64 : Int32) ≤ nI i := nI_le (a := 64) (by omega) (by omega)
    simp [Q131, II, MK, h, h1, cf]
  | n + 1, i, a, hi => by
    have h1 : ¬ (64 : Int32) ≤ nI i := nI_ge (b := 64) (by omega) (by decide)
    have ih := fun a => r_freePlaces_l h n (i + 1) a (by omega)
    simp [Q131, II, MM, MK, h, h1, inN (show i < 64 by omega), e131_31, nI_1, ih, cf]
    by_cases a1 : gI t 49 i 0 = -1
    · simp [freP, a1, nI_1, ih, Nat.add_assoc]
    · simp [freP, a1, ih]
theorem r_freePlaces (h : LR t nf) : Rn g 131 0 [some (.inr (.inr (some (11, 0)))), none, none] [] t X ↔ X = (t, some (.inl (nI (freF t)))) := by
  have := r_freePlaces_l (g := g) (X := X) h 64 0 0 rfl
  rw [Nat.zero_add] at this
  simp only [e131_0, e131_1, e131_2, e131_3, MK]
  exact this
/-- what a job may have: reserved blocks -/
def resF (t : Sg) (k : Nat) : Int32 := if gI t 22 k 0 = 0 then gI t 41 k 0 else if gI t 22 k 0 < 3 then gI t 27 k 0 else 0
def bbF (t : Sg) (j : Nat) : Nat → Nat → Int32 → Int32
  | _, 0, a => a
  | i, n + 1, a => bbF t j (i + 1) n (if i = j then a else a + resF t i)
theorem r_blocksBut_l (h : LR t nf) {j : Nat} (hj : j < 4) : ∀ n i a, i + n = 4 → (Rn g 132 4 [some (.inr (.inr (some (11, 0)))), some (.inl (nI j)), some (.inl a), some (.inl (nI i))] [] t X ↔ X = (t, some (.inl (bbF t j i n a))))
  | 0, i, a, hi => by
    have h1 : (4 : Int32) ≤ nI i := nI_le (a := 4) (by omega) (by omega)
    simp [Q132, II, MK, h, h1, bbF]
  | n + 1, i, a, hi => by
    have h1 : ¬ (4 : Int32) ≤ nI i := nI_ge (b := 4) (by omega) (by decide)
    have ih := fun a => r_blocksBut_l h hj n (i + 1) a (by omega)
    have hij : (nI i = nI j) = (i = j) := propext (nI_eq (by omega) (by omega))
    have ho := fun X => r_isOver (g := g) (X := X) h (show i < 4 by omega)
    simp [Q132, II, MM, MK, h, h1, inN (show i < 4 by omega), e132_56, nI_1, ih, bbF, hij, ho]
    by_cases a1 : i = j
    · simp [a1, ih]
    · by_cases a2 : gI t 22 i 0 = 0
      · simp [a1, a2, resF, ih]
      · by_cases a3 : gI t 22 i 0 < 3 <;> simp [a1, a2, a3, resF, ih, i32_le]
theorem r_blocksBut (h : LR t nf) {j : Nat} (hj : j < 4) : Rn g 132 0 [some (.inr (.inr (some (11, 0)))), some (.inl (nI j)), none, none] [] t X ↔ X = (t, some (.inl (bbF t j 0 4 0))) := by
  simp only [e132_0, e132_1, e132_2, e132_3, MK]
  exact r_blocksBut_l h hj 4 0 0 rfl
theorem r_put (h : LR t nf) {j : Int32} {a s : Nat} {v : Int64} (ha : a < 1048576) (hs : slotF t j (nI (a / 512)) = some s) (h64 : s < 64) : Rn g 134 0 [some (.inr (.inr (some (11, 0)))), some (.inl j), some (.inl (nI a)), some (.inr (.inl v)), none] [] t X ↔ X = (sJ t 40 (512 * s + a % 512) 0 v, none) := by
  have hr := fun X => r_slot (g := g) (X := X) h j (nI (a / 512))
  have h2 : 512 * s + a % 512 < 32768 := by omega
  simp [Q134, MM, MK, h, d512 (show a < 2 ^ 31 by omega), hr, hs, oi_s, t512, m512' (show a < 2 ^ 31 by omega), nI_add, inN h2]
/-- the word at an address of a job -/
def atF (t : Sg) (j : Int32) (a : Nat) : Int64 := match slotF t j (nI (a / 512)) with
  | none => 0
  | some s => gJ t 40 (512 * s + a % 512) 0
theorem r_at (h : LR t nf) {j : Int32} {a : Nat} (ha : a < 1048576) : Rn g 135 0 [some (.inr (.inr (some (11, 0)))), some (.inl j), some (.inl (nI a)), none] [] t X ↔ X = (t, some (.inr (.inl (atF t j a)))) := by
  have hr := fun X => r_slot (g := g) (X := X) h j (nI (a / 512))
  unfold atF
  cases hs : slotF t j (nI (a / 512)) with
  | none => simp [Q135, MM, MK, h, d512 (show a < 2 ^ 31 by omega), hr, hs, oi_n]
  | some s =>
    have h64 : s < 64 := by have := (ff_some hs).2.1; omega
    have h2 : 512 * s + a % 512 < 32768 := by omega
    have h3 : ¬ nI s = -1 := nI_nm (by omega)
    simp [Q135, MM, MK, h, d512 (show a < 2 ^ 31 by omega), hr, hs, oi_s, h3, t512, m512' (show a < 2 ^ 31 by omega), nI_add, inN h2]
end Ref1
