/-! the reference's methods that write -/
section Ref2
variable {g : Nat → Nat → Nat} {t : Sg} {X : Sg × Option Av} {nf : Nat}
abbrev empP (t : Sg) (f : Nat) : Prop := gI t 42 f 0 = 0
def empF (t : Sg) (nf : Nat) : Option Nat := ff (empP t) 0 nf
theorem r_emptyFrame_l (h : LR t nf) : ∀ n i, i + n = nf → (Rn g 143 2 [some (.inr (.inr (some (11, 0)))), some (.inl (nI i))] [] t X ↔ X = (t, some (.inl (oi (ff (empP t) i n)))))
  | 0, i, hi => by
    have h1 : nI nf ≤ nI i := nI_le (by omega) (by have := h.1; omega)
    simp [Q143, II, MK, h, h1, ff, oi]
  | n + 1, i, hi => by
    have h1 : ¬ nI nf ≤ nI i := nI_ge (by omega) (by have := h.1; omega)
    have ih := r_emptyFrame_l h n (i + 1) (by omega)
    simp [Q143, II, MM, MK, h, h1, inN (show i < 16 by have := h.1; omega), e143_24, nI_1, ih, ff, oi_if, oi_s]
    by_cases a1 : gI t 42 i 0 = 0 <;> simp [empP, a1]
theorem r_emptyFrame (h : LR t nf) : Rn g 143 0 [some (.inr (.inr (some (11, 0)))), none] [] t X ↔ X = (t, some (.inl (oi (empF t nf)))) := by
  simp only [e143_0, e143_1, MK]
  exact r_emptyFrame_l h nf 0 (by omega)
def comF (t : Sg) (f : Nat) : Sg := sI (sI (sI (sI (sI t 42 f 0 1) 45 f 0 0) 46 f 0 0) 47 f 0 0) 48 f 0 1
theorem r_comes (h : LR t nf) {f : Nat} (hf : f < 16) : Rn g 142 0 [some (.inr (.inr (some (11, 0)))), some (.inl (nI f))] [] t X ↔ X = (comF t f, none) := by
  simp [Q142, MM, MK, h, inN hf, comF]
def queF (t : Sg) (q : Nat) (f w : Int32) : Sg := sI (sI (sI t 51 q 0 f) 52 q 0 w) 11 42 0 (nI (q + 1))
theorem r_queues (h : LR t nf) {q : Nat} {f w : Int32} (hq : gI t 11 42 0 = nI q) (h32 : q < 32) : Rn g 144 0 [some (.inr (.inr (some (11, 0)))), some (.inl f), some (.inl w)] [] t X ↔ X = (queF t q f w, none) := by
  simp [Q144, MM, MK, h, inN h32, hq, queF, nI_1]
def shF : Sg → Nat → Nat → Sg
  | t, _, 0 => t
  | t, i, n + 1 => shF (sI (sI t 51 i 0 (gI t 51 (i + 1) 0)) 52 i 0 (gI t 52 (i + 1) 0)) (i + 1) n
theorem r_leaves_l {q : Nat} {w0 : Int32} (h32 : q < 32) : ∀ n i (t : Sg), LR t nf → gI t 11 42 0 = nI q → i + n = q → (Rn g 141 12 [some (.inr (.inr (some (11, 0)))), some (.inl w0), some (.inl (nI i))] [] t X ↔ X = (shF t i n, none))
  | 0, i, t, h, hq, hi => by
    have h1 : nI q ≤ nI i := nI_le (by omega) (by omega)
    simp [Q141, II, MK, h, hq, h1, shF]
  | n + 1, i, t, h, hq, hi => by
    have h1 : ¬ nI q ≤ nI i := nI_ge (by omega) (by omega)
    have h' : LR (sI (sI t 51 i 0 (gI t 51 (i + 1) 0)) 52 i 0 (gI t 52 (i + 1) 0)) nf := LR_sI (by omega) (LR_sI (by omega) h)
    have ih := r_leaves_l (w0 := w0) h32 n (i + 1) (sI (sI t 51 i 0 (gI t 51 (i + 1) 0)) 52 i 0 (gI t 52 (i + 1) 0)) h' (by simp [MM, hq]) (by omega)
    simp [Q141, II, MM, MK, h, h1, hq, inN (show i < 32 by omega), inN (show i + 1 < 32 by omega), e141_51, nI_1, ih, shF]
def leaF (t : Sg) (q k : Nat) : Sg := shF (sI t 11 42 0 (nI (q - 1))) k (q - 1 - k)
theorem r_leaves (h : LR t nf) {q k : Nat} (hq : gI t 11 42 0 = nI q) (h32 : q ≤ 32) (hk : k < q) : Rn g 141 0 [some (.inr (.inr (some (11, 0)))), some (.inl (nI k)), none] [] t X ↔ X = (leaF t q k, none) := by
  have h' : LR (sI t 11 42 0 (nI (q - 1))) nf := LR_sI (by omega) h
  have hp : nI q - 1 = nI (q - 1) := nI_sub (b := 1) (by omega)
  have := r_leaves_l (g := g) (X := X) (w0 := nI k) (show q - 1 < 32 by omega) (q - 1 - k) k _ h' (by simp [MM]) (by omega)
  simp [e141_0, e141_1, e141_2, e141_5, e141_6, e141_7, e141_10, e141_11, MM, MK, h, hq, hp]
  exact this
def rdyF (t : Sg) (j : Nat) : Sg := sI (sI t 22 j 0 1) 25 j 0 (-1)
theorem r_ready (h : LR t nf) {j : Nat} (hj : j < 4) : Rn g 146 0 [some (.inr (.inr (some (11, 0)))), some (.inl (nI j))] [] t X ↔ X = (rdyF t j, none) := by
  simp [Q146, MM, MK, h, inN hj, rdyF]
theorem r_reg (h : LR t nf) {j k : Nat} (hj : j < 4) (hk : k < 128) : Rn g 155 0 [some (.inr (.inr (some (11, 0)))), some (.inl (nI j)), some (.inl (nI k))] [] t X ↔ X = (t, some (.inl (gI t 33 (128 * j + k) 0))) := by
  simp [Q155, MM, MK, h, t128, nI_add, inN (show 128 * j + k < 512 by omega)]
def setF (t : Sg) (j k : Nat) (v : Int64) : Sg := if k = 0 then t else sI t 33 (128 * j + k) 0 (hf v)
theorem r_sets (h : LR t nf) {j k : Nat} {v : Int64} (hj : j < 4) (hk : k < 128) : Rn g 156 0 [some (.inr (.inr (some (11, 0)))), some (.inl (nI j)), some (.inl (nI k)), some (.inr (.inl v)), none] [] t X ↔ X = (setF t j k v, none) := by
  have hr := fun X => r_half (g := g) (X := X) (t := t) (x := v)
  by_cases h0 : k = 0
  · subst h0
    simp [Q156, MM, MK, h, setF, nI_0]
  · have h1 : ¬ nI k ≤ 0 := nI_nle (by omega) (by omega)
    simp [Q156, MM, MK, h, setF, h0, h1, t128, nI_add, hr, inN (show 128 * j + k < 512 by omega)]
def sgF (v : Int64) : Int32 := if 0 < v then 1 else if v < 0 then -1 else 0
theorem r_sign {v : Int64} : Rn g 160 0 [some (.inr (.inl v)), none] [] t X ↔ X = (t, some (.inl (sgF v))) := by
  simp [Q160, NC, MK, sgF]
  by_cases h1 : 0 < v <;> by_cases h2 : v < 0 <;> simp [h1, h2, i64_le]
def isF (k : Nat) (v : Int64) : Bool := if k = 0 then decide (v = 0) else if k = 1 then !decide (v = 0) else if k = 2 then !decide (v < 0) else decide (v < 0)
theorem r_is {k : Nat} (hk : k < 4) {v : Int64} : Rn g 162 0 [some (.inl (nI k)), some (.inr (.inl v)), none] [] t X ↔ X = (t, some (.inl (if isF k v = true then 1 else 0))) := by
  have k4 : k = 0 ∨ k = 1 ∨ k = 2 ∨ k = 3 := by omega
  rcases k4 with rfl | rfl | rfl | rfl
  · by_cases h1 : v = 0 <;> simp [Q162, NC, MK, isF, nI_0, h1]
  · by_cases h1 : v = 0 <;> simp [Q162, NC, MK, isF, show nI 1 = 1 from rfl, h1]
  · by_cases h1 : v < 0 <;> simp [Q162, NC, MK, isF, show nI 2 = 2 from rfl, h1, i64_le]
  · by_cases h1 : v < 0 <;> simp [Q162, NC, MK, isF, show nI 3 = 3 from rfl, h1, i64_le]
def tchF (t : Sg) (f : Nat) : Sg := sI (sI t 47 f 0 1) 48 f 0 0
theorem r_touches (h : LR t nf) {j : Int32} {a f : Nat} (ha : a < 1048576) (hs : frmF t nf j (nI (a / 512)) = some f) : Rn g 158 0 [some (.inr (.inr (some (11, 0)))), some (.inl j), some (.inl (nI a)), none] [] t X ↔ X = (tchF t f, none) := by
  have hr := fun X => r_frameOf (g := g) (X := X) h j (nI (a / 512))
  have hf : f < 16 := by have := (ff_some hs).2.1; have := h.1; omega
  simp [Q158, MM, MK, h, d512 (show a < 2 ^ 31 by omega), hr, hs, oi_s, inN hf, tchF]
end Ref2
