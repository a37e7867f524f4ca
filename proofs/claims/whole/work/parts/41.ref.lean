/-! THE REFERENCE: its layout, and its methods as functions of its memory -/
theorem ofN {n : Nat} : Int32.ofNat n = nI n := rfl
/-- the reference's layout: object 0 of class 11, an array of each kind, nf frames -/
abbrev LR (t : Sg) (nf : Nat) : Prop := (cn t 11 = 1 ∧ gI t 11 0 0 = nI nf ∧ 3 ≤ nf ∧ nf ≤ 16) ∧
  (cn t 21 = 1 ∧ cn t 22 = 1 ∧ cn t 23 = 1 ∧ cn t 24 = 1 ∧ cn t 25 = 1 ∧ cn t 26 = 1 ∧ cn t 27 = 1 ∧ cn t 28 = 1 ∧ cn t 29 = 1 ∧ cn t 30 = 1 ∧ cn t 31 = 1 ∧ cn t 32 = 1 ∧ cn t 33 = 1 ∧ cn t 34 = 1 ∧ cn t 35 = 1 ∧ cn t 36 = 1 ∧ cn t 37 = 1 ∧ cn t 38 = 1 ∧ cn t 39 = 1 ∧ cn t 40 = 1 ∧ cn t 41 = 1 ∧ cn t 42 = 1 ∧ cn t 43 = 1 ∧ cn t 44 = 1 ∧ cn t 45 = 1 ∧ cn t 46 = 1 ∧ cn t 47 = 1 ∧ cn t 48 = 1 ∧ cn t 49 = 1 ∧ cn t 50 = 1 ∧ cn t 51 = 1 ∧ cn t 52 = 1 ∧ cn t 53 = 1 ∧ cn t 54 = 1) ∧
  (gP t 11 1 0 = some 0 ∧ gP t 11 3 0 = some 0 ∧ gP t 11 4 0 = some 0 ∧ gP t 11 5 0 = some 0 ∧ gP t 11 6 0 = some 0 ∧ gP t 11 7 0 = some 0 ∧ gP t 11 8 0 = some 0 ∧ gP t 11 9 0 = some 0 ∧ gP t 11 10 0 = some 0 ∧ gP t 11 11 0 = some 0 ∧ gP t 11 12 0 = some 0 ∧ gP t 11 13 0 = some 0 ∧ gP t 11 14 0 = some 0 ∧ gP t 11 15 0 = some 0 ∧ gP t 11 16 0 = some 0 ∧ gP t 11 17 0 = some 0 ∧ gP t 11 18 0 = some 0 ∧ gP t 11 20 0 = some 0 ∧ gP t 11 21 0 = some 0 ∧ gP t 11 22 0 = some 0 ∧ gP t 11 23 0 = some 0 ∧ gP t 11 24 0 = some 0 ∧ gP t 11 25 0 = some 0 ∧ gP t 11 26 0 = some 0 ∧ gP t 11 27 0 = some 0 ∧ gP t 11 28 0 = some 0 ∧ gP t 11 29 0 = some 0 ∧ gP t 11 30 0 = some 0 ∧ gP t 11 31 0 = some 0 ∧ gP t 11 32 0 = some 0 ∧ gP t 11 40 0 = some 0 ∧ gP t 11 41 0 = some 0 ∧ gP t 11 43 0 = some 0 ∧ gP t 11 45 0 = some 0) ∧
  (ln t 21 0 = 1000 ∧ ln t 22 0 = 4 ∧ ln t 23 0 = 4 ∧ ln t 24 0 = 4 ∧ ln t 25 0 = 4 ∧ ln t 26 0 = 4 ∧ ln t 27 0 = 4 ∧ ln t 28 0 = 4 ∧ ln t 29 0 = 4 ∧ ln t 30 0 = 4 ∧ ln t 31 0 = 4 ∧ ln t 32 0 = 4 ∧ ln t 33 0 = 512 ∧ ln t 34 0 = 4 ∧ ln t 35 0 = 2000 ∧ ln t 36 0 = 800 ∧ ln t 37 0 = 4 ∧ ln t 38 0 = 64 ∧ ln t 39 0 = 64 ∧ ln t 40 0 = 32768 ∧ ln t 41 0 = 4 ∧ ln t 42 0 = 16 ∧ ln t 43 0 = 16 ∧ ln t 44 0 = 16 ∧ ln t 45 0 = 16 ∧ ln t 46 0 = 16 ∧ ln t 47 0 = 16 ∧ ln t 48 0 = 16 ∧ ln t 49 0 = 64 ∧ ln t 50 0 = 64 ∧ ln t 51 0 = 32 ∧ ln t 52 0 = 32 ∧ ln t 53 0 = 64 ∧ ln t 54 0 = 400)
theorem LR_sI {t : Sg} {nf c k i : Nat} {v : Int32} (h : ¬ (c = 11 ∧ k = 0)) (hl : LR t nf) : LR (sI t c k i v) nf := by
  have e : gI (sI t c k i v) 11 0 0 = gI t 11 0 0 := by
    rw [gI_sI, if_neg]
    rintro ⟨h1, h2, -⟩
    exact h ⟨h1.symm, h2.symm⟩
  unfold LR at *
  rw [e]
  exact hl
theorem LR_sJ {t : Sg} {nf c k i : Nat} {v : Int64} (hl : LR t nf) : LR (sJ t c k i v) nf := hl
/-- the first k from i on, among n, of which p holds -/
def ff (p : Nat → Prop) [DecidablePred p] : Nat → Nat → Option Nat
  | _, 0 => none
  | i, n + 1 => if p i then some i else ff p (i + 1) n
def oi (o : Option Nat) : Int32 := match o with
  | none => -1
  | some k => nI k
theorem oi_n : oi none = -1 := rfl
theorem oi_s {k : Nat} : oi (some k) = nI k := rfl
theorem oi_if {P : Prop} [Decidable P] {a b : Option Nat} : oi (if P then a else b) = if P then oi a else oi b := by split <;> rfl
