/-! the reference: what an instruction does -/
section Ref8
variable {g : Nat → Nat → Nat} {t : Sg} {X : Sg × Option Av} {nf : Nat}
/-- a word is put -/
def putF (t : Sg) (j : Int32) (q : Nat) (v : Int64) : Sg := match slotF t j (nI (q / 512)) with
  | none => t
  | some s => sJ t 40 (512 * s + q % 512) 0 v
theorem r_put2 (h : LR t nf) {j : Int32} {q : Nat} {v : Int64} (hq : q < 1048576) (hs : ∃ s, slotF t j (nI (q / 512)) = some s) : Rn g 134 0 [some (.inr (.inr (some (11, 0)))), some (.inl j), some (.inl (nI q)), some (.inr (.inl v)), none] [] t X ↔ X = (putF t j q v, none) := by
  obtain ⟨s, hs⟩ := hs
  rw [r_put h hq hs (by have := (ff_some hs).2.1; omega)]
  unfold putF
  rw [hs]
def regF (t : Sg) (j : Nat) (f : Int32) (a : Nat) (s : Int64) (q : Nat) : Sg :=
  let r := (gI t 33 (128 * j + a) 0).toInt64
  if f = 65 then setF t j a s else if f = 66 then setF t j a (r - s) else if f = 68 then setF t j a (r + s) else if f = 70 then setF t j a (r ^^^ s) else if f = 71 then setF t j a (r &&& s)
  else if f = 75 then putF t (nI j) q r else if f = 76 then putF t (nI j) q (wh (s + r)) else if f = 80 then setF t j a (s - r) else if f = 81 then setF t j a s else if f = 82 then setF t j a (r - s)
  else if f = 84 then setF t j a (r + s) else if f = 86 then setF t j a (r ^^^ s) else if f = 87 then setF t j a (r &&& s) else sI t 28 j 0 (sgF (r - s))
abbrev rgP (f : Int32) : Prop := f = 65 ∨ f = 66 ∨ f = 68 ∨ f = 70 ∨ f = 71 ∨ f = 75 ∨ f = 76 ∨ f = 106 ∨ f = 80 ∨ f = 81 ∨ f = 82 ∨ f = 84 ∨ f = 86 ∨ f = 87 ∨ f = 122
theorem r_registers (h : LR t nf) {j a q : Nat} {f p0 : Int32} {s : Int64} (hj : j < 4) (ha : a < 128) (hf : rgP f) (h1 : stB f = 1 → p0 = nI q ∧ q < 1048576 ∧ (∃ s, slotF t (nI j) (nI (q / 512)) = some s) ∧ s = atF t (nI j) q) (h0 : stB f = 0 → s = p0.toInt64) : Rn g 161 0 [some (.inr (.inr (some (11, 0)))), some (.inl (nI j)), some (.inl f), some (.inl (nI a)), some (.inl p0), none, none, none, none, none] [] t X ↔ X = (regF t j f a s q, none) := by
  have hr := fun X => r_reg (g := g) (X := X) h hj ha
  have hs := fun X => r_isStored (g := g) (t := t) (X := X) (f := f)
  have hse := fun v X => r_sets (g := g) (X := X) (v := v) h hj ha
  have hsg := fun v X => r_sign (g := g) (t := t) (X := X) (v := v)
  have hw := fun v X => r_whole (g := g) (t := t) (X := X) (x := v)
  rcases hf with rfl | rfl | rfl | rfl | rfl | rfl | rfl | rfl | rfl | rfl | rfl | rfl | rfl | rfl | rfl
  · have e0 : stB 65 = 1 := by decide
    obtain ⟨rfl, hq, hsl, rfl⟩ := h1 e0
    have hat := fun X => r_at (g := g) (X := X) h (j := nI j) hq
    have hpu := fun v X => r_put2 (g := g) (X := X) (v := v) h hq hsl
    simp [Q161, MM, MK, h, inN hj, hr, hs, e0, hat, hpu, hse, hsg, hw, regF]
  · have e0 : stB 66 = 1 := by decide
    obtain ⟨rfl, hq, hsl, rfl⟩ := h1 e0
    have hat := fun X => r_at (g := g) (X := X) h (j := nI j) hq
    have hpu := fun v X => r_put2 (g := g) (X := X) (v := v) h hq hsl
    simp [Q161, MM, MK, h, inN hj, hr, hs, e0, hat, hpu, hse, hsg, hw, regF]
  · have e0 : stB 68 = 1 := by decide
    obtain ⟨rfl, hq, hsl, rfl⟩ := h1 e0
    have hat := fun X => r_at (g := g) (X := X) h (j := nI j) hq
    have hpu := fun v X => r_put2 (g := g) (X := X) (v := v) h hq hsl
    simp [Q161, MM, MK, h, inN hj, hr, hs, e0, hat, hpu, hse, hsg, hw, regF]
  · have e0 : stB 70 = 1 := by decide
    obtain ⟨rfl, hq, hsl, rfl⟩ := h1 e0
    have hat := fun X => r_at (g := g) (X := X) h (j := nI j) hq
    have hpu := fun v X => r_put2 (g := g) (X := X) (v := v) h hq hsl
    simp [Q161, MM, MK, h, inN hj, hr, hs, e0, hat, hpu, hse, hsg, hw, regF]
  · have e0 : stB 71 = 1 := by decide
    obtain ⟨rfl, hq, hsl, rfl⟩ := h1 e0
    have hat := fun X => r_at (g := g) (X := X) h (j := nI j) hq
    have hpu := fun v X => r_put2 (g := g) (X := X) (v := v) h hq hsl
    simp [Q161, MM, MK, h, inN hj, hr, hs, e0, hat, hpu, hse, hsg, hw, regF]
  · have e0 : stB 75 = 1 := by decide
    obtain ⟨rfl, hq, hsl, rfl⟩ := h1 e0
    have hat := fun X => r_at (g := g) (X := X) h (j := nI j) hq
    have hpu := fun v X => r_put2 (g := g) (X := X) (v := v) h hq hsl
    simp [Q161, MM, MK, h, inN hj, hr, hs, e0, hat, hpu, hse, hsg, hw, regF]
  · have e0 : stB 76 = 1 := by decide
    obtain ⟨rfl, hq, hsl, rfl⟩ := h1 e0
    have hat := fun X => r_at (g := g) (X := X) h (j := nI j) hq
    have hpu := fun v X => r_put2 (g := g) (X := X) (v := v) h hq hsl
    simp [Q161, MM, MK, h, inN hj, hr, hs, e0, hat, hpu, hse, hsg, hw, regF]
  · have e0 : stB 106 = 1 := by decide
    obtain ⟨rfl, hq, hsl, rfl⟩ := h1 e0
    have hat := fun X => r_at (g := g) (X := X) h (j := nI j) hq
    have hpu := fun v X => r_put2 (g := g) (X := X) (v := v) h hq hsl
    simp [Q161, MM, MK, h, inN hj, hr, hs, e0, hat, hpu, hse, hsg, hw, regF]
  · have e0 : stB 80 = 0 := by decide
    obtain rfl := h0 e0
    simp [Q161, MM, MK, h, inN hj, hr, hs, e0, hse, hsg, hw, regF]
  · have e0 : stB 81 = 0 := by decide
    obtain rfl := h0 e0
    simp [Q161, MM, MK, h, inN hj, hr, hs, e0, hse, hsg, hw, regF]
  · have e0 : stB 82 = 0 := by decide
    obtain rfl := h0 e0
    simp [Q161, MM, MK, h, inN hj, hr, hs, e0, hse, hsg, hw, regF]
  · have e0 : stB 84 = 0 := by decide
    obtain rfl := h0 e0
    simp [Q161, MM, MK, h, inN hj, hr, hs, e0, hse, hsg, hw, regF]
  · have e0 : stB 86 = 0 := by decide
    obtain rfl := h0 e0
    simp [Q161, MM, MK, h, inN hj, hr, hs, e0, hse, hsg, hw, regF]
  · have e0 : stB 87 = 0 := by decide
    obtain rfl := h0 e0
    simp [Q161, MM, MK, h, inN hj, hr, hs, e0, hse, hsg, hw, regF]
  · have e0 : stB 122 = 0 := by decide
    obtain rfl := h0 e0
    simp [Q161, MM, MK, h, inN hj, hr, hs, e0, hse, hsg, hw, regF]
def sumF (t : Sg) (j : Nat) (f : Int32) (s : Int64) (q : Nat) : Sg :=
  let v := gJ t 34 j 0
  if f = 208 then sJ t 34 j 0 (wh (v + s)) else if f = 209 then sJ t 34 j 0 (wh (v - s)) else if f = 210 then sJ t 34 j 0 (wh (s - v)) else if f = 212 then sJ t 34 j 0 (wh s) else if f = 213 then sJ t 34 j 0 (wh (-s))
  else if f = 230 then sJ (putF t (nI j) q v) 34 j 0 (wh 0) else if f = 238 then sJ (putF t (nI j) q v) 34 j 0 (wh v) else if f = 242 then sJ t 34 j 0 (wh (v * s)) else if f = 252 then sJ t 34 j 0 (wh (v / s))
  else if f = 244 then sJ t 34 j 0 (wh (v * 8)) else sJ t 34 j 0 (wh (v >>> ((3 : Int32).toInt64 &&& 63)))
abbrev smP (f : Int32) : Prop := f = 208 ∨ f = 209 ∨ f = 210 ∨ f = 212 ∨ f = 213 ∨ f = 230 ∨ f = 238 ∨ f = 242 ∨ f = 252 ∨ f = 244 ∨ f = 245
theorem LR_putF {j : Int32} {q : Nat} {v : Int64} (h : LR t nf) : LR (putF t j q v) nf := by
  unfold putF
  split
  · exact h
  · exact LR_sJ h
theorem r_sums (h : LR t nf) {j q : Nat} {f p0 : Int32} {s : Int64} (hj : j < 4) (hf : smP f) (h1 : stB f = 1 → p0 = nI q ∧ q < 1048576 ∧ (∃ s, slotF t (nI j) (nI (q / 512)) = some s) ∧ s = atF t (nI j) q) (hz : f = 252 → ¬ s = 0) : Rn g 164 0 [some (.inr (.inr (some (11, 0)))), some (.inl (nI j)), some (.inl f), some (.inl p0), none, none, none, none] [] t X ↔ X = (sumF t j f s q, none) := by
  have hs := fun X => r_isStored (g := g) (t := t) (X := X) (f := f)
  have hw := fun t v X => r_whole (g := g) (t := t) (X := X) (x := v)
  rcases hf with rfl | rfl | rfl | rfl | rfl | rfl | rfl | rfl | rfl | rfl | rfl
  · have e0 : stB 208 = 1 := by decide
    obtain ⟨rfl, hq, hsl, rfl⟩ := h1 e0
    have hat := fun X => r_at (g := g) (X := X) h (j := nI j) hq
    have hpu := fun v X => r_put2 (g := g) (X := X) (v := v) h hq hsl
    have h' := fun v => LR_putF (j := nI j) (q := q) (v := v) h
    simp [Q164, MM, MK, h, h', inN hj, hs, e0, hat, hpu, hw, sumF]
  · have e0 : stB 209 = 1 := by decide
    obtain ⟨rfl, hq, hsl, rfl⟩ := h1 e0
    have hat := fun X => r_at (g := g) (X := X) h (j := nI j) hq
    have hpu := fun v X => r_put2 (g := g) (X := X) (v := v) h hq hsl
    have h' := fun v => LR_putF (j := nI j) (q := q) (v := v) h
    simp [Q164, MM, MK, h, h', inN hj, hs, e0, hat, hpu, hw, sumF]
  · have e0 : stB 210 = 1 := by decide
    obtain ⟨rfl, hq, hsl, rfl⟩ := h1 e0
    have hat := fun X => r_at (g := g) (X := X) h (j := nI j) hq
    have hpu := fun v X => r_put2 (g := g) (X := X) (v := v) h hq hsl
    have h' := fun v => LR_putF (j := nI j) (q := q) (v := v) h
    simp [Q164, MM, MK, h, h', inN hj, hs, e0, hat, hpu, hw, sumF]
  · have e0 : stB 212 = 1 := by decide
    obtain ⟨rfl, hq, hsl, rfl⟩ := h1 e0
    have hat := fun X => r_at (g := g) (X := X) h (j := nI j) hq
    have hpu := fun v X => r_put2 (g := g) (X := X) (v := v) h hq hsl
    have h' := fun v => LR_putF (j := nI j) (q := q) (v := v) h
    simp [Q164, MM, MK, h, h', inN hj, hs, e0, hat, hpu, hw, sumF]
  · have e0 : stB 213 = 1 := by decide
    obtain ⟨rfl, hq, hsl, rfl⟩ := h1 e0
    have hat := fun X => r_at (g := g) (X := X) h (j := nI j) hq
    have hpu := fun v X => r_put2 (g := g) (X := X) (v := v) h hq hsl
    have h' := fun v => LR_putF (j := nI j) (q := q) (v := v) h
    simp [Q164, MM, MK, h, h', inN hj, hs, e0, hat, hpu, hw, sumF]
  · have e0 : stB 230 = 1 := by decide
    obtain ⟨rfl, hq, hsl, rfl⟩ := h1 e0
    have hat := fun X => r_at (g := g) (X := X) h (j := nI j) hq
    have hpu := fun v X => r_put2 (g := g) (X := X) (v := v) h hq hsl
    have h' := fun v => LR_putF (j := nI j) (q := q) (v := v) h
    simp [Q164, MM, MK, h, h', inN hj, hs, e0, hat, hpu, hw, sumF]
  · have e0 : stB 238 = 1 := by decide
    obtain ⟨rfl, hq, hsl, rfl⟩ := h1 e0
    have hat := fun X => r_at (g := g) (X := X) h (j := nI j) hq
    have hpu := fun v X => r_put2 (g := g) (X := X) (v := v) h hq hsl
    have h' := fun v => LR_putF (j := nI j) (q := q) (v := v) h
    simp [Q164, MM, MK, h, h', inN hj, hs, e0, hat, hpu, hw, sumF]
  · have e0 : stB 242 = 1 := by decide
    obtain ⟨rfl, hq, hsl, rfl⟩ := h1 e0
    have hat := fun X => r_at (g := g) (X := X) h (j := nI j) hq
    have hpu := fun v X => r_put2 (g := g) (X := X) (v := v) h hq hsl
    have h' := fun v => LR_putF (j := nI j) (q := q) (v := v) h
    simp [Q164, MM, MK, h, h', inN hj, hs, e0, hat, hpu, hw, sumF]
  · have e0 : stB 252 = 1 := by decide
    obtain ⟨rfl, hq, hsl, rfl⟩ := h1 e0
    have hat := fun X => r_at (g := g) (X := X) h (j := nI j) hq
    have hpu := fun v X => r_put2 (g := g) (X := X) (v := v) h hq hsl
    have h' := fun v => LR_putF (j := nI j) (q := q) (v := v) h
    have hz := hz rfl
    simp [Q164, MM, MK, h, h', inN hj, hs, e0, hat, hpu, hw, sumF, hz]
  · have e0 : stB 244 = 0 := by decide
    simp [Q164, MM, MK, h, inN hj, hs, e0, hw, sumF]
  · have e0 : stB 245 = 0 := by decide
    simp [Q164, MM, MK, h, inN hj, hs, e0, hw, sumF]
end Ref8
