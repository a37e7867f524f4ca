/-! the reference: which functions there are -/
theorem i64_le_i {x y : Int64} : x ≤ y ↔ x.toInt ≤ y.toInt := Int64.le_iff_toInt_le
theorem t64 {x : Int32} : x.toInt64.toInt = x.toInt := Int32.toInt_toInt64 x
theorem i32_eq {x y : Int32} : x = y ↔ x.toInt = y.toInt := Int32.toInt_inj.symm
theorem rg2 {f : Int32} {a b : Int64} {c d : Int32} (ha : a.toInt = c.toInt) (hb : b.toInt = d.toInt) (h : d.toInt = c.toInt + 1) : (a ≤ f.toInt64 ∧ f.toInt64 ≤ b) = (f = c ∨ f = d) := by
  apply propext; rw [i64_le_i, i64_le_i, t64, i32_eq, i32_eq]; omega
theorem rg3 {f : Int32} {a b : Int64} {c d e : Int32} (ha : a.toInt = c.toInt) (hb : b.toInt = e.toInt) (h : d.toInt = c.toInt + 1) (h2 : e.toInt = c.toInt + 2) : (a ≤ f.toInt64 ∧ f.toInt64 ≤ b) = (f = c ∨ f = d ∨ f = e) := by
  apply propext; rw [i64_le_i, i64_le_i, t64, i32_eq, i32_eq, i32_eq]; omega
theorem rg4 {f : Int32} {a b : Int64} {c d e u : Int32} (ha : a.toInt = c.toInt) (hb : b.toInt = u.toInt) (h : d.toInt = c.toInt + 1) (h2 : e.toInt = c.toInt + 2) (h3 : u.toInt = c.toInt + 3) : (a ≤ f.toInt64 ∧ f.toInt64 ≤ b) = (f = c ∨ f = d ∨ f = e ∨ f = u) := by
  apply propext; rw [i64_le_i, i64_le_i, t64, i32_eq, i32_eq, i32_eq, i32_eq]; omega
theorem rg65 {f : Int32} : ((65 : Int64) ≤ f.toInt64 ∧ f.toInt64 ≤ 66) = (f = 65 ∨ f = 66) := rg2 (by decide) (by decide) (by decide)
theorem rg208 {f : Int32} : ((208 : Int64) ≤ f.toInt64 ∧ f.toInt64 ≤ 210) = (f = 208 ∨ f = 209 ∨ f = 210) := rg3 (by decide) (by decide) (by decide) (by decide)
theorem rg80 {f : Int32} : ((80 : Int64) ≤ f.toInt64 ∧ f.toInt64 ≤ 82) = (f = 80 ∨ f = 81 ∨ f = 82) := rg3 (by decide) (by decide) (by decide) (by decide)
theorem rg140 {f : Int32} : ((140 : Int64) ≤ f.toInt64 ∧ f.toInt64 ≤ 143) = (f = 140 ∨ f = 141 ∨ f = 142 ∨ f = 143) := rg4 (by decide) (by decide) (by decide) (by decide) (by decide)
theorem rg148 {f : Int32} : ((148 : Int64) ≤ f.toInt64 ∧ f.toInt64 ≤ 151) = (f = 148 ∨ f = 149 ∨ f = 150 ∨ f = 151) := rg4 (by decide) (by decide) (by decide) (by decide) (by decide)
theorem rg156 {f : Int32} : ((156 : Int64) ≤ f.toInt64 ∧ f.toInt64 ≤ 159) = (f = 156 ∨ f = 157 ∨ f = 158 ∨ f = 159) := rg4 (by decide) (by decide) (by decide) (by decide) (by decide)
/-- the functions with s -/
abbrev stP (f : Int32) : Prop := (f = 65 ∨ f = 66) ∨ f = 68 ∨ f = 70 ∨ f = 71 ∨ f = 75 ∨ f = 76 ∨ f = 106 ∨ (f = 208 ∨ f = 209 ∨ f = 210) ∨ f = 212 ∨ f = 213 ∨ f = 230 ∨ f = 238 ∨ f = 242 ∨ f = 252
def stB (f : Int32) : Int32 := if stP f then 1 else 0
abbrev knP (f : Int32) : Prop := stB f = 1 ∨ (f = 80 ∨ f = 81 ∨ f = 82) ∨ f = 84 ∨ f = 86 ∨ f = 87 ∨ f = 122 ∨ f = 128 ∨ f = 131 ∨ (f = 140 ∨ f = 141 ∨ f = 142 ∨ f = 143) ∨ (f = 148 ∨ f = 149 ∨ f = 150 ∨ f = 151) ∨ (f = 156 ∨ f = 157 ∨ f = 158 ∨ f = 159) ∨ f = 244 ∨ f = 245 ∨ f = 552 ∨ f = 566 ∨ f = 580 ∨ f = 591 ∨ f = 593 ∨ f = 704
section Ref7
variable {g : Nat → Nat → Nat} {t : Sg} {X : Sg × Option Av} {nf : Nat}
theorem ite01 {P : Prop} [Decidable P] : ((if P then (1 : Int32) else 0) = 0) = ¬ P := by
  by_cases h : P <;> simp [h]
theorem ite_or {P Q R : Prop} {A B : Prop} [Decidable P] [Decidable R] [Decidable (P ∨ R)] (h : (if R then A else B) = Q) : (if P then A else Q) = if P ∨ R then A else B := by
  subst h
  by_cases h1 : P <;> by_cases h2 : R <;> simp [h1, h2]
theorem r_isStored {f : Int32} : Rn g 153 0 [some (.inl f)] [] t X ↔ X = (t, some (.inl (stB f))) := by
  have hr := fun a b d X => r_in (g := g) (t := t) (X := X) (a := a) (b := b) (d := d)
  unfold stB
  by_cases a1 : f = 65 ∨ f = 66
  · have : stP f := Or.inl a1
    rw [if_pos this]
    simp [Q153, MM, MK, hr, rg65, ite01, a1]
  by_cases a2 : f = 208 ∨ f = 209 ∨ f = 210
  · have : stP f := by simp [stP, a2]
    rw [if_pos this]
    rcases a2 with rfl | rfl | rfl <;> simp [Q153, MM, MK, hr, rg65, rg208, ite01]
  · simp [Q153, MM, MK, hr, rg65, rg208, ite01, a1, a2, stP]
    by_cases b1 : f = 68
    · simp [b1]
    by_cases b2 : f = 70
    · simp [b2]
    by_cases b3 : f = 71
    · simp [b3]
    by_cases b4 : f = 75
    · simp [b4]
    by_cases b5 : f = 76
    · simp [b5]
    by_cases b6 : f = 106
    · simp [b6]
    by_cases b7 : f = 212
    · simp [b7]
    by_cases b8 : f = 213
    · simp [b8]
    by_cases b9 : f = 230
    · simp [b9]
    by_cases b10 : f = 238
    · simp [b10]
    by_cases b11 : f = 242
    · simp [b11]
    by_cases b12 : f = 252
    · simp [b12]
    · simp [b1, b2, b3, b4, b5, b6, b7, b8, b9, b10, b11, b12]
def knB (f : Int32) : Int32 := if knP f then 1 else 0
theorem r_isKnown {f : Int32} : Rn g 154 0 [some (.inl f)] [] t X ↔ X = (t, some (.inl (knB f))) := by
  have hr := fun a b d X => r_in (g := g) (t := t) (X := X) (a := a) (b := b) (d := d)
  have hs := fun X => r_isStored (g := g) (t := t) (X := X) (f := f)
  have hz : (stB f = 0) = ¬ stB f = 1 := by unfold stB; by_cases h : stP f <;> simp [h]
  unfold knB
  by_cases a1 : stB f = 1
  · have : knP f := Or.inl a1
    rw [if_pos this]
    simp [Q154, MM, MK, hs, a1]
  by_cases a2 : f = 80 ∨ f = 81 ∨ f = 82
  · have : knP f := by simp [knP, a2]
    rw [if_pos this]
    rcases a2 with rfl | rfl | rfl <;> simp [Q154, MM, MK, hr, hs, hz, a1, rg80, rg140, rg148, rg156, ite01]
  by_cases a3 : f = 140 ∨ f = 141 ∨ f = 142 ∨ f = 143
  · have : knP f := by simp [knP, a3]
    rw [if_pos this]
    rcases a3 with rfl | rfl | rfl | rfl <;> simp [Q154, MM, MK, hr, hs, hz, a1, rg80, rg140, rg148, rg156, ite01]
  by_cases a4 : f = 148 ∨ f = 149 ∨ f = 150 ∨ f = 151
  · have : knP f := by simp [knP, a4]
    rw [if_pos this]
    rcases a4 with rfl | rfl | rfl | rfl <;> simp [Q154, MM, MK, hr, hs, hz, a1, rg80, rg140, rg148, rg156, ite01]
  by_cases a5 : f = 156 ∨ f = 157 ∨ f = 158 ∨ f = 159
  · have : knP f := by simp [knP, a5]
    rw [if_pos this]
    rcases a5 with rfl | rfl | rfl | rfl <;> simp [Q154, MM, MK, hr, hs, hz, a1, rg80, rg140, rg148, rg156, ite01]
  simp [Q154, MM, MK, hr, hs, hz, a1, rg80, rg140, rg148, rg156, ite01, a2, a3, a4, a5, knP]
  by_cases b0 : f = 84
  · simp [b0]
  by_cases b1 : f = 86
  · simp [b1]
  by_cases b2 : f = 87
  · simp [b2]
  by_cases b3 : f = 122
  · simp [b3]
  by_cases b4 : f = 128
  · simp [b4]
  by_cases b5 : f = 131
  · simp [b5]
  by_cases b6 : f = 244
  · simp [b6]
  by_cases b7 : f = 245
  · simp [b7]
  by_cases b8 : f = 552
  · simp [b8]
  by_cases b9 : f = 566
  · simp [b9]
  by_cases b10 : f = 580
  · simp [b10]
  by_cases b11 : f = 591
  · simp [b11]
  by_cases b12 : f = 593
  · simp [b12]
  by_cases b13 : f = 704
  · simp [b13]
  simp [b0, b1, b2, b3, b4, b5, b6, b7, b8, b9, b10, b11, b12, b13]
/-- what is wrong with an instruction before it is done -/
def wroF (t : Sg) (j : Nat) (f : Int32) (v : Int64) : Int32 := if f = 252 ∧ v = 0 then 5 else if f = 552 ∧ gI t 30 j 0 = 0 then 4 else if f = 566 ∧ gI t 31 j 0 = 200 then 6 else if f = 704 ∧ gJ t 34 j 0 < 0 then 5 else 0
theorem r_wrong (h : LR t nf) {j a : Nat} {f s v : Int32} {w : Int64} (hj : j < 4) (hs : f = 252 → s = nI a ∧ a < 1048576 ∧ w = atF t (nI j) a) : Rn g 159 0 [some (.inr (.inr (some (11, 0)))), some (.inl (nI j)), some (.inl f), some (.inl s)] [] t X ↔ X = (t, some (.inl (wroF t j f w))) := by
  unfold wroF
  by_cases a1 : f = 252
  · obtain ⟨e1, e2, e3⟩ := hs a1
    have hr := fun X => r_at (g := g) (X := X) h (j := nI j) e2
    rw [← e3] at hr
    subst a1
    by_cases b1 : w = 0 <;> simp [Q159, MM, MK, h, e1, hr, NC, b1]
  · by_cases a2 : f = 552
    · subst a2
      by_cases b1 : gI t 30 j 0 = 0 <;> simp [Q159, MM, MK, h, inN hj, b1]
    · by_cases a3 : f = 566
      · subst a3
        by_cases b1 : gI t 31 j 0 = 200 <;> simp [Q159, MM, MK, h, inN hj, b1]
      · by_cases a4 : f = 704
        · subst a4
          by_cases b1 : gJ t 34 j 0 < 0 <;> simp [Q159, MM, MK, h, inN hj, NC, b1, i64_le]
        · simp [Q159, MM, MK, h, a1, a2, a3, a4]
end Ref7
