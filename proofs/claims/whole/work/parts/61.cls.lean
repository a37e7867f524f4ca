/-! the class: jobs, pages, places, frames -/
section Cls2
variable {g : Nat → Nat → Nat} {s : Sg} {X : Sg × Option Av} {nf : Nat}
theorem c_cutToWord {v : Int64} : Rn g 118 0 [some (.inr (.inl v)), none] [] s X ↔ X = (s, some (.inr (.inl (wh v)))) := by
  simp only [Q118]; rfl
theorem c_cutToHalf {v : Int64} : Rn g 119 0 [some (.inr (.inl v)), none] [] s X ↔ X = (s, some (.inl (hf v))) := by
  simp only [Q119]; rfl
theorem c_isAddress {a : Int32} : Rn g 117 0 [some (.inl a)] [] s X ↔ X = (s, some (.inl (if a < 0 ∨ ¬ a < 1048576 then 0 else 1))) := by
  by_cases h1 : a < 0 <;> by_cases h2 : a < 1048576 <;> simp [Q117, MM, MK, h1, h2, i32_le (x := 1048576) (y := a)]
theorem c_getB (h : LC s nf) {j : Nat} {b : Int32} (hj : j < 4) : Rn g 38 0 [some (.inr (.inr (some (3, j)))), some (.inl b)] [] s X ↔ X = (s, some (.inl (if b < 0 ∨ ¬ b < 128 then 0 else gI s 15 b.toNatClampNeg j))) := by
  by_cases h1 : b < 0
  · simp [Q38, MM, MK, h, hj, h1]
  · obtain ⟨e, he, rfl⟩ := nI_of h1
    by_cases h2 : e < 128
    · have h3 : ¬ (128 : Int32) ≤ nI e := nI_ge (b := 128) h2 (by decide)
      have h4 : nI e < (128 : Int32) := nI_lt (b := 128) h2 (by decide)
      simp [Q38, MM, MK, h, hj, h1, ofN, show nI 128 = 128 from rfl, h3, h4, inN h2]
    · have h3 : (128 : Int32) ≤ nI e := nI_le (a := 128) (by omega) he
      have h4 : ¬ nI e < (128 : Int32) := nI_nlt (b := 128) (by omega) he
      simp [Q38, MM, MK, h, hj, h1, ofN, show nI 128 = 128 from rfl, h3, h4]
def sBF (s : Sg) (j k : Nat) (v : Int64) : Sg := if k = 0 then s else sI s 15 k j (hf v)
theorem LC_if {P : Prop} [Decidable P] {u : Sg} (h1 : LC u nf) (h2 : LC s nf) : LC (if P then u else s) nf := by split <;> assumption
theorem LC_sBF {j k : Nat} {v : Int64} (h : LC s nf) : LC (sBF s j k v) nf := LC_if h (LC_sI h (by omega))
theorem c_putB (h : LC s nf) {j k : Nat} {v : Int64} (hj : j < 4) (hk : k < 128) : Rn g 39 0 [some (.inr (.inr (some (3, j)))), some (.inl (nI k)), some (.inr (.inl v)), none] [] s X ↔ X = (sBF s j k v, none) := by
  have hr := fun X => c_cutToHalf (g := g) (X := X) (s := s) (v := v)
  unfold sBF
  by_cases h0 : k = 0
  · subst h0
    simp [Q39, MM, MK, h, hj, nI_0]
  · have h1 : ¬ nI k ≤ 0 := nI_nle (by omega) (by omega)
    have h3 : ¬ (128 : Int32) ≤ nI k := nI_ge (b := 128) hk (by decide)
    simp [Q39, MM, MK, h, hj, h0, h1, ofN, show nI 128 = 128 from rfl, h3, hr, inN hk]
theorem c_isOver (h : LC s nf) {j : Nat} (hj : j < 4) : Rn g 35 0 [some (.inr (.inr (some (3, j))))] [] s X ↔ X = (s, some (.inl (if gI s 3 1 j = 3 ∨ gI s 3 1 j = 4 then 1 else 0))) := by
  by_cases h1 : gI s 3 1 j = 3 <;> by_cases h2 : gI s 3 1 j = 4 <;> simp [Q35, MM, MK, h, hj, h1, h2]
theorem c_isPrinted (h : LC s nf) {j c f : Nat} (hj : j < 4) (ho : RO s (4 + 2 * j) c f) : Rn g 36 0 [some (.inr (.inr (some (3, j))))] [] s X ↔ X = (s, some (.inl (if gI s 3 9 j < nI c then 0 else 1))) := by
  have hr := fun X => c_size (g := g) (X := X) h (show 4 + 2 * j < 11 by omega) ho
  by_cases h1 : gI s 3 9 j < nI c <;> simp [Q36, MM, MK, h, hj, show 4 + 2 * j < 11 by omega, hr, h1, i32_le (x := nI c) (y := gI s 3 9 j)]
def rsvF (s : Sg) (j : Nat) : Int32 := if gI s 3 1 j = 3 ∨ gI s 3 1 j = 4 then 0 else if gI s 3 1 j = 0 then gI s 3 5 j else gI s 3 6 j
theorem c_reserved (h : LC s nf) {j : Nat} (hj : j < 4) : Rn g 37 0 [some (.inr (.inr (some (3, j))))] [] s X ↔ X = (s, some (.inl (rsvF s j))) := by
  have hr := fun X => c_isOver (g := g) (X := X) h hj
  unfold rsvF
  by_cases h1 : gI s 3 1 j = 3 ∨ gI s 3 1 j = 4
  · simp [Q37, MM, MK, h, hj, hr, h1]
  · by_cases h2 : gI s 3 1 j = 0
    · simp [Q37, MM, MK, h, hj, hr, h1, h2]
    · simp [Q37, MM, MK, h, hj, hr, h1, h2]
theorem c_await (h : LC s nf) {j k : Nat} (hj : j < 4) : Rn g 33 0 [some (.inr (.inr (some (3, j)))), some (.inr (.inr (some (4, k))))] [] s X ↔ X = (sP (sI s 3 1 j 2) 3 11 j (some k), none) := by
  simp [Q33, MM, MK, h, hj]
theorem c_wake (h : LC s nf) {j : Nat} (hj : j < 4) : Rn g 34 0 [some (.inr (.inr (some (3, j))))] [] s X ↔ X = (sP (sI s 3 1 j 1) 3 11 j none, none) := by
  simp [Q34, MM, MK, h, hj]
theorem c_begin (h : LC s nf) {j : Nat} {a l b : Int32} (hj : j < 4) : Rn g 32 0 [some (.inr (.inr (some (3, j)))), some (.inl a), some (.inl l), some (.inl b)] [] s X ↔ X = (sI (sI (sI (sI s 3 1 j 1) 3 4 j l) 3 6 j b) 15 127 j (hf a.toInt64), none) := by
  have h' : LC (sI (sI (sI s 3 1 j 1) 3 4 j l) 3 6 j b) nf := LC_sI (LC_sI (LC_sI h (by omega)) (by omega)) (by omega)
  have hr := fun X => c_putB (g := g) (X := X) (v := a.toInt64) h' hj (show 127 < 128 by omega)
  rw [show nI 127 = 127 from rfl] at hr
  simp [Q32, MM, MK, h, hj, hr, sBF]
theorem c_isInUse (h : LC s nf) {k : Nat} (hk : k < 64) (hf : ∀ f, gP s 4 2 k = some f → f < nf) : Rn g 44 0 [some (.inr (.inr (some (4, k))))] [] s X ↔ X = (s, some (.inl (match gP s 4 2 k with | none => 0 | some f => if gI s 2 1 f = 1 then 1 else 0))) := by
  cases hp : gP s 4 2 k with
  | none => simp [Q44, MM, MK, h, hk, hp]
  | some f =>
    have := hf f hp
    by_cases h1 : gI s 2 1 f = 1 <;> simp [Q44, MM, MK, h, hk, hp, this, h1]
theorem c_wordAt (h : LC s nf) {k e : Nat} (hk : k < 64) (he : e < 512) (hw : gP s 4 4 k = some k) (hc : k < cn s 16) : Rn g 45 0 [some (.inr (.inr (some (4, k)))), some (.inl (nI e))] [] s X ↔ X = (s, some (.inr (.inl (gJ s 16 e k)))) := by
  have h1 : ¬ nI e < 0 := nI_pos (by omega)
  have h2 : ¬ (512 : Int32) ≤ nI e := nI_ge (b := 512) he (by decide)
  have h3 : nI e < (512 : Int32) := nI_lt (b := 512) he (by decide)
  simp [Q45, MM, MK, h, hk, hw, hc, h1, ofN, show nI 512 = 512 from rfl, h2, h3, inN he]
theorem c_putWord (h : LC s nf) {k e : Nat} {v : Int64} (hk : k < 64) (he : e < 512) (hw : gP s 4 4 k = some k) (hc : k < cn s 16) : Rn g 46 0 [some (.inr (.inr (some (4, k)))), some (.inl (nI e)), some (.inr (.inl v)), none] [] s X ↔ X = (sJ s 16 e k v, none) := by
  have h1 : ¬ nI e < 0 := nI_pos (by omega)
  have h2 : ¬ (512 : Int32) ≤ nI e := nI_ge (b := 512) he (by decide)
  have h3 : nI e < (512 : Int32) := nI_lt (b := 512) he (by decide)
  simp [Q46, MM, MK, h, hk, hw, hc, h1, ofN, show nI 512 = 512 from rfl, h2, h3, inN he]
def takF (s : Sg) (p k : Nat) : Sg := sP (sI (sI (sI s 6 1 p 1) 6 2 p (gI s 4 0 k)) 6 3 p (gI s 4 1 k)) 4 3 k (some p)
theorem c_placeTake (h : LC s nf) {p k : Nat} (hp : p < 64) (hk : k < 64) : Rn g 52 0 [some (.inr (.inr (some (6, p)))), some (.inr (.inr (some (4, k))))] [] s X ↔ X = (takF s p k, none) := by
  simp [Q52, MM, MK, h, hp, hk, takF]
def ftkF (s : Sg) (f k : Nat) (st : Int32) : Sg := sI (sI (sI (sI (sP (sP (sI (sI (sI s 2 1 f st) 2 2 f (gI s 4 0 k)) 2 3 f (gI s 4 1 k)) 2 4 f (some k)) 4 2 k (some f)) 2 5 f 0) 2 6 f 0) 2 7 f 0) 2 8 f (if st = 1 then 1 else 0)
theorem c_frameTake (h : LC s nf) {f k : Nat} {st : Int32} (hf : f < nf) (hk : k < 64) : Rn g 23 0 [some (.inr (.inr (some (2, f)))), some (.inr (.inr (some (4, k)))), some (.inl st)] [] s X ↔ X = (ftkF s f k st, none) := by
  by_cases h1 : st = 1 <;> simp [Q23, MM, MK, h, hf, hk, ftkF, h1]
theorem c_empty (h : LC s nf) {f : Nat} (hf : f < nf) : Rn g 24 0 [some (.inr (.inr (some (2, f))))] [] s X ↔ X = (sP (sI s 2 1 f 0) 2 4 f none, none) := by
  simp [Q24, MM, MK, h, hf]
theorem c_touch (h : LC s nf) {f : Nat} (hf : f < nf) : Rn g 25 0 [some (.inr (.inr (some (2, f))))] [] s X ↔ X = (sI (sI s 2 7 f 1) 2 8 f 0, none) := by
  simp [Q25, MM, MK, h, hf]
def flkF (s : Sg) (f : Nat) : Sg := if gI s 2 7 f = 0 then sI s 2 5 f (gI s 2 5 f + 1) else sI (sI (if 0 < gI s 2 5 f then sI s 2 6 f (gI s 2 5 f) else s) 2 5 f 0) 2 7 f 0
theorem c_frameLook (h : LC s nf) {f : Nat} (hf : f < nf) : Rn g 26 0 [some (.inr (.inr (some (2, f))))] [] s X ↔ X = (flkF s f, none) := by
  unfold flkF
  by_cases h1 : gI s 2 7 f = 0
  · simp [Q26, MM, MK, h, hf, h1]
  · by_cases h2 : 0 < gI s 2 5 f <;> simp [Q26, MM, MK, h, hf, h1, h2, i32_le (x := gI s 2 5 f) (y := 0)]
def prtF (s : Sg) (f : Nat) : Int32 := if gI s 2 6 f + 1 < gI s 2 5 f then 2 else if 0 < gI s 2 6 f then 1 else 0
theorem c_part (h : LC s nf) {f : Nat} (hf : f < nf) : Rn g 28 0 [some (.inr (.inr (some (2, f))))] [] s X ↔ X = (s, some (.inl (prtF s f))) := by
  unfold prtF
  by_cases h1 : gI s 2 6 f + 1 < gI s 2 5 f <;> by_cases h2 : 0 < gI s 2 6 f <;> simp [Q28, MM, MK, h, hf, h1, h2, i32_le (x := gI s 2 5 f) (y := gI s 2 6 f + 1), i32_le (x := gI s 2 6 f) (y := 0)]
def gbF (s : Sg) (f e : Nat) : Int32 := if prtF s f = prtF s e then (if prtF s f = 1 then (if gI s 2 6 e - gI s 2 5 e < gI s 2 6 f - gI s 2 5 f then 1 else 0) else (if gI s 2 5 e < gI s 2 5 f then 1 else 0)) else (if prtF s e < prtF s f then 1 else 0)
theorem c_goesBefore (h : LC s nf) {f e : Nat} (hf : f < nf) (he : e < nf) : Rn g 29 0 [some (.inr (.inr (some (2, f)))), some (.inr (.inr (some (2, e))))] [] s X ↔ X = (s, some (.inl (gbF s f e))) := by
  have h1 := fun X => c_part (g := g) (X := X) h hf
  have h2 := fun X => c_part (g := g) (X := X) h he
  unfold gbF
  by_cases a1 : prtF s f = prtF s e
  · rw [if_pos a1]
    by_cases a2 : prtF s f = 1
    · have a2' : prtF s e = 1 := a1 ▸ a2
      by_cases a3 : gI s 2 6 e - gI s 2 5 e < gI s 2 6 f - gI s 2 5 f <;> simp [Q29, MM, MK, h, hf, he, h1, h2, a2, a2', a3, i32_le (x := gI s 2 6 f - gI s 2 5 f)]
    · have a2' : ¬ prtF s e = 1 := a1 ▸ a2
      by_cases a3 : gI s 2 5 e < gI s 2 5 f <;> simp [Q29, MM, MK, h, hf, he, h1, h2, a1, a2', a3, i32_le (x := gI s 2 5 f)]
  · by_cases a3 : prtF s e < prtF s f <;> simp [Q29, MM, MK, h, hf, he, h1, h2, a1, a3, i32_le (x := prtF s f)]
end Cls2
