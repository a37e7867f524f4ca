/-! the class: orders of the processor -/
section Cls9
variable {g : Nat → Nat → Nat} {s : Sg} {X : Sg × Option Av} {nf : Nat}
/-- the processor has decoded: job j, function F, registers a and m, number N -/
abbrev PR (s : Sg) (j : Nat) (F : Int32) (a m : Nat) (N : Int32) : Prop := gP s 8 2 0 = some j ∧ gI s 8 4 0 = F ∧ gI s 8 5 0 = nI a ∧ gI s 8 6 0 = nI m ∧ gI s 8 7 0 = N
theorem c_getBn (h : LC s nf) {j k : Nat} (hj : j < 4) (hk : k < 128) : Rn g 38 0 [some (.inr (.inr (some (3, j)))), some (.inl (nI k))] [] s X ↔ X = (s, some (.inl (gI s 15 k j))) := by
  rw [c_getB h hj]
  have h1 : ¬ nI k < 0 := nI_pos (by omega)
  have h4 : nI k < (128 : Int32) := nI_lt (b := 128) hk (by decide)
  rw [if_neg (fun q => q.elim h1 (fun q => q h4)), nI_clamp (by omega)]
def efF (s : Sg) (j : Nat) (F : Int32) (a m : Nat) (N : Int32) : Int32 := hf (if F < 192 ∨ 255 < F then N.toInt64 + (gI s 15 m j).toInt64 else N.toInt64 + (gI s 15 m j).toInt64 + (gI s 15 a j).toInt64)
theorem c_effective (h : LC s nf) {j a m : Nat} {F N : Int32} (hp : PR s j F a m N) (hj : j < 4) (ha : a < 128) (hm : m < 128) : Rn g 63 0 [some (.inr (.inr (some (8, 0)))), none, none] [] s X ↔ X = (s, some (.inl (efF s j F a m N))) := by
  have r1 := fun X => c_getBn (g := g) (X := X) h hj hm
  have r2 := fun X => c_getBn (g := g) (X := X) h hj ha
  have r3 := fun v X => c_cutToHalf (g := g) (s := s) (X := X) (v := v)
  unfold efF
  by_cases c1 : F < 192 <;> by_cases c2 : 255 < F <;> simp [Q63, MM, MK, h, hp, hj, r1, r2, r3, c1, c2]
def cntF (s : Sg) (j a m : Nat) (N d : Int32) : Sg := if gI s 15 m j = 0 then s else sBF (sBF s j m (gI s 15 m j + d).toInt64) j a N.toInt64
theorem PR_sBF {j k a m i : Nat} {F N : Int32} {v : Int64} (h : PR s j F a m N) : PR (sBF s i k v) j F a m N := by
  unfold sBF
  split
  · exact h
  · exact h
theorem c_count (h : LC s nf) {j a m : Nat} {F N d : Int32} (hp : PR s j F a m N) (hj : j < 4) (ha : a < 128) (hm : m < 128) : Rn g 69 0 [some (.inr (.inr (some (8, 0)))), some (.inl d), none] [] s X ↔ X = (cntF s j a m N d, none) := by
  have r1 := fun X => c_getBn (g := g) (X := X) h hj hm
  have r2 := fun v X => c_putB (g := g) (X := X) (v := v) h hj hm
  have h' := fun v => LC_sBF (j := j) (k := m) (v := v) h
  have hp' := fun v => PR_sBF (k := m) (i := j) (v := v) hp
  have r3 := fun w v X => c_putB (g := g) (X := X) (v := v) (h' w) hj ha
  unfold cntF
  by_cases c1 : gI s 15 m j = 0
  · simp [Q69, MM, MK, h, hp, hj, r1, c1]
  · simp [Q69, MM, MK, h, h', hp, hp', hj, r1, r2, r3, c1]
theorem c_goWhen (h : LC s nf) {j a m k : Nat} {F N w : Int32} {v : Int64} (hp : PR s j F a m N) (hj : j < 4) (ha : a < 128) (hk : k < 4) (hF : F - F / 4 * 4 = nI k) : Rn g 70 0 [some (.inr (.inr (some (8, 0)))), some (.inr (.inl v)), none, some (.inl w)] [] s X ↔ X = (if isF k v = true then sBF s j a w.toInt64 else s, none) := by
  have r1 := fun X => c_holds (g := g) (s := s) (X := X) hk (v := v)
  have r2 := fun v X => c_putB (g := g) (X := X) (v := v) h hj ha
  by_cases c1 : isF k v = true <;> simp [Q70, MM, MK, h, hp, hj, hF, r1, r2, c1]
def roF (s : Sg) (j : Nat) (F : Int32) (a m : Nat) (N : Int32) : Sg × Int32 :=
  let e := (efF s j F a m N).toInt64
  let b := (gI s 15 a j).toInt64
  if F = 80 then (sBF s j a (e - b), 0) else if F = 81 then (sBF s j a e, 0) else if F = 82 then (sBF s j a (b - e), 0) else if F = 84 then (sBF s j a (b + e), 0) else if F = 86 then (sBF s j a (b ^^^ e), 0) else if F = 87 then (sBF s j a (b &&& e), 0) else if F = 122 then (sI s 3 7 j (sgF (b - e)), 0) else (s, 1)
theorem c_registerOrder (h : LC s nf) {j a m : Nat} {F N : Int32} (hp : PR s j F a m N) (hj : j < 4) (ha : a < 128) (hm : m < 128) : Rn g 67 0 [some (.inr (.inr (some (8, 0)))), none, none, none, none] [] s X ↔ X = ((roF s j F a m N).1, some (.inl (roF s j F a m N).2)) := by
  have r1 := fun X => c_effective (g := g) (X := X) h hp hj ha hm
  have r2 := fun X => c_getBn (g := g) (X := X) h hj ha
  have r3 := fun v X => c_putB (g := g) (X := X) (v := v) h hj ha
  have r4 := fun v X => c_signOf (g := g) (s := s) (X := X) (v := v)
  unfold roF
  dsimp only
  by_cases f80 : F = 80
  · subst f80
    simp [Q67, MM, MK, h, hp, hj, r1, r2, r3, r4]
  by_cases f81 : F = 81
  · subst f81
    simp [Q67, MM, MK, h, hp, hj, r1, r2, r3, r4]
  by_cases f82 : F = 82
  · subst f82
    simp [Q67, MM, MK, h, hp, hj, r1, r2, r3, r4]
  by_cases f84 : F = 84
  · subst f84
    simp [Q67, MM, MK, h, hp, hj, r1, r2, r3, r4]
  by_cases f86 : F = 86
  · subst f86
    simp [Q67, MM, MK, h, hp, hj, r1, r2, r3, r4]
  by_cases f87 : F = 87
  · subst f87
    simp [Q67, MM, MK, h, hp, hj, r1, r2, r3, r4]
  by_cases f122 : F = 122
  · subst f122
    simp [Q67, MM, MK, h, hp, hj, r1, r2, r3, r4]
  · simp [Q67, MM, MK, h, hp, hj, r1, r2, f80, f81, f82, f84, f86, f87, f122]
def shG (s : Sg) (j : Nat) (F : Int32) : Sg × Int32 := if F = 244 then (sJ s 3 10 j (wh (gJ s 3 10 j * 8)), 0) else if F = 245 then (sJ s 3 10 j (gJ s 3 10 j >>> ((3 : Int32).toInt64 &&& 63)), 0) else (s, 1)
theorem c_shiftOrder (h : LC s nf) {j a m : Nat} {F N : Int32} (hp : PR s j F a m N) (hj : j < 4) : Rn g 72 0 [some (.inr (.inr (some (8, 0))))] [] s X ↔ X = ((shG s j F).1, some (.inl (shG s j F).2)) := by
  have r1 := fun v X => c_cutToWord (g := g) (s := s) (X := X) (v := v)
  unfold shG
  by_cases f1 : F = 244
  · subst f1
    simp [Q72, MM, MK, h, hp, hj, r1]
  by_cases f2 : F = 245
  · subst f2
    simp [Q72, MM, MK, h, hp, hj, r1]
  · simp [Q72, MM, MK, h, hp, hj, f1, f2]
def joF (s : Sg) (j : Nat) (F : Int32) (a m : Nat) (N : Int32) : Sg × Int32 :=
  if F = 128 then (cntF s j a m N 1, 0) else if F = 131 then (cntF s j a m N (-1), 0)
  else if F = 140 then (if isF 0 (gI s 15 m j).toInt64 = true then sBF s j a (N).toInt64 else s, 0)
  else if F = 141 then (if isF 1 (gI s 15 m j).toInt64 = true then sBF s j a (N).toInt64 else s, 0)
  else if F = 142 then (if isF 2 (gI s 15 m j).toInt64 = true then sBF s j a (N).toInt64 else s, 0)
  else if F = 143 then (if isF 3 (gI s 15 m j).toInt64 = true then sBF s j a (N).toInt64 else s, 0)
  else if F = 148 then (if isF 0 (gI s 3 7 j).toInt64 = true then sBF s j a (efF s j F a m N).toInt64 else s, 0)
  else if F = 149 then (if isF 1 (gI s 3 7 j).toInt64 = true then sBF s j a (efF s j F a m N).toInt64 else s, 0)
  else if F = 150 then (if isF 2 (gI s 3 7 j).toInt64 = true then sBF s j a (efF s j F a m N).toInt64 else s, 0)
  else if F = 151 then (if isF 3 (gI s 3 7 j).toInt64 = true then sBF s j a (efF s j F a m N).toInt64 else s, 0)
  else if F = 156 then (if isF 0 (gJ s 3 10 j) = true then sBF s j a (efF s j F a m N).toInt64 else s, 0)
  else if F = 157 then (if isF 1 (gJ s 3 10 j) = true then sBF s j a (efF s j F a m N).toInt64 else s, 0)
  else if F = 158 then (if isF 2 (gJ s 3 10 j) = true then sBF s j a (efF s j F a m N).toInt64 else s, 0)
  else if F = 159 then (if isF 3 (gJ s 3 10 j) = true then sBF s j a (efF s j F a m N).toInt64 else s, 0)
  else (s, 1)
theorem c_jumpOrder (h : LC s nf) {j a m : Nat} {F N : Int32} (hp : PR s j F a m N) (hj : j < 4) (ha : a < 128) (hm : m < 128) (hF : F = 128 ∨ F = 131 ∨ F = 140 ∨ F = 141 ∨ F = 142 ∨ F = 143 ∨ F = 148 ∨ F = 149 ∨ F = 150 ∨ F = 151 ∨ F = 156 ∨ F = 157 ∨ F = 158 ∨ F = 159) : Rn g 68 0 [some (.inr (.inr (some (8, 0))))] [] s X ↔ X = ((joF s j F a m N).1, some (.inl (joF s j F a m N).2)) := by
  have r1 := fun X => c_effective (g := g) (X := X) h hp hj ha hm
  have r2 := fun X => c_getBn (g := g) (X := X) h hj hm
  have r3 := fun d X => c_count (g := g) (X := X) (d := d) h hp hj ha hm
  unfold joF
  rcases hF with rfl | rfl | rfl | rfl | rfl | rfl | rfl | rfl | rfl | rfl | rfl | rfl | rfl | rfl
  · simp [Q68, MM, MK, h, hp, hj, r3]
  · simp [Q68, MM, MK, h, hp, hj, r3]
  · have r4 := fun v w X => c_goWhen (g := g) (X := X) (k := 0) (v := v) (w := w) h hp hj ha (by omega) (by decide)
    simp [Q68, MM, MK, h, hp, hj, r1, r2, r4]
  · have r4 := fun v w X => c_goWhen (g := g) (X := X) (k := 1) (v := v) (w := w) h hp hj ha (by omega) (by decide)
    simp [Q68, MM, MK, h, hp, hj, r1, r2, r4]
  · have r4 := fun v w X => c_goWhen (g := g) (X := X) (k := 2) (v := v) (w := w) h hp hj ha (by omega) (by decide)
    simp [Q68, MM, MK, h, hp, hj, r1, r2, r4]
  · have r4 := fun v w X => c_goWhen (g := g) (X := X) (k := 3) (v := v) (w := w) h hp hj ha (by omega) (by decide)
    simp [Q68, MM, MK, h, hp, hj, r1, r2, r4]
  · have r4 := fun v w X => c_goWhen (g := g) (X := X) (k := 0) (v := v) (w := w) h hp hj ha (by omega) (by decide)
    simp [Q68, MM, MK, h, hp, hj, r1, r2, r4]
  · have r4 := fun v w X => c_goWhen (g := g) (X := X) (k := 1) (v := v) (w := w) h hp hj ha (by omega) (by decide)
    simp [Q68, MM, MK, h, hp, hj, r1, r2, r4]
  · have r4 := fun v w X => c_goWhen (g := g) (X := X) (k := 2) (v := v) (w := w) h hp hj ha (by omega) (by decide)
    simp [Q68, MM, MK, h, hp, hj, r1, r2, r4]
  · have r4 := fun v w X => c_goWhen (g := g) (X := X) (k := 3) (v := v) (w := w) h hp hj ha (by omega) (by decide)
    simp [Q68, MM, MK, h, hp, hj, r1, r2, r4]
  · have r4 := fun v w X => c_goWhen (g := g) (X := X) (k := 0) (v := v) (w := w) h hp hj ha (by omega) (by decide)
    simp [Q68, MM, MK, h, hp, hj, r1, r2, r4]
  · have r4 := fun v w X => c_goWhen (g := g) (X := X) (k := 1) (v := v) (w := w) h hp hj ha (by omega) (by decide)
    simp [Q68, MM, MK, h, hp, hj, r1, r2, r4]
  · have r4 := fun v w X => c_goWhen (g := g) (X := X) (k := 2) (v := v) (w := w) h hp hj ha (by omega) (by decide)
    simp [Q68, MM, MK, h, hp, hj, r1, r2, r4]
  · have r4 := fun v w X => c_goWhen (g := g) (X := X) (k := 3) (v := v) (w := w) h hp hj ha (by omega) (by decide)
    simp [Q68, MM, MK, h, hp, hj, r1, r2, r4]
theorem c_jumpOrder_no (h : LC s nf) {j a m : Nat} {F N : Int32} (hp : PR s j F a m N) (hF : ¬ (F = 128 ∨ F = 131 ∨ F = 140 ∨ F = 141 ∨ F = 142 ∨ F = 143 ∨ F = 148 ∨ F = 149 ∨ F = 150 ∨ F = 151 ∨ F = 156 ∨ F = 157 ∨ F = 158 ∨ F = 159)) : Rn g 68 0 [some (.inr (.inr (some (8, 0))))] [] s X ↔ X = (s, some (.inl 1)) := by
  simp only [not_or] at hF
  obtain ⟨f128, f131, f140, f141, f142, f143, f148, f149, f150, f151, f156, f157, f158, f159⟩ := hF
  simp [Q68, MM, MK, h, hp, f128, f131, f140, f141, f142, f143, f148, f149, f150, f151, f156, f157, f158, f159]
end Cls9
