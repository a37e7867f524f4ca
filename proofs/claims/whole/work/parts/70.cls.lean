/-! the class: extracodes, a missing block, orders -/
section Cls11
variable {g : Nat → Nat → Nat} {s : Sg} {X : Sg × Option Av} {nf : Nat}
def us (v : Int64) (n : Int32) : Int64 := (v.toUInt64 >>> (n.toInt64.toUInt64 &&& Int64.toUInt64 63)).toInt64
def bc1 (v : Int64) : Int64 := v - (us v 1 &&& 6148914691236517205)
def bc2 (v : Int64) : Int64 := (v &&& 3689348814741910323) + (us v 2 &&& 3689348814741910323)
def bc3 (v : Int64) : Int64 := (v + us v 4) &&& 1085102592571150095
def bc4 (v : Int64) : Int64 := v + us v 8
def bc5 (v : Int64) : Int64 := v + us v 16
def bc6 (v : Int64) : Int64 := v + us v 32
def bcF (v : Int64) : Int32 := (bc6 (bc5 (bc4 (bc3 (bc2 (bc1 v)))))).toInt32 &&& 127
theorem c_bitCount {v : Int64} : Rn g 179 0 [some (.inr (.inl v)), none] [] s X ↔ X = (s, some (.inl (bcF v))) := by
  simp only [Q179, MK]
  rfl
def rtF (w : Int64) : Nat → Int64 → Int64 → Int64
  | 0, l, _ => l
  | n + 1, l, h => if l < h then (if w < (l + h + 1) / 2 * ((l + h + 1) / 2) then rtF w n l ((l + h + 1) / 2 - 1) else rtF w n ((l + h + 1) / 2) h) else l
theorem c_rootOf_l {w : Int64} : ∀ n i (l h : Int64) (z1 z2 : Option Av), i + n = 48 → (Rn g 75 10 [some (.inr (.inl w)), none, some (.inr (.inl l)), none, some (.inr (.inl h)), none, some (.inl (nI i)), z1, z2] [] s X ↔ X = (s, some (.inr (.inl (rtF w n l h)))))
  | 0, i, l, h, z1, z2, hi => by
    have h1 : (48 : Int32) ≤ nI i := nI_le (a := 48) (by omega) (by omega)
    simp [e75_10, e75_12, e75_14, e75_17, e75_18, e75_20, e75_21, e75_24, e75_25, e75_27, e75_28, e75_29, e75_30, e75_33, e75_34, e75_36, e75_38, e75_40, e75_41, e75_42, e75_43, e75_46, e75_48, e75_49, e75_52, e75_54, e75_55, e75_56, n75_58, e75_64, e75_65, MK, h1, rtF]
  | n + 1, i, l, h, z1, z2, hi => by
    have h1 : ¬ (48 : Int32) ≤ nI i := nI_ge (b := 48) (by omega) (by decide)
    have ih := fun l h z1 z2 => c_rootOf_l (w := w) n (i + 1) l h z1 z2 (by omega)
    by_cases c1 : l < h
    · by_cases c2 : w < (l + h + 1) / 2 * ((l + h + 1) / 2)
      · simp [e75_10, e75_12, e75_14, e75_17, e75_18, e75_20, e75_21, e75_24, e75_25, e75_27, e75_28, e75_29, e75_30, e75_33, e75_34, e75_36, e75_38, e75_40, e75_41, e75_42, e75_43, e75_46, e75_48, e75_49, e75_52, e75_54, e75_55, e75_56, n75_58, e75_64, e75_65, MK, NC, h1, c1, c2, i64_le (x := h) (y := l), rtF, show ¬ (2 : Int64) = 0 by decide]
        simp only [e75_61, nI_1, ih]
      · simp [e75_10, e75_12, e75_14, e75_17, e75_18, e75_20, e75_21, e75_24, e75_25, e75_27, e75_28, e75_29, e75_30, e75_33, e75_34, e75_36, e75_38, e75_40, e75_41, e75_42, e75_43, e75_46, e75_48, e75_49, e75_52, e75_54, e75_55, e75_56, n75_58, e75_64, e75_65, MK, NC, h1, c1, c2, i64_le (x := h) (y := l), rtF, show ¬ (2 : Int64) = 0 by decide]
        simp only [e75_61, nI_1, ih]
    · simp [e75_10, e75_12, e75_14, e75_17, e75_18, e75_20, e75_21, e75_24, e75_25, e75_27, e75_28, e75_29, e75_30, e75_33, e75_34, e75_36, e75_38, e75_40, e75_41, e75_42, e75_43, e75_46, e75_48, e75_49, e75_52, e75_54, e75_55, e75_56, n75_58, e75_64, e75_65, MK, NC, h1, c1, i64_le (x := h) (y := l), rtF]
theorem c_rootOf {w : Int64} : Rn g 75 0 [some (.inr (.inl w)), none, none, none, none, none, none, none, none] [] s X ↔ X = (s, some (.inr (.inl (rtF w 48 0 11863283)))) := by
  have r := c_rootOf_l (g := g) (s := s) (X := X) (w := w) 48 0 0 11863283 none none rfl
  rw [nI_0] at r
  simp only [e75_0, e75_1, e75_2, e75_5, e75_7, e75_8, MK]
  exact r
abbrev exP (F : Int32) : Prop := F = 552 ∨ F = 566 ∨ F = 580 ∨ F = 591 ∨ F = 593 ∨ F = 704
def exF (s : Sg) (j : Nat) (F : Int32) (a c f d e : Nat) : Sg × Int32 :=
  if F = 552 then (if c = 0 then (s, 4) else (sJ (sI (sI s 9 1 (3 + 2 * j) (nI (rix (3 + 2 * j) f 1))) 9 2 (3 + 2 * j) (nI (c - 1))) 3 10 j (gJ s 19 f (3 + 2 * j)), 0))
  else if F = 566 then (if d < cap (4 + 2 * j) then (sI (sJ s 19 (rix (4 + 2 * j) e d) (4 + 2 * j) (gJ s 3 10 j)) 9 2 (4 + 2 * j) (nI (d + 1)), 0) else (s, 6))
  else if F = 580 then (sBF s j a (bcF (gJ s 3 10 j &&& 281474976710655)).toInt64, 0)
  else if F = 591 then (s, -2)
  else if F = 593 then (sBF s j a (gI s 3 3 j + 1).toInt64, 0)
  else if F = 704 then (if gJ s 3 10 j < 0 then (s, 5) else (sJ s 3 10 j (rtF (gJ s 3 10 j) 48 0 11863283), 0))
  else (s, 1)
theorem c_extracode (h : LC s nf) {j a m c f d e : Nat} {F N : Int32} (hp : PR s j F a m N) (hj : j < 4) (ha : a < 128) (ht : RO s (3 + 2 * j) c f) (hq : RO s (4 + 2 * j) d e) : Rn g 73 0 [some (.inr (.inr (some (8, 0))))] [] s X ↔ X = ((exF s j F a c f d e).1, some (.inl (exF s j F a c f d e).2)) := by
  have r1 := fun X => c_size (g := g) (X := X) h (show 3 + 2 * j < 11 by omega) ht
  have r2 := fun v X => c_append (g := g) (X := X) (v := v) h (show 4 + 2 * j < 11 by omega) hq
  have r3 := fun v X => c_putB (g := g) (X := X) (v := v) h hj ha
  have r4 := fun v X => c_bitCount (g := g) (s := s) (X := X) (v := v)
  have r5 := fun v X => c_rootOf (g := g) (s := s) (X := X) (w := v)
  unfold exF
  by_cases f552 : F = 552
  · subst f552
    by_cases c0 : c = 0
    · subst c0
      simp [Q73, MM, MK, h, hp, hj, show 3 + 2 * j < 11 by omega, r1, nI_0]
    · have r6 := fun X => c_takeFirst (g := g) (X := X) h (show 3 + 2 * j < 11 by omega) ht (by omega)
      have hcap := cap_b (3 + 2 * j)
      have h0 : ¬ nI c = 0 := by
        rw [← nI_0, nI_eq (by have := ht.2.2.1; omega) (by omega)]; exact c0
      simp [Q73, MM, MK, h, hp, hj, show 3 + 2 * j < 11 by omega, r1, r6, h0, c0]
  by_cases f566 : F = 566
  · subst f566
    by_cases c0 : d < cap (4 + 2 * j)
    · simp [Q73, MM, MK, h, hp, hj, show 4 + 2 * j < 11 by omega, r2, c0]
    · simp [Q73, MM, MK, h, hp, hj, show 4 + 2 * j < 11 by omega, r2, c0]
  by_cases f580 : F = 580
  · subst f580
    simp [Q73, MM, MK, h, hp, hj, r3, r4]
  by_cases f591 : F = 591
  · subst f591
    simp [Q73, MM, MK, h, hp, hj]
  by_cases f593 : F = 593
  · subst f593
    simp [Q73, MM, MK, h, hp, hj, r3]
  by_cases f704 : F = 704
  · subst f704
    by_cases c0 : gJ s 3 10 j < 0
    · simp [Q73, NC, MM, MK, h, hp, hj, c0, i64_le (x := 0) (y := gJ s 3 10 j)]
    · simp [Q73, NC, MM, MK, h, hp, hj, c0, r5, i64_le (x := 0) (y := gJ s 3 10 j)]
  · simp [Q73, MM, MK, h, hp, f552, f566, f580, f591, f593, f704]
def misF (s : Sg) (j : Nat) (b : Int32) (a : Nat) : Sg × Int32 := match pgF s (nI j) b with
  | some k => (sP (sI s 3 1 j 2) 3 11 j (some k), -1)
  | none => if gI s 3 5 j < gI s 3 6 j then (sP (sI (sI (hldF s a (nI j) b) 3 5 j (gI (hldF s a (nI j) b) 3 5 j + 1)) 3 1 j 2) 3 11 j (some a), -1) else (s, 3)
theorem filF_gI (k : Nat) : ∀ n i (s : Sg) (c m e : Nat), gI (filF k s i n) c m e = gI s c m e
  | 0, _, _, _, _, _ => rfl
  | n + 1, i, s, c, m, e => by rw [filF, filF_gI k n]; rfl
theorem filF_gP (k : Nat) : ∀ n i (s : Sg) (c m e : Nat), gP (filF k s i n) c m e = gP s c m e
  | 0, _, _, _, _, _ => rfl
  | n + 1, i, s, c, m, e => by rw [filF, filF_gP k n]; rfl
theorem hldF_gI {k c m e : Nat} {o b : Int32} (h4 : c ≠ 4) (h16 : c ≠ 16) : gI (hldF s k o b) c m e = gI s c m e := by
  unfold hldF
  dsimp only
  split
  · simp [MM, h4, h16]
  · simp [MM, h4]
theorem hldF_gP {k c m e : Nat} {o b : Int32} (h4 : c ≠ 4) (h16 : c ≠ 16) : gP (hldF s k o b) c m e = gP s c m e := by
  unfold hldF
  dsimp only
  split
  · simp [MM, h4, h16]
  · simp [MM]
theorem c_missing (h : LC s nf) {j a : Nat} {b : Int32} (hjp : gP s 8 2 0 = some j) (hj : j < 4) (hn : pgF s (nI j) b = none → gI s 3 5 j < gI s 3 6 j → ff (frP s) 0 64 = some a ∧ (gP s 4 4 a = none ∨ (gP s 4 4 a = some a ∧ a < cn s 16)) ∧ (gP s 4 4 a = none → sz s = g 16 (cn s 16)) ∧ (gP s 4 4 a = none → cn s 16 < 64)) : Rn g 60 0 [some (.inr (.inr (some (8, 0)))), some (.inl b), none] [] s X ↔ X = ((misF s j b a).1, some (.inl (misF s j b a).2)) := by
  have r1 := fun X => c_find (g := g) (X := X) h (nI j) b
  unfold misF
  cases hf : pgF s (nI j) b with
  | some k =>
    have hk : k < 64 := by have := (ff_some hf).2.1; omega
    have r2 := fun X => c_await (g := g) (X := X) (k := k) h hj
    simp [Q60, MM, MK, h, hjp, hj, r1, hf, hk, r2]
  | none =>
    by_cases c1 : gI s 3 5 j < gI s 3 6 j
    · obtain ⟨h1, h2, h3, h4⟩ := hn hf c1
      have ha : a < 64 := by have := (ff_some h1).2.1; omega
      have r2 := fun X => c_pagesHold (g := g) (X := X) (o := nI j) (b := b) h h1 h2 h3 h4
      have h' : LC (hldF s a (nI j) b) nf := LC_hldF h ha h2 h4
      have hjp' : gP (hldF s a (nI j) b) 8 2 0 = some j := by rw [hldF_gP (by omega) (by omega)]; exact hjp
      have r3 := fun v X => c_await (g := g) (X := X) (k := a) (LC_sI (c := 3) (k := 5) (i := j) (v := v) h' (by omega)) hj
      simp [Q60, MM, MK, h, h', hjp, hjp', hj, r1, hf, c1, i32_le (x := gI s 3 6 j) (y := gI s 3 5 j), r2, r3, ha]
    · simp [Q60, MM, MK, h, hjp, hj, r1, hf, c1, i32_le (x := gI s 3 6 j) (y := gI s 3 5 j)]
end Cls11
