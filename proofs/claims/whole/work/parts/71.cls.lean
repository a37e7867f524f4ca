/-! the class: an instruction -/
section Cls12
variable {g : Nat → Nat → Nat} {s : Sg} {X : Sg × Option Av} {nf : Nat}
theorem c_withOperand_bad (h : LC s nf) {j a m : Nat} {F N : Int32} (hp : PR s j F a m N) (hj : j < 4) (ha : a < 128) (hm : m < 128) (hA : efF s j F a m N < 0 ∨ ¬ efF s j F a m N < 1048576) : Rn g 64 0 [some (.inr (.inr (some (8, 0)))), none, none, none] [] s X ↔ X = (s, some (.inl 2)) := by
  have r1 := fun X => c_effective (g := g) (X := X) h hp hj ha hm
  have r2 := fun v X => c_isAddress (g := g) (X := X) (s := s) (a := v)
  rcases hA with hA | hA <;> simp [Q64, MM, MK, h, r1, r2, hA]
theorem c_withOperand_miss (h : LC s nf) {j a m A n0 : Nat} {F N : Int32} (hp : PR s j F a m N) (hj : j < 4) (ha : a < 128) (hm : m < 128) (hA : efF s j F a m N = nI A) (hA2 : A < 1048576) (hho : hoF s nf (nI j) (nI (A / 512)) = none) (hn : pgF s (nI j) (nI (A / 512)) = none → gI s 3 5 j < gI s 3 6 j → ff (frP s) 0 64 = some n0 ∧ (gP s 4 4 n0 = none ∨ (gP s 4 4 n0 = some n0 ∧ n0 < cn s 16)) ∧ (gP s 4 4 n0 = none → sz s = g 16 (cn s 16)) ∧ (gP s 4 4 n0 = none → cn s 16 < 64)) : Rn g 64 0 [some (.inr (.inr (some (8, 0)))), none, none, none] [] s X ↔ X = ((misF s j (nI (A / 512)) n0).1, some (.inl (misF s j (nI (A / 512)) n0).2)) := by
  have r1 := fun X => c_effective (g := g) (X := X) h hp hj ha hm
  rw [hA] at r1
  have r2 := fun v X => c_isAddress (g := g) (X := X) (s := s) (a := v)
  have h1 : ¬ nI A < 0 := nI_pos (by omega)
  have h2 : nI A < (1048576 : Int32) := nI_lt (b := 1048576) hA2 (by decide)
  have r3 := fun X => c_holding (g := g) (X := X) h (nI j) (nI (A / 512))
  rw [hho, mk_none] at r3
  have r4 := fun X => c_missing (g := g) (X := X) h hp.1 hj hn
  have hd := d512 (show A < 2 ^ 31 by omega)
  simp [Q64, MM, MK, h, hp, hj, r1, r2, h1, h2, hd, r3, r4]
def woF (s : Sg) (j : Nat) (F : Int32) (a k e f : Nat) : Sg × Int32 := if F < 192 then rwF (sP s 8 3 0 (some f)) j F a k e else awF (sP s 8 3 0 (some f)) j F k e
theorem c_withOperand_hit (h : LC s nf) {j a m A f k : Nat} {F N : Int32} (hp : PR s j F a m N) (hj : j < 4) (ha : a < 128) (hm : m < 128) (hA : efF s j F a m N = nI A) (hA2 : A < 1048576) (hho : hoF s nf (nI j) (nI (A / 512)) = some f) (hk : gP s 2 4 f = some k) (hk64 : k < 64) (hw : gP s 4 4 k = some k) (hc : k < cn s 16) : Rn g 64 0 [some (.inr (.inr (some (8, 0)))), none, none, none] [] s X ↔ X = ((woF s j F a k (A % 512) f).1, some (.inl (woF s j F a k (A % 512) f).2)) := by
  have r1 := fun X => c_effective (g := g) (X := X) h hp hj ha hm
  rw [hA] at r1
  have r2 := fun v X => c_isAddress (g := g) (X := X) (s := s) (a := v)
  have h1 : ¬ nI A < 0 := nI_pos (by omega)
  have h2 : nI A < (1048576 : Int32) := nI_lt (b := 1048576) hA2 (by decide)
  have r3 := fun X => c_holding (g := g) (X := X) h (nI j) (nI (A / 512))
  rw [hho, mk_some] at r3
  have hf : f < nf := by have := (ff_some hho).2.1; omega
  have hd := d512 (show A < 2 ^ 31 by omega)
  have hm5 := m512' (show A < 2 ^ 31 by omega)
  have h' : LC (sP s 8 3 0 (some f)) nf := LC_sP h (by unfold dyP; omega)
  have hp' : PR (sP s 8 3 0 (some f)) j F a m N := hp
  have r5 := fun X => c_registerWithWord (g := g) (X := X) (e := A % 512) h' hp' hj ha hk64 (by omega) hw hc
  have r6 := fun X => c_accumulatorWithWord (g := g) (X := X) (e := A % 512) h' hp' hj hk64 (by omega) hw hc
  unfold woF
  by_cases c1 : F < 192
  · simp [Q64, MM, MK, h, hp, hj, r1, r2, h1, h2, hd, hm5, r3, hf, hk, c1, i32_le (x := 192) (y := F), r5]
  · simp [Q64, MM, MK, h, hp, hj, r1, r2, h1, h2, hd, hm5, r3, hf, hk, c1, i32_le (x := 192) (y := F), r6]
/-- the orders without a word -/
def pfG (s : Sg) (j : Nat) (F : Int32) (a m : Nat) (N : Int32) (c f d e : Nat) : Sg × Int32 := if F < 128 then roF s j F a m N else if F < 192 then joF s j F a m N else if F < 512 then shG s j F else exF s j F a c f d e
theorem joF_no {j a m : Nat} {F N : Int32} (hF : ¬ jmP F) : joF s j F a m N = (s, 1) := by
  unfold jmP at hF
  simp only [not_or] at hF
  obtain ⟨f128, f131, f140, f141, f142, f143, f148, f149, f150, f151, f156, f157, f158, f159⟩ := hF
  simp [joF, f128, f131, f140, f141, f142, f143, f148, f149, f150, f151, f156, f157, f158, f159]
theorem c_perform_1 (h : LC s nf) {j a m : Nat} {F N : Int32} (hp : PR s j F a m N) (hF : stB F = 1) (Y : Sg × Int32) (hr : ∀ X, Rn g 64 0 [some (.inr (.inr (some (8, 0)))), none, none, none] [] s X ↔ X = (Y.1, some (.inl Y.2))) : Rn g 61 0 [some (.inr (.inr (some (8, 0))))] [] s X ↔ X = (Y.1, some (.inl Y.2)) := by
  have r1 := fun X => c_hasOperand (g := g) (X := X) h hp.2.1
  simp [Q61, MM, MK, h, r1, hF, hr]
theorem c_perform_0 (h : LC s nf) {j a m c f d e : Nat} {F N : Int32} (hp : PR s j F a m N) (hj : j < 4) (ha : a < 128) (hm : m < 128) (ht : RO s (3 + 2 * j) c f) (hq : RO s (4 + 2 * j) d e) (hF : stB F = 0) : Rn g 61 0 [some (.inr (.inr (some (8, 0))))] [] s X ↔ X = ((pfG s j F a m N c f d e).1, some (.inl (pfG s j F a m N c f d e).2)) := by
  have r1 := fun X => c_hasOperand (g := g) (X := X) h hp.2.1
  have r2 := fun X => c_registerOrder (g := g) (X := X) h hp hj ha hm
  have r3 : ∀ X, Rn g 68 0 [some (.inr (.inr (some (8, 0))))] [] s X ↔ X = ((joF s j F a m N).1, some (.inl (joF s j F a m N).2)) := by
    intro X
    by_cases hF2 : jmP F
    · exact c_jumpOrder h hp hj ha hm hF2
    · rw [joF_no hF2]; exact c_jumpOrder_no h hp hF2
  have r4 := fun X => c_shiftOrder (g := g) (X := X) h hp hj
  have r5 := fun X => c_extracode (g := g) (X := X) h hp hj ha ht hq
  unfold pfG
  by_cases c1 : F < 128
  · simp [Q61, MM, MK, h, hp, r1, hF, c1, i32_le (x := 128) (y := F), r2]
  · by_cases c2 : F < 192
    · simp [Q61, MM, MK, h, hp, r1, hF, c1, c2, i32_le (x := 128) (y := F), i32_le (x := 192) (y := F), r3]
    · by_cases c3 : F < 512
      · simp [Q61, MM, MK, h, hp, r1, hF, c1, c2, c3, i32_le (x := 128) (y := F), i32_le (x := 192) (y := F), i32_le (x := 512) (y := F), r4]
      · simp [Q61, MM, MK, h, hp, r1, hF, c1, c2, c3, i32_le (x := 128) (y := F), i32_le (x := 192) (y := F), i32_le (x := 512) (y := F), r5]
/-- the step of a job: no time, no address -/
def st0 (s : Sg) (j : Nat) : Sg := sP (sP s 8 2 0 (some j)) 8 3 0 none
theorem LC_st0 {j : Nat} (h : LC s nf) : LC (st0 s j) nf := LC_sP (LC_sP h (by unfold dyP; omega)) (by unfold dyP; omega)
theorem c_step_time (h : LC s nf) {j : Nat} (hj : j < 4) (hd : ¬ gI s 3 3 j < gI s 3 4 j) : Rn g 58 0 [some (.inr (.inr (some (8, 0)))), some (.inr (.inr (some (3, j)))), none, none, none] [] s X ↔ X = (st0 s j, some (.inl 7)) := by
  have h' : LC (sP (sP s 8 2 0 (some j)) 8 3 0 none) nf := LC_st0 (j := j) h
  have r1 := fun X => c_getBn (g := g) (X := X) h' hj (show 127 < 128 by omega)
  rw [show nI 127 = 127 from rfl] at r1
  simp [Q58, MM, MK, h, h', hj, r1, hd, i32_le (x := gI s 3 4 j) (y := gI s 3 3 j), st0]
theorem c_step_addr (h : LC s nf) {j : Nat} (hj : j < 4) (hd : gI s 3 3 j < gI s 3 4 j) (hA : gI s 15 127 j < 0 ∨ ¬ gI s 15 127 j < 1048576) : Rn g 58 0 [some (.inr (.inr (some (8, 0)))), some (.inr (.inr (some (3, j)))), none, none, none] [] s X ↔ X = (st0 s j, some (.inl 2)) := by
  have h' : LC (sP (sP s 8 2 0 (some j)) 8 3 0 none) nf := LC_st0 (j := j) h
  have r1 := fun X => c_getBn (g := g) (X := X) h' hj (show 127 < 128 by omega)
  rw [show nI 127 = 127 from rfl] at r1
  have r2 := fun v X => c_isAddress (g := g) (X := X) (s := sP (sP s 8 2 0 (some j)) 8 3 0 none) (a := v)
  rcases hA with hA | hA <;> simp [Q58, MM, MK, h, h', hj, r1, hd, i32_le (x := gI s 3 4 j) (y := gI s 3 3 j), r2, hA, st0]
theorem c_step_miss (h : LC s nf) {j A n0 : Nat} (hj : j < 4) (hd : gI s 3 3 j < gI s 3 4 j) (hA : gI s 15 127 j = nI A) (hA2 : A < 1048576) (hho : hoF s nf (nI j) (nI (A / 512)) = none) (hn : pgF s (nI j) (nI (A / 512)) = none → gI s 3 5 j < gI s 3 6 j → ff (frP s) 0 64 = some n0 ∧ (gP s 4 4 n0 = none ∨ (gP s 4 4 n0 = some n0 ∧ n0 < cn s 16)) ∧ (gP s 4 4 n0 = none → sz s = g 16 (cn s 16)) ∧ (gP s 4 4 n0 = none → cn s 16 < 64)) : Rn g 58 0 [some (.inr (.inr (some (8, 0)))), some (.inr (.inr (some (3, j)))), none, none, none] [] s X ↔ X = ((misF (st0 s j) j (nI (A / 512)) n0).1, some (.inl (misF (st0 s j) j (nI (A / 512)) n0).2)) := by
  have h' : LC (sP (sP s 8 2 0 (some j)) 8 3 0 none) nf := LC_st0 (j := j) h
  have r1 := fun X => c_getBn (g := g) (X := X) h' hj (show 127 < 128 by omega)
  rw [show nI 127 = 127 from rfl] at r1
  simp only [MM, hA] at r1
  have r2 := fun v X => c_isAddress (g := g) (X := X) (s := sP (sP s 8 2 0 (some j)) 8 3 0 none) (a := v)
  have h1 : ¬ nI A < 0 := nI_pos (by omega)
  have h2 : nI A < (1048576 : Int32) := nI_lt (b := 1048576) hA2 (by decide)
  have r3 := fun X => c_holding (g := g) (X := X) h' (nI j) (nI (A / 512))
  have e3 : hoF (sP (sP s 8 2 0 (some j)) 8 3 0 none) nf (nI j) (nI (A / 512)) = none := hho
  rw [e3, mk_none] at r3
  have r4 := fun X => c_missing (g := g) (X := X) (s := sP (sP s 8 2 0 (some j)) 8 3 0 none) h' (show gP (sP (sP s 8 2 0 (some j)) 8 3 0 none) 8 2 0 = some j by simp [MM]) hj hn
  have hd5 := d512 (show A < 2 ^ 31 by omega)
  simp [Q58, MM, MK, h, h', hj, r1, hd, i32_le (x := gI s 3 4 j) (y := gI s 3 3 j), r2, h1, h2, hd5, r3, r4, st0]
/-- before the order: the processor has decoded, the control is one further -/
def st1F (s : Sg) (j A k : Nat) : Sg := sBF (decF (st0 s j) (gJ s 16 (A % 512) k)) j 127 (nI A + 1).toInt64
/-- behind the order -/
def st2F (u : Sg × Int32) (j A f : Nat) : Sg := if u.2 = 0 ∨ u.2 = -2 then (let v := sI (sI (sI u.1 3 3 j (gI u.1 3 3 j + 1)) 2 7 f 1) 2 8 f 0; match gP u.1 8 3 0 with | none => v | some e => sI (sI v 2 7 e 1) 2 8 e 0) else sBF u.1 j 127 (nI A).toInt64
theorem c_step_go (h : LC s nf) {j A f k : Nat} (hj : j < 4) (hd : gI s 3 3 j < gI s 3 4 j) (hA : gI s 15 127 j = nI A) (hA2 : A < 1048576) (hho : hoF s nf (nI j) (nI (A / 512)) = some f) (hk : gP s 2 4 f = some k) (hk64 : k < 64) (hw : gP s 4 4 k = some k) (hc : k < cn s 16) (Y : Sg × Int32) (hY : ∀ X, Rn g 61 0 [some (.inr (.inr (some (8, 0))))] [] (st1F s j A k) X ↔ X = (Y.1, some (.inl Y.2))) (hL : LC Y.1 nf) (hop : ∀ e, gP Y.1 8 3 0 = some e → e < nf) : Rn g 58 0 [some (.inr (.inr (some (8, 0)))), some (.inr (.inr (some (3, j)))), none, none, none] [] s X ↔ X = (st2F Y j A f, some (.inl Y.2)) := by
  have h' : LC (sP (sP s 8 2 0 (some j)) 8 3 0 none) nf := LC_st0 (j := j) h
  have r1 := fun X => c_getBn (g := g) (X := X) h' hj (show 127 < 128 by omega)
  rw [show nI 127 = 127 from rfl] at r1
  simp only [MM, hA] at r1
  have r2 := fun v X => c_isAddress (g := g) (X := X) (s := sP (sP s 8 2 0 (some j)) 8 3 0 none) (a := v)
  have h1 : ¬ nI A < 0 := nI_pos (by omega)
  have h2 : nI A < (1048576 : Int32) := nI_lt (b := 1048576) hA2 (by decide)
  have r3 := fun X => c_holding (g := g) (X := X) h' (nI j) (nI (A / 512))
  have e3 : hoF (sP (sP s 8 2 0 (some j)) 8 3 0 none) nf (nI j) (nI (A / 512)) = some f := hho
  rw [e3, mk_some] at r3
  have hf : f < nf := by have := (ff_some hho).2.1; omega
  have hd5 := d512 (show A < 2 ^ 31 by omega)
  have hm5 := m512' (show A < 2 ^ 31 by omega)
  have r4 := fun X => c_wordAt (g := g) (X := X) (e := A % 512) h' hk64 (by omega) hw hc
  simp only [MM] at r4
  have r5 := fun w X => c_decode (g := g) (X := X) (w := w) h'
  have h5 : ∀ w, LC (decF (sP (sP s 8 2 0 (some j)) 8 3 0 none) w) nf := fun w => LC_sI (LC_sI (LC_sI (LC_sI h' (by omega)) (by omega)) (by omega)) (by omega)
  have r6 := fun w v X => c_putB (g := g) (X := X) (v := v) (h5 w) hj (show 127 < 128 by omega)
  have h8 := fun w v => LC_sBF (j := j) (k := 127) (v := v) (h5 w)
  rw [show nI 127 = 127 from rfl] at r6
  unfold st1F st0 at hY
  have r7 := fun v X => c_putB (g := g) (X := X) (v := v) hL hj (show 127 < 128 by omega)
  rw [show nI 127 = 127 from rfl] at r7
  have h6 : ∀ v, LC (sI Y.1 3 3 j v) nf := fun v => LC_sI hL (by omega)
  have r8 := fun v X => c_touch (g := g) (X := X) (h6 v) hf
  have h7 : ∀ v, LC (sI (sI (sI Y.1 3 3 j v) 2 7 f 1) 2 8 f 0) nf := fun v => LC_sI (LC_sI (h6 v) (by omega)) (by omega)
  unfold st2F
  by_cases c1 : Y.2 = 0
  · cases ho : gP Y.1 8 3 0 with
    | none => simp [Q58, MM, MK, h, h', h5, h8, hL, hj, r1, hd, i32_le (x := gI s 3 4 j) (y := gI s 3 3 j), r2, h1, h2, hd5, hm5, r3, hf, hk, hk64, r4, r5, r6, hY, c1, r8, ho]
    | some e =>
      have he := hop e ho
      have r9 := fun v X => c_touch (g := g) (X := X) (h7 v) he
      simp [Q58, MM, MK, h, h', h5, h8, hL, hj, r1, hd, i32_le (x := gI s 3 4 j) (y := gI s 3 3 j), r2, h1, h2, hd5, hm5, r3, hf, hk, hk64, r4, r5, r6, hY, c1, r8, r9, ho, he]
  · by_cases c2 : Y.2 = -2
    · cases ho : gP Y.1 8 3 0 with
      | none => simp [Q58, MM, MK, h, h', h5, h8, hL, hj, r1, hd, i32_le (x := gI s 3 4 j) (y := gI s 3 3 j), r2, h1, h2, hd5, hm5, r3, hf, hk, hk64, r4, r5, r6, hY, c2, r8, ho]
      | some e =>
        have he := hop e ho
        have r9 := fun v X => c_touch (g := g) (X := X) (h7 v) he
        simp [Q58, MM, MK, h, h', h5, h8, hL, hj, r1, hd, i32_le (x := gI s 3 4 j) (y := gI s 3 3 j), r2, h1, h2, hd5, hm5, r3, hf, hk, hk64, r4, r5, r6, hY, c2, r8, r9, ho, he]
    · simp [Q58, MM, MK, h, h', h5, h8, hL, hj, r1, hd, i32_le (x := gI s 3 4 j) (y := gI s 3 3 j), r2, h1, h2, hd5, hm5, r3, hf, hk, hk64, r4, r5, r6, hY, c1, c2, r7]
end Cls12
