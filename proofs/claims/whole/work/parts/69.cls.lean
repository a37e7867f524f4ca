/-! numbers of the decoding -/
def fnF (w : Int64) : Int32 := (w >>> ((38 : Int32).toInt64 &&& 63) &&& 1023).toInt32
def raF (w : Int64) : Int32 := (w >>> ((31 : Int32).toInt64 &&& 63) &&& 127).toInt32
def rmG (w : Int64) : Int32 := (w >>> ((24 : Int32).toInt64 &&& 63) &&& 127).toInt32
theorem sh64 : ∀ n, n < 64 → (((nI n).toInt64 &&& 63).toBitVec.smod 64).toNat = n := by decide +kernel
theorem su64 : ∀ n, n < 64 → (((nI n).toInt64.toUInt64 &&& Int64.toUInt64 63).toBitVec % 64).toNat = n := by decide +kernel
theorem dc_bits (w : Int64) (n m : Nat) (hn : n + m ≤ 64) (hm : m ≤ 32) (h64 : n < 64) {M : Int64} {M' : Int32} (e1 : M.toBitVec = BitVec.ofNat 64 (2 ^ m - 1)) (e2 : M'.toBitVec = BitVec.ofNat 32 (2 ^ m - 1)) : ((w.toUInt64 >>> ((nI n).toInt64.toUInt64 &&& Int64.toUInt64 63)).toInt64.toInt32 &&& M') = (w >>> ((nI n).toInt64 &&& 63) &&& M).toInt32 := by
  apply Int32.toBitVec_inj.mp
  rw [Int32.toBitVec_and, e2, Int64.toBitVec_toInt32, Int64.toBitVec_toInt32, BitVec.signExtend_eq_setWidth_of_le _ (by omega), BitVec.signExtend_eq_setWidth_of_le _ (by omega), Int64.toBitVec_and, e1, Int64.toBitVec_shiftRight]
  show BitVec.setWidth 32 (w.toBitVec >>> (((nI n).toInt64.toUInt64 &&& Int64.toUInt64 63).toBitVec % 64)) &&& _ = BitVec.setWidth 32 (w.toBitVec.sshiftRight ((((nI n).toInt64 &&& 63).toBitVec.smod 64)).toNat &&& _)
  rw [sh64 n h64, BitVec.ushiftRight_eq', su64 n h64]
  apply BitVec.eq_of_getLsbD_eq
  intro i hi
  simp only [BitVec.getLsbD_and, BitVec.getLsbD_setWidth, BitVec.getLsbD_ushiftRight, BitVec.getLsbD_sshiftRight, BitVec.getLsbD_ofNat, Nat.testBit_two_pow_sub_one]
  by_cases h : i < m
  · have h1 : n + i < 64 := by omega
    have h2 : i < 64 := by omega
    simp [h, hi, h1, h2]
  · simp [h]
theorem dc_fn (w : Int64) : ((w.toUInt64 >>> ((38 : Int32).toInt64.toUInt64 &&& Int64.toUInt64 63)).toInt64.toInt32 &&& 1023) = fnF w := dc_bits w 38 10 (by omega) (by omega) (by omega) (M := 1023) (M' := 1023) (by decide) (by decide)
theorem dc_ra (w : Int64) : ((w.toUInt64 >>> ((31 : Int32).toInt64.toUInt64 &&& Int64.toUInt64 63)).toInt64.toInt32 &&& 127) = raF w := dc_bits w 31 7 (by omega) (by omega) (by omega) (M := 127) (M' := 127) (by decide) (by decide)
theorem dc_rm (w : Int64) : ((w.toUInt64 >>> ((24 : Int32).toInt64.toUInt64 &&& Int64.toUInt64 63)).toInt64.toInt32 &&& 127) = rmG w := dc_bits w 24 7 (by omega) (by omega) (by omega) (M := 127) (M' := 127) (by decide) (by decide)
theorem msk (y : Int32) (m : Nat) (hm : m < 31) {M : Int32} (e : M.toBitVec = BitVec.ofNat 32 (2 ^ m - 1)) : ∃ k, k < 2 ^ m ∧ y &&& M = nI k := by
  refine ⟨y.toBitVec.toNat % 2 ^ m, Nat.mod_lt _ (Nat.two_pow_pos m), ?_⟩
  apply Int32.toBitVec_inj.mp
  rw [Int32.toBitVec_and, e]
  show _ = BitVec.ofNat 32 _
  apply BitVec.eq_of_toNat_eq
  have h1 : 2 ^ m < 2 ^ 32 := Nat.pow_lt_pow_right (by omega) (by omega)
  have h2 : y.toBitVec.toNat % 2 ^ m < 2 ^ m := Nat.mod_lt _ (Nat.two_pow_pos m)
  have h3 : y.toBitVec.toNat % 2 ^ m < 2 ^ 32 := by omega
  have h4 : 2 ^ m - 1 < 2 ^ 32 := by omega
  rw [BitVec.toNat_and, BitVec.toNat_ofNat, BitVec.toNat_ofNat, Nat.mod_eq_of_lt h4, Nat.and_two_pow_sub_one_eq_mod, Nat.mod_eq_of_lt h3]
theorem fn_k (w : Int64) : ∃ k, k < 1024 ∧ fnF w = nI k := by
  rw [← dc_fn]; exact msk _ 10 (by omega) (M := 1023) (by decide)
theorem ra_k (w : Int64) : ∃ k, k < 128 ∧ raF w = nI k := by
  rw [← dc_ra]; exact msk _ 7 (by omega) (M := 127) (by decide)
theorem rm_k (w : Int64) : ∃ k, k < 128 ∧ rmG w = nI k := by
  rw [← dc_rm]; exact msk _ 7 (by omega) (M := 127) (by decide)
/-! the class: the printer, decoding, orders with a word -/
section Cls10
variable {g : Nat → Nat → Nat} {s : Sg} {X : Sg × Option Av} {nf : Nat}
theorem c_printNext (h : LC s nf) {o c2 f2 : Nat} {pc pf : Nat → Nat} (ho : OC s o) (h2 : RO s 2 c2 f2) (hp : ∀ j, j < 4 → RO s (4 + 2 * j) (pc j) (pf j)) (hn : ∀ j, j < 4 → ¬ gI s 3 9 j < 0) : Rn g 56 0 [some (.inr (.inr (some (7, 0)))), none, none] [] s X ↔ X = (pnF s c2 f2 pc pf 0 o, none) := by
  have r := c_printNext_l (g := g) (X := X) h ho h2 hp hn o 0 none (by omega)
  rw [nI_0] at r
  simp only [e56_0, e56_1, MK]
  exact r
def decF (s : Sg) (w : Int64) : Sg := sI (sI (sI (sI s 8 4 0 (fnF w)) 8 5 0 (raF w)) 8 6 0 (rmG w)) 8 7 0 (hf w)
theorem c_decode (h : LC s nf) {w : Int64} : Rn g 59 0 [some (.inr (.inr (some (8, 0)))), some (.inr (.inl w)), none] [] s X ↔ X = (decF s w, none) := by
  have r := fun s X => c_cutToHalf (g := g) (X := X) (s := s) (v := w)
  simp only [Q59, MM, MK, h, r, dc_fn, dc_ra, dc_rm, Nat.zero_lt_one, exists_eq_left, List.nil_append, List.cons_append]
  rfl
theorem c_hasOperand (h : LC s nf) {F : Int32} (hF : gI s 8 4 0 = F) : Rn g 62 0 [some (.inr (.inr (some (8, 0))))] [] s X ↔ X = (s, some (.inl (stB F))) := by
  by_cases f65 : F = 65
  · subst f65; simp [Q62, MM, MK, h, hF, show stB 65 = 1 by decide]
  by_cases f66 : F = 66
  · subst f66; simp [Q62, MM, MK, h, hF, show stB 66 = 1 by decide]
  by_cases f68 : F = 68
  · subst f68; simp [Q62, MM, MK, h, hF, show stB 68 = 1 by decide]
  by_cases f70 : F = 70
  · subst f70; simp [Q62, MM, MK, h, hF, show stB 70 = 1 by decide]
  by_cases f71 : F = 71
  · subst f71; simp [Q62, MM, MK, h, hF, show stB 71 = 1 by decide]
  by_cases f75 : F = 75
  · subst f75; simp [Q62, MM, MK, h, hF, show stB 75 = 1 by decide]
  by_cases f76 : F = 76
  · subst f76; simp [Q62, MM, MK, h, hF, show stB 76 = 1 by decide]
  by_cases f106 : F = 106
  · subst f106; simp [Q62, MM, MK, h, hF, show stB 106 = 1 by decide]
  by_cases f208 : F = 208
  · subst f208; simp [Q62, MM, MK, h, hF, show stB 208 = 1 by decide]
  by_cases f209 : F = 209
  · subst f209; simp [Q62, MM, MK, h, hF, show stB 209 = 1 by decide]
  by_cases f210 : F = 210
  · subst f210; simp [Q62, MM, MK, h, hF, show stB 210 = 1 by decide]
  by_cases f212 : F = 212
  · subst f212; simp [Q62, MM, MK, h, hF, show stB 212 = 1 by decide]
  by_cases f213 : F = 213
  · subst f213; simp [Q62, MM, MK, h, hF, show stB 213 = 1 by decide]
  by_cases f230 : F = 230
  · subst f230; simp [Q62, MM, MK, h, hF, show stB 230 = 1 by decide]
  by_cases f238 : F = 238
  · subst f238; simp [Q62, MM, MK, h, hF, show stB 238 = 1 by decide]
  by_cases f242 : F = 242
  · subst f242; simp [Q62, MM, MK, h, hF, show stB 242 = 1 by decide]
  by_cases f252 : F = 252
  · subst f252; simp [Q62, MM, MK, h, hF, show stB 252 = 1 by decide]
  have e0 : stB F = 0 := by simp [stB, stP, f65, f66, f68, f70, f71, f75, f76, f106, f208, f209, f210, f212, f213, f230, f238, f242, f252]
  simp [Q62, MM, MK, h, hF, e0, f65, f66, f68, f70, f71, f75, f76, f106, f208, f209, f210, f212, f213, f230, f238, f242, f252]
def rwF (s : Sg) (j : Nat) (F : Int32) (a k e : Nat) : Sg × Int32 :=
  let w := gJ s 16 e k
  let b := (gI s 15 a j).toInt64
  if F = 65 then (sBF s j a w, 0) else if F = 66 then (sBF s j a (b - w), 0) else if F = 68 then (sBF s j a (b + w), 0) else if F = 70 then (sBF s j a (b ^^^ w), 0) else if F = 71 then (sBF s j a (b &&& w), 0) else if F = 75 then (sJ s 16 e k b, 0) else if F = 76 then (sJ s 16 e k (wh (w + b)), 0) else if F = 106 then (sI s 3 7 j (sgF (b - w)), 0) else (s, 1)
theorem c_registerWithWord (h : LC s nf) {j a m k e : Nat} {F N : Int32} (hp : PR s j F a m N) (hj : j < 4) (ha : a < 128) (hk : k < 64) (he : e < 512) (hw : gP s 4 4 k = some k) (hc : k < cn s 16) : Rn g 65 0 [some (.inr (.inr (some (8, 0)))), some (.inr (.inr (some (4, k)))), some (.inl (nI e)), none, none, none, none] [] s X ↔ X = ((rwF s j F a k e).1, some (.inl (rwF s j F a k e).2)) := by
  have r1 := fun X => c_wordAt (g := g) (X := X) h hk he hw hc
  have r2 := fun X => c_getBn (g := g) (X := X) h hj ha
  have r3 := fun v X => c_putB (g := g) (X := X) (v := v) h hj ha
  have r4 := fun v X => c_signOf (g := g) (s := s) (X := X) (v := v)
  have r5 := fun v X => c_putWord (g := g) (X := X) (v := v) h hk he hw hc
  have r6 := fun v X => c_cutToWord (g := g) (s := s) (X := X) (v := v)
  unfold rwF
  dsimp only
  by_cases f65 : F = 65
  · subst f65; simp [Q65, MM, MK, h, hp, hj, hk, r1, r2, r3, r4, r5, r6]
  by_cases f66 : F = 66
  · subst f66; simp [Q65, MM, MK, h, hp, hj, hk, r1, r2, r3, r4, r5, r6]
  by_cases f68 : F = 68
  · subst f68; simp [Q65, MM, MK, h, hp, hj, hk, r1, r2, r3, r4, r5, r6]
  by_cases f70 : F = 70
  · subst f70; simp [Q65, MM, MK, h, hp, hj, hk, r1, r2, r3, r4, r5, r6]
  by_cases f71 : F = 71
  · subst f71; simp [Q65, MM, MK, h, hp, hj, hk, r1, r2, r3, r4, r5, r6]
  by_cases f75 : F = 75
  · subst f75; simp [Q65, MM, MK, h, hp, hj, hk, r1, r2, r3, r4, r5, r6]
  by_cases f76 : F = 76
  · subst f76; simp [Q65, MM, MK, h, hp, hj, hk, r1, r2, r3, r4, r5, r6]
  by_cases f106 : F = 106
  · subst f106; simp [Q65, MM, MK, h, hp, hj, hk, r1, r2, r3, r4, r5, r6]
  simp [Q65, MM, MK, h, hp, hj, hk, r1, r2, f65, f66, f68, f70, f71, f75, f76, f106]
def awF (s : Sg) (j : Nat) (F : Int32) (k e : Nat) : Sg × Int32 :=
  let w := gJ s 16 e k
  let v := gJ s 3 10 j
  if F = 208 then (sJ s 3 10 j (wh (v + w)), 0) else if F = 209 then (sJ s 3 10 j (wh (v - w)), 0) else if F = 210 then (sJ s 3 10 j (wh (w - v)), 0) else if F = 212 then (sJ s 3 10 j w, 0) else if F = 213 then (sJ s 3 10 j (wh (-w)), 0) else if F = 230 then (sJ (sJ s 16 e k v) 3 10 j 0, 0) else if F = 238 then (sJ s 16 e k v, 0) else if F = 242 then (sJ s 3 10 j (wh (v * w)), 0) else if F = 252 then (if w = 0 then (s, 5) else (sJ s 3 10 j (wh (v / w)), 0)) else (s, 1)
theorem c_accumulatorWithWord (h : LC s nf) {j a m k e : Nat} {F N : Int32} (hp : PR s j F a m N) (hj : j < 4) (hk : k < 64) (he : e < 512) (hw : gP s 4 4 k = some k) (hc : k < cn s 16) : Rn g 66 0 [some (.inr (.inr (some (8, 0)))), some (.inr (.inr (some (4, k)))), some (.inl (nI e)), none, none, none, none] [] s X ↔ X = ((awF s j F k e).1, some (.inl (awF s j F k e).2)) := by
  have r1 := fun X => c_wordAt (g := g) (X := X) h hk he hw hc
  have r5 := fun v X => c_putWord (g := g) (X := X) (v := v) h hk he hw hc
  have r6 := fun v X => c_cutToWord (g := g) (s := s) (X := X) (v := v)
  unfold awF
  dsimp only
  by_cases f208 : F = 208
  · subst f208; simp [Q66, MM, MK, h, hp, hj, hk, r1, r5, r6]
  by_cases f209 : F = 209
  · subst f209; simp [Q66, MM, MK, h, hp, hj, hk, r1, r5, r6]
  by_cases f210 : F = 210
  · subst f210; simp [Q66, MM, MK, h, hp, hj, hk, r1, r5, r6]
  by_cases f212 : F = 212
  · subst f212; simp [Q66, MM, MK, h, hp, hj, hk, r1, r5, r6]
  by_cases f213 : F = 213
  · subst f213; simp [Q66, MM, MK, h, hp, hj, hk, r1, r5, r6]
  by_cases f230 : F = 230
  · subst f230; simp [Q66, MM, MK, h, hp, hj, hk, r1, r5, r6]
  by_cases f238 : F = 238
  · subst f238; simp [Q66, MM, MK, h, hp, hj, hk, r1, r5, r6]
  by_cases f242 : F = 242
  · subst f242; simp [Q66, MM, MK, h, hp, hj, hk, r1, r5, r6]
  by_cases f252 : F = 252
  · subst f252
    by_cases z0 : gJ s 16 e k = 0
    · simp [Q66, NC, MM, MK, h, hp, hj, hk, r1, r5, r6, z0]
    · simp [Q66, NC, MM, MK, h, hp, hj, hk, r1, r5, r6, z0]
  simp [Q66, MM, MK, h, hp, hj, hk, r1, f252, f208, f209, f210, f212, f213, f230, f238, f242]
end Cls10
