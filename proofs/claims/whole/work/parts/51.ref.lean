/-! the reference: jumps and extracodes -/
section Ref9
variable {g : Nat → Nat → Nat} {t : Sg} {X : Sg × Option Av} {nf : Nat}
theorem LR_setF {j k : Nat} {v : Int64} (h : LR t nf) : LR (setF t j k v) nf := LR_if h (LR_sI (by omega) h)
/-- the kind of condition of a jump, its number and what it tests -/
def jmpF (t : Sg) (j : Nat) (f : Int32) (a m : Nat) (num s : Int32) : Sg :=
  let v := gI t 33 (128 * j + m) 0
  if f = 128 then (if v = 0 then t else setF (setF t j m (v.toInt64 + 1)) j a num.toInt64)
  else if f = 131 then (if v = 0 then t else setF (setF t j m (v.toInt64 - 1)) j a num.toInt64)
  else if f = 140 then (if isF 0 v.toInt64 = true then setF t j a num.toInt64 else t)
  else if f = 141 then (if isF 1 v.toInt64 = true then setF t j a num.toInt64 else t)
  else if f = 142 then (if isF 2 v.toInt64 = true then setF t j a num.toInt64 else t)
  else if f = 143 then (if isF 3 v.toInt64 = true then setF t j a num.toInt64 else t)
  else if f = 148 then (if isF 0 (gI t 28 j 0).toInt64 = true then setF t j a s.toInt64 else t)
  else if f = 149 then (if isF 1 (gI t 28 j 0).toInt64 = true then setF t j a s.toInt64 else t)
  else if f = 150 then (if isF 2 (gI t 28 j 0).toInt64 = true then setF t j a s.toInt64 else t)
  else if f = 151 then (if isF 3 (gI t 28 j 0).toInt64 = true then setF t j a s.toInt64 else t)
  else if f = 156 then (if isF 0 (gJ t 34 j 0) = true then setF t j a s.toInt64 else t)
  else if f = 157 then (if isF 1 (gJ t 34 j 0) = true then setF t j a s.toInt64 else t)
  else if f = 158 then (if isF 2 (gJ t 34 j 0) = true then setF t j a s.toInt64 else t)
  else if f = 159 then (if isF 3 (gJ t 34 j 0) = true then setF t j a s.toInt64 else t)
  else t
abbrev jmP (f : Int32) : Prop := f = 128 ∨ f = 131 ∨ f = 140 ∨ f = 141 ∨ f = 142 ∨ f = 143 ∨ f = 148 ∨ f = 149 ∨ f = 150 ∨ f = 151 ∨ f = 156 ∨ f = 157 ∨ f = 158 ∨ f = 159
theorem r_jumps (h : LR t nf) {j a m : Nat} {f num s : Int32} (hj : j < 4) (ha : a < 128) (hm : m < 128) (hf : jmP f) : Rn g 163 0 [some (.inr (.inr (some (11, 0)))), some (.inl (nI j)), some (.inl f), some (.inl (nI a)), some (.inl (nI m)), some (.inl num), some (.inl s), none, none] [] t X ↔ X = (jmpF t j f a m num s, none) := by
  have hr := fun X => r_reg (g := g) (X := X) h hj hm
  have hse := fun v X => r_sets (g := g) (X := X) (v := v) h hj ha
  have hsm := fun v X => r_sets (g := g) (X := X) (v := v) h hj hm
  have hs2 := fun w v X => r_sets (g := g) (X := X) (v := v) (LR_setF (j := j) (k := m) (v := w) h) hj ha
  have i0 := fun v X => r_is (g := g) (t := t) (X := X) (k := 0) (v := v) (by omega)
  have i1 := fun v X => r_is (g := g) (t := t) (X := X) (k := 1) (v := v) (by omega)
  have i2 := fun v X => r_is (g := g) (t := t) (X := X) (k := 2) (v := v) (by omega)
  have i3 := fun v X => r_is (g := g) (t := t) (X := X) (k := 3) (v := v) (by omega)
  rw [nI_0] at i0
  rw [show nI 1 = 1 from rfl] at i1
  rw [show nI 2 = 2 from rfl] at i2
  rw [show nI 3 = 3 from rfl] at i3
  rcases hf with rfl | rfl | rfl | rfl | rfl | rfl | rfl | rfl | rfl | rfl | rfl | rfl | rfl | rfl
  · by_cases c1 : gI t 33 (128 * j + m) 0 = 0 <;> simp [Q163, MM, MK, h, fun w => LR_setF (j := j) (k := m) (v := w) h, inN hj, hr, hsm, hs2, jmpF, c1]
  · by_cases c1 : gI t 33 (128 * j + m) 0 = 0 <;> simp [Q163, MM, MK, h, fun w => LR_setF (j := j) (k := m) (v := w) h, inN hj, hr, hsm, hs2, jmpF, c1]
  · by_cases c1 : isF 0 (gI t 33 (128 * j + m) 0).toInt64 = true <;> simp [Q163, MM, MK, h, inN hj, hr, hse, i0, i1, i2, i3, jmpF, c1, show ((140 : Int32) &&& 3) = 0 by decide, show ¬ (144 : Int32) ≤ 140 by decide]
  · by_cases c1 : isF 1 (gI t 33 (128 * j + m) 0).toInt64 = true <;> simp [Q163, MM, MK, h, inN hj, hr, hse, i0, i1, i2, i3, jmpF, c1, show ((141 : Int32) &&& 3) = 1 by decide, show ¬ (144 : Int32) ≤ 141 by decide]
  · by_cases c1 : isF 2 (gI t 33 (128 * j + m) 0).toInt64 = true <;> simp [Q163, MM, MK, h, inN hj, hr, hse, i0, i1, i2, i3, jmpF, c1, show ((142 : Int32) &&& 3) = 2 by decide, show ¬ (144 : Int32) ≤ 142 by decide]
  · by_cases c1 : isF 3 (gI t 33 (128 * j + m) 0).toInt64 = true <;> simp [Q163, MM, MK, h, inN hj, hr, hse, i0, i1, i2, i3, jmpF, c1, show ((143 : Int32) &&& 3) = 3 by decide, show ¬ (144 : Int32) ≤ 143 by decide]
  · by_cases c1 : isF 0 (gI t 28 j 0).toInt64 = true <;> simp [Q163, MM, MK, h, inN hj, hr, hse, i0, i1, i2, i3, jmpF, c1, show ((148 : Int32) &&& 3) = 0 by decide, show (144 : Int32) ≤ 148 by decide, show ¬ (152 : Int32) ≤ 148 by decide]
  · by_cases c1 : isF 1 (gI t 28 j 0).toInt64 = true <;> simp [Q163, MM, MK, h, inN hj, hr, hse, i0, i1, i2, i3, jmpF, c1, show ((149 : Int32) &&& 3) = 1 by decide, show (144 : Int32) ≤ 149 by decide, show ¬ (152 : Int32) ≤ 149 by decide]
  · by_cases c1 : isF 2 (gI t 28 j 0).toInt64 = true <;> simp [Q163, MM, MK, h, inN hj, hr, hse, i0, i1, i2, i3, jmpF, c1, show ((150 : Int32) &&& 3) = 2 by decide, show (144 : Int32) ≤ 150 by decide, show ¬ (152 : Int32) ≤ 150 by decide]
  · by_cases c1 : isF 3 (gI t 28 j 0).toInt64 = true <;> simp [Q163, MM, MK, h, inN hj, hr, hse, i0, i1, i2, i3, jmpF, c1, show ((151 : Int32) &&& 3) = 3 by decide, show (144 : Int32) ≤ 151 by decide, show ¬ (152 : Int32) ≤ 151 by decide]
  · by_cases c1 : isF 0 (gJ t 34 j 0) = true <;> simp [Q163, MM, MK, h, inN hj, hr, hse, i0, i1, i2, i3, jmpF, c1, show ((156 : Int32) &&& 3) = 0 by decide, show (144 : Int32) ≤ 156 by decide, show (152 : Int32) ≤ 156 by decide]
  · by_cases c1 : isF 1 (gJ t 34 j 0) = true <;> simp [Q163, MM, MK, h, inN hj, hr, hse, i0, i1, i2, i3, jmpF, c1, show ((157 : Int32) &&& 3) = 1 by decide, show (144 : Int32) ≤ 157 by decide, show (152 : Int32) ≤ 157 by decide]
  · by_cases c1 : isF 2 (gJ t 34 j 0) = true <;> simp [Q163, MM, MK, h, inN hj, hr, hse, i0, i1, i2, i3, jmpF, c1, show ((158 : Int32) &&& 3) = 2 by decide, show (144 : Int32) ≤ 158 by decide, show (152 : Int32) ≤ 158 by decide]
  · by_cases c1 : isF 3 (gJ t 34 j 0) = true <;> simp [Q163, MM, MK, h, inN hj, hr, hse, i0, i1, i2, i3, jmpF, c1, show ((159 : Int32) &&& 3) = 3 by decide, show (144 : Int32) ≤ 159 by decide, show (152 : Int32) ≤ 159 by decide]
/-- the tape goes one place on -/
def tapF (j : Nat) : Sg → Nat → Nat → Sg
  | t, _, 0 => t
  | t, i, n + 1 => tapF j (sJ t 35 (500 * j + i) 0 (gJ t 35 (500 * j + i + 1) 0)) (i + 1) n
theorem r_extra_tape {j c : Nat} {a0 a1 a2 : Int32} (hj : j < 4) (hc : c < 500) : ∀ n i (t : Sg), LR t nf → gI t 30 j 0 = nI c → i + n = c → (Rn g 165 81 [some (.inr (.inr (some (11, 0)))), some (.inl (nI j)), some (.inl a0), some (.inl a1), some (.inl a2), some (.inl (nI i)), none, none, none, none] [] t X ↔ X = (tapF j t i n, none))
  | 0, i, t, h, hq, hi => by
    have h1 : nI c ≤ nI i := nI_le (by omega) (by omega)
    simp [e165_81, e165_83, e165_84, e165_87, e165_88, e165_89, e165_92, e165_93, e165_96, e165_99, e165_100, e165_101, e165_103, e165_104, e165_105, e165_108, e165_111, e165_112, e165_113, e165_115, e165_116, e165_117, e165_118, e165_119, n165_120, e165_126, e165_300, MM, MK, h, hq, inN hj, h1, tapF]
  | n + 1, i, t, h, hq, hi => by
    have h1 : ¬ nI c ≤ nI i := nI_ge (by omega) (by omega)
    have ih := r_extra_tape (a0 := a0) (a1 := a1) (a2 := a2) hj hc n (i + 1) (sJ t 35 (500 * j + i) 0 (gJ t 35 (500 * j + i + 1) 0)) (LR_sJ h) (by simp [MM, hq]) (by omega)
    simp [e165_81, e165_83, e165_84, e165_87, e165_88, e165_89, e165_92, e165_93, e165_96, e165_99, e165_100, e165_101, e165_103, e165_104, e165_105, e165_108, e165_111, e165_112, e165_113, e165_115, e165_116, e165_117, e165_118, e165_119, n165_120, e165_126, MM, MK, h, hq, inN hj, h1, t500, nI_add, nI_1, inN (show 500 * j + i < 2000 by omega), inN (show 500 * j + i + 1 < 2000 by omega), e165_123, ih, tapF]
/-- bits that are 1 -/
def bitF (w : Int64) : Nat → Nat → Int32 → Int32
  | _, 0, a => a
  | i, n + 1, a => bitF w (i + 1) n (a + (w >>> ((nI i).toInt64 &&& 63) &&& 1).toInt32)
theorem r_extra_bits (h : LR t nf) {j : Nat} {a0 a1 a2 : Int32} (hj : j < 4) : ∀ n i (a : Int32), i + n = 48 → (Rn g 165 171 [some (.inr (.inr (some (11, 0)))), some (.inl (nI j)), some (.inl a0), some (.inl a1), some (.inl a2), some (.inl a), some (.inl (nI i)), none, none, none] [] t X ↔ Rn g 165 201 [some (.inr (.inr (some (11, 0)))), some (.inl (nI j)), some (.inl a0), some (.inl a1), some (.inl a2), some (.inl (bitF (gJ t 34 j 0) i n a)), some (.inl (nI 48)), none, none, none] [] t X)
  | 0, i, a, hi => by
    obtain rfl : i = 48 := by omega
    have h1 : (48 : Int32) ≤ nI 48 := by decide
    simp only [e165_171, e165_173, e165_175, e165_178, e165_180, e165_181, e165_184, e165_185, e165_186, e165_188, e165_189, e165_190, e165_191, e165_192, e165_193, n165_195, MM, MK, h1, bitF, if_true]
  | n + 1, i, a, hi => by
    have h1 : ¬ (48 : Int32) ≤ nI i := nI_ge (b := 48) (by omega) (by decide)
    have ih := fun a => r_extra_bits h (a0 := a0) (a1 := a1) (a2 := a2) hj n (i + 1) a (by omega)
    simp [e165_171, e165_173, e165_175, e165_178, e165_180, e165_181, e165_184, e165_185, e165_186, e165_188, e165_189, e165_190, e165_191, e165_192, e165_193, n165_195, MM, MK, h, inN hj, h1, e165_198, nI_1, ih, bitF]
def btn (n : Nat) : Int64 := if n = 0 then 0 else lN (2 ^ (n - 1))
theorem btn_ok : ∀ n, n < 25 → btn (n + 1) >>> ((1 : Int32).toInt64 &&& 63) = btn n ∧ 0 < btn (n + 1) := by decide
def rooF (w : Int64) : Nat → Int64 → Int64
  | 0, r => r
  | n + 1, r => rooF w n (if w < (r + btn (n + 1)) * (r + btn (n + 1)) then r else r + btn (n + 1))
theorem r_extra_root (h : LR t nf) {j : Nat} {a0 a1 a2 : Int32} (hj : j < 4) : ∀ n (r : Int64), n ≤ 25 → (Rn g 165 248 [some (.inr (.inr (some (11, 0)))), some (.inl (nI j)), some (.inl a0), some (.inl a1), some (.inl a2), none, some (.inr (.inl r)), none, some (.inr (.inl (btn n))), none] [] t X ↔ X = (sJ t 34 j 0 (rooF (gJ t 34 j 0) n r), none))
  | 0, r, hn => by
    have h1 : btn 0 ≤ 0 := by decide
    simp [e165_248, e165_250, e165_251, e165_252, e165_255, e165_257, e165_259, e165_260, e165_262, e165_264, e165_265, e165_266, e165_267, e165_270, e165_271, e165_272, e165_273, e165_276, e165_278, e165_280, e165_281, e165_283, e165_285, e165_286, e165_287, e165_292, e165_293, e165_296, e165_297, e165_299, e165_300, MM, MK, h, inN hj, NC, h1, rooF]
  | n + 1, r, hn => by
    obtain ⟨e1, e2⟩ := btn_ok n (by omega)
    have h1 : ¬ btn (n + 1) ≤ 0 := by rw [i64_le]; exact not_not_intro e2
    have ih := fun r => r_extra_root h (a0 := a0) (a1 := a1) (a2 := a2) hj n r (by omega)
    by_cases c1 : gJ t 34 j 0 < (r + btn (n + 1)) * (r + btn (n + 1))
    · simp only [e165_248, e165_250, e165_251, e165_252, e165_255, e165_257, e165_259, e165_260, e165_262, e165_264, e165_265, e165_266, e165_267, e165_270, e165_271, e165_272, e165_273, e165_276, e165_278, e165_280, e165_281, e165_283, e165_285, e165_286, e165_287, MM, MK, h, inN hj (show 4 ≤ 65536 by decide), NC, h1, c1, if_true, if_false, Nat.zero_lt_one, rooF]
      rw [e165_289, e1, ih]
    · simp only [e165_248, e165_250, e165_251, e165_252, e165_255, e165_257, e165_259, e165_260, e165_262, e165_264, e165_265, e165_266, e165_267, e165_270, e165_271, e165_272, e165_273, e165_276, e165_278, e165_280, e165_281, e165_283, e165_285, e165_286, e165_287, MM, MK, h, inN hj (show 4 ≤ 65536 by decide), NC, h1, c1, if_true, if_false, Nat.zero_lt_one, rooF]
      rw [e165_289, e1, ih]
def extF (t : Sg) (nf j : Nat) (f : Int32) (a : Nat) (n : Int32) (c d o q : Nat) : Sg :=
  if f = 552 then tapF j (sI (sJ t 34 j 0 (gJ t 35 (500 * j) 0)) 30 j 0 (nI (c - 1))) 0 (c - 1)
  else if f = 566 then sI (sJ t 36 (200 * j + d) 0 (gJ t 34 j 0)) 31 j 0 (nI (d + 1))
  else if f = 580 then setF t j a (bitF (gJ t 34 j 0) 0 48 0).toInt64
  else if f = 591 then endF t nf j 3 n o q
  else if f = 593 then setF t j a (gI t 24 j 0).toInt64
  else sJ t 34 j 0 (rooF (gJ t 34 j 0) 25 0)
theorem r_extra (h : LR t nf) {j a c d o q : Nat} {f n : Int32} (hj : j < 4) (ha : a < 128) (hf : f = 552 ∨ f = 566 ∨ f = 580 ∨ f = 591 ∨ f = 593 ∨ f = 704) (hc : f = 552 → gI t 30 j 0 = nI c ∧ 0 < c ∧ c ≤ 500) (hd : f = 566 → gI t 31 j 0 = nI d ∧ d < 200) (he : f = 591 → gI t 11 19 0 = nI o ∧ o < 4 ∧ gI t 11 42 0 = nI q ∧ q ≤ 32 ∧ QI t nf ∧ MI t nf) : Rn g 165 0 [some (.inr (.inr (some (11, 0)))), some (.inl (nI j)), some (.inl f), some (.inl (nI a)), some (.inl n), none, none, none, none, none] [] t X ↔ X = (extF t nf j f a n c d o q, none) := by
  have hse := fun v X => r_sets (g := g) (X := X) (v := v) h hj ha
  rcases hf with rfl | rfl | rfl | rfl | rfl | rfl
  · obtain ⟨e1, e2, e3⟩ := hc rfl
    have hp : nI c - 1 = nI (c - 1) := nI_sub (b := 1) (by omega)
    have h' : LR (sI (sJ t 34 j 0 (gJ t 35 (500 * j) 0)) 30 j 0 (nI (c - 1))) nf := LR_sI (by omega) (LR_sJ h)
    have r := r_extra_tape (g := g) (X := X) (a0 := 552) (a1 := nI a) (a2 := n) hj (show c - 1 < 500 by omega) (c - 1) 0 _ h' (by simp [MM]) (by omega)
    rw [nI_0] at r
    simp [e165_0, e165_1, e165_52, e165_53, e165_56, e165_57, e165_58, e165_61, e165_64, e165_65, e165_66, e165_67, e165_68, e165_69, e165_72, e165_73, e165_74, e165_75, e165_76, e165_77, e165_78, e165_79, MM, MK, h, inN hj, t500, inN (show 500 * j < 2000 by omega), e1, hp, extF]
    exact r
  · obtain ⟨e1, e2⟩ := hd rfl
    simp [e165_0, e165_1, e165_129, e165_130, e165_133, e165_136, e165_137, e165_138, e165_139, e165_142, e165_143, e165_144, e165_145, e165_146, e165_149, e165_150, e165_151, e165_152, e165_153, e165_156, e165_157, e165_158, e165_159, e165_160, e165_161, e165_162, e165_300, MM, MK, h, inN hj, t200, nI_add, nI_1, inN (show 200 * j + d < 800 by omega), e1, extF]
  · have r := r_extra_bits (g := g) (X := X) h (a0 := 580) (a1 := nI a) (a2 := n) hj 48 0 0 rfl
    rw [nI_0] at r
    simp [e165_0, e165_1, e165_165, e165_166, e165_168, e165_169, MK]
    simp [r, e165_201, e165_202, e165_203, e165_204, e165_206, e165_207, e165_210, e165_300, MM, MK, h, hse, extF]
  · obtain ⟨e1, e2, e3, e4, e5, e6⟩ := he rfl
    have hen := fun X => r_ends (g := g) (X := X) (how := 3) (n := n) h hj e1 e2 e3 e4 e5 e6
    simp [e165_0, e165_1, e165_213, e165_214, e165_215, e165_216, e165_218, e165_221, e165_300, MM, MK, h, hen, extF]
  · simp [e165_0, e165_1, e165_224, e165_225, e165_226, e165_227, e165_228, e165_231, e165_232, e165_233, e165_234, e165_237, e165_300, MM, MK, h, inN hj, hse, extF]
  · have r := r_extra_root (g := g) (X := X) h (a0 := 704) (a1 := nI a) (a2 := n) hj 25 0 (by omega)
    rw [show btn 25 = 16777216 by decide] at r
    simp [e165_0, e165_1, e165_240, e165_241, e165_243, e165_246, MM, MK, h, extF]
    exact r
end Ref9
