/-! the reference: one instruction, in pieces -/
theorem adr_in {c : Int32} : ((0 : Int64) ≤ c.toInt64 ∧ c.toInt64 ≤ 1048575) = ¬ (c < 0 ∨ ¬ c < 1048576) := by
  apply propext
  rw [i64_le_i, i64_le_i, t64, show (0 : Int64).toInt = 0 by decide, show (1048575 : Int64).toInt = 1048575 by decide, Int32.lt_iff_toInt_lt, Int32.lt_iff_toInt_lt, show (0 : Int32).toInt = 0 by decide, show (1048576 : Int32).toInt = 1048576 by decide]
  omega
theorem adr_ex {c : Int32} (h : ¬ (c < 0 ∨ ¬ c < 1048576)) : ∃ A, A < 1048576 ∧ c = nI A := by
  rw [Int32.lt_iff_toInt_lt, Int32.lt_iff_toInt_lt, show (0 : Int32).toInt = 0 by decide, show (1048576 : Int32).toInt = 1048576 by decide] at h
  refine ⟨c.toInt.toNat, by omega, ?_⟩
  rw [← Int32.toInt_inj, nI_toInt (by omega)]
  omega
theorem adr_ok {A : Nat} (h : A < 1048576) : ¬ (nI A < 0 ∨ ¬ nI A < 1048576) := by
  have h1 : ¬ nI A < 0 := nI_pos (by omega)
  have h2 : nI A < (1048576 : Int32) := nI_lt (b := 1048576) h (by decide)
  rintro (q | q)
  · exact h1 q
  · exact q h2
section Wor1
variable {g : Nat → Nat → Nat} {t u : Sg} {X : Sg × Option Av} {nf j : Nat} {n : Int32}
theorem r_in_ok {A : Nat} (hA : A < 1048576) : Rn g 122 0 [some (.inr (.inl (nI A).toInt64)), none, some (.inr (.inl 0)), none, some (.inr (.inl 1048575)), none] [] t X ↔ X = (t, some (.inl 1)) := by
  rw [r_in, if_pos (by rw [adr_in]; exact adr_ok hA)]
theorem r_in_bad {c : Int32} (hA : c < 0 ∨ ¬ c < 1048576) : Rn g 122 0 [some (.inr (.inl c.toInt64)), none, some (.inr (.inl 0)), none, some (.inr (.inl 1048575)), none] [] t X ↔ X = (t, some (.inl 0)) := by
  rw [r_in, if_neg (by rw [adr_in]; exact not_not_intro hA)]
theorem r_w0_time (h : LR t nf) (hj : j < 4) (hd : gI t 24 j 0 = gI t 26 j 0) (hl : ∀ X, Rn g 150 0 [some (.inr (.inr (some (11, 0)))), some (.inl (nI j)), some (.inl 7), some (.inl n)] [] t X ↔ X = (u, some (.inl 0))) : Rn g 157 0 [some (.inr (.inr (some (11, 0)))), some (.inl (nI j)), some (.inl n), none, none, none, none, none, none, none, none, none] [] t X ↔ X = (u, some (.inl 0)) := by
  simp [e157_0, e157_1, e157_4, e157_5, e157_6, e157_7, e157_10, e157_11, e157_12, e157_15, e157_16, e157_17, e157_19, e157_20, e157_23, MM, MK, h, inN hj, hd, hl]
theorem r_w0_addr (h : LR t nf) (hj : j < 4) (hd : ¬ gI t 24 j 0 = gI t 26 j 0) (hA : gI t 33 (128 * j + 127) 0 < 0 ∨ ¬ gI t 33 (128 * j + 127) 0 < 1048576) (hl : ∀ X, Rn g 150 0 [some (.inr (.inr (some (11, 0)))), some (.inl (nI j)), some (.inl 2), some (.inl n)] [] t X ↔ X = (u, some (.inl 0))) : Rn g 157 0 [some (.inr (.inr (some (11, 0)))), some (.inl (nI j)), some (.inl n), none, none, none, none, none, none, none, none, none] [] t X ↔ X = (u, some (.inl 0)) := by
  have r1 := fun X => r_reg (g := g) (X := X) h hj (show 127 < 128 by omega)
  rw [show nI 127 = 127 from rfl] at r1
  have r2 := fun X => r_in_bad (g := g) (t := t) (X := X) hA
  simp [e157_0, e157_1, e157_4, e157_5, e157_6, e157_7, e157_10, e157_11, e157_12, e157_24, e157_25, e157_26, e157_28, e157_31, e157_32, e157_33, e157_34, e157_35, e157_38, e157_41, e157_44, e157_45, e157_46, e157_47, e157_48, e157_51, MM, MK, h, inN hj, hd, r1, r2, hl]
theorem r_w0_miss (h : LR t nf) (hj : j < 4) {A : Nat} (hd : ¬ gI t 24 j 0 = gI t 26 j 0) (hA : gI t 33 (128 * j + 127) 0 = nI A) (hA2 : A < 1048576) (hl : ∀ X, Rn g 152 0 [some (.inr (.inr (some (11, 0)))), some (.inl (nI j)), some (.inl (nI A)), some (.inl n), none, none] [] t X ↔ X = (u, some (.inl 1))) : Rn g 157 0 [some (.inr (.inr (some (11, 0)))), some (.inl (nI j)), some (.inl n), none, none, none, none, none, none, none, none, none] [] t X ↔ X = (u, some (.inl 0)) := by
  have r1 := fun X => r_reg (g := g) (X := X) h hj (show 127 < 128 by omega)
  rw [show nI 127 = 127 from rfl] at r1
  have r2 := fun X => r_in_ok (g := g) (t := t) (X := X) hA2
  simp [e157_0, e157_1, e157_4, e157_5, e157_6, e157_7, e157_10, e157_11, e157_12, e157_24, e157_25, e157_26, e157_28, e157_31, e157_32, e157_33, e157_34, e157_35, e157_38, e157_41, e157_52, e157_53, e157_54, e157_55, e157_56, e157_59, e157_60, e157_63, e157_64, MM, MK, h, inN hj, hd, r1, r2, hA, hl]
theorem r_w0_hit (h : LR t nf) (hj : j < 4) {A : Nat} (hd : ¬ gI t 24 j 0 = gI t 26 j 0) (hA : gI t 33 (128 * j + 127) 0 = nI A) (hA2 : A < 1048576) (hl : ∀ X, Rn g 152 0 [some (.inr (.inr (some (11, 0)))), some (.inl (nI j)), some (.inl (nI A)), some (.inl n), none, none] [] t X ↔ X = (t, some (.inl 0))) : Rn g 157 0 [some (.inr (.inr (some (11, 0)))), some (.inl (nI j)), some (.inl n), none, none, none, none, none, none, none, none, none] [] t X ↔ Rn g 157 65 [some (.inr (.inr (some (11, 0)))), some (.inl (nI j)), some (.inl n), some (.inl (nI A)), none, none, none, none, none, none, none, none] [] t X := by
  have r1 := fun X => r_reg (g := g) (X := X) h hj (show 127 < 128 by omega)
  rw [show nI 127 = 127 from rfl] at r1
  have r2 := fun X => r_in_ok (g := g) (t := t) (X := X) hA2
  simp [e157_0, e157_1, e157_4, e157_5, e157_6, e157_7, e157_10, e157_11, e157_12, e157_24, e157_25, e157_26, e157_28, e157_31, e157_32, e157_33, e157_34, e157_35, e157_38, e157_41, e157_52, e157_53, e157_54, e157_55, e157_56, e157_59, e157_60, e157_63, e157_64, MM, MK, h, inN hj, hd, r1, r2, hA, hl]
/-- the word is decoded -/
theorem r_w1 (h : LR t nf) {A : Nat} (hA2 : A < 1048576) {w : Int64} (hw : atF t (nI j) A = w) : Rn g 157 65 [some (.inr (.inr (some (11, 0)))), some (.inl (nI j)), some (.inl n), some (.inl (nI A)), none, none, none, none, none, none, none, none] [] t X ↔ Rn g 157 116 [some (.inr (.inr (some (11, 0)))), some (.inl (nI j)), some (.inl n), some (.inl (nI A)), some (.inr (.inl w)), none, some (.inl (fnF w)), some (.inl (raF w)), some (.inl (rmG w)), some (.inl (hf w)), none, none] [] t X := by
  have r1 := fun X => r_at (g := g) (X := X) (j := nI j) h hA2
  rw [hw] at r1
  have r2 := fun X => r_half (g := g) (t := t) (X := X) (x := w)
  have e1 : (w >>> ((38 : Int32).toInt64 &&& 63) &&& 1023).toInt32 = fnF w := rfl
  have e2 : (w >>> ((31 : Int32).toInt64 &&& 63) &&& 127).toInt32 = raF w := rfl
  have e3 : (w >>> ((24 : Int32).toInt64 &&& 63) &&& 127).toInt32 = rmG w := rfl
  simp only [e157_65, e157_66, e157_67, e157_68, e157_71, e157_73, e157_75, e157_77, e157_78, e157_81, e157_82, e157_83, e157_85, e157_87, e157_89, e157_90, e157_93, e157_94, e157_95, e157_97, e157_99, e157_101, e157_102, e157_105, e157_106, e157_107, e157_109, e157_111, e157_114, MM, MK, h, r1, r2, e1, e2, e3, Nat.zero_lt_one, exists_eq_left, List.nil_append, List.cons_append, List.append_nil]
theorem r_w1_no (h : LR t nf) {F : Int32} {z3 z4 z5 z7 z8 z9 z10 z11 : Option Av} (hk : knB F = 0) (hl : ∀ X, Rn g 150 0 [some (.inr (.inr (some (11, 0)))), some (.inl (nI j)), some (.inl 1), some (.inl n)] [] t X ↔ X = (u, some (.inl 0))) : Rn g 157 116 [some (.inr (.inr (some (11, 0)))), some (.inl (nI j)), some (.inl n), z3, z4, z5, some (.inl F), z7, z8, z9, z10, z11] [] t X ↔ X = (u, some (.inl 0)) := by
  have r1 := fun X => r_isKnown (g := g) (t := t) (X := X) (f := F)
  simp [e157_116, e157_118, e157_121, e157_124, e157_125, e157_126, e157_127, e157_128, e157_131, MM, MK, h, r1, hk, hl]
/-- the reference's s -/
def seF (t : Sg) (j : Nat) (F : Int32) (a m : Nat) (N : Int32) : Int32 := hf (N.toInt64 + (gI t 33 (128 * j + m) 0).toInt64 + (if (192 : Int64) ≤ F.toInt64 ∧ F.toInt64 ≤ 255 then gI t 33 (128 * j + a) 0 else 0).toInt64)
theorem r_w2 (h : LR t nf) (hj : j < 4) {A a m : Nat} {F N : Int32} {z4 z5 : Option Av} (ha : a < 128) (hm : m < 128) (hk : knB F = 1) : Rn g 157 116 [some (.inr (.inr (some (11, 0)))), some (.inl (nI j)), some (.inl n), some (.inl (nI A)), z4, z5, some (.inl F), some (.inl (nI a)), some (.inl (nI m)), some (.inl N), none, none] [] t X ↔ Rn g 157 197 [some (.inr (.inr (some (11, 0)))), some (.inl (nI j)), some (.inl n), some (.inl (nI A)), z4, z5, some (.inl F), some (.inl (nI a)), some (.inl (nI m)), some (.inl N), some (.inl (seF (sI t 33 (128 * j + 127) 0 (hf ((nI A).toInt64 + 1))) j F a m N)), none] [] (sI t 33 (128 * j + 127) 0 (hf ((nI A).toInt64 + 1))) X := by
  have r1 := fun X => r_isKnown (g := g) (t := t) (X := X) (f := F)
  have r2 := fun x X => r_half (g := g) (t := t) (X := X) (x := x)
  have h1 : LR (sI t 33 (128 * j + 127) 0 (hf ((nI A).toInt64 + 1))) nf := LR_sI (by omega) h
  have r3 := fun x X => r_half (g := g) (t := sI t 33 (128 * j + 127) 0 (hf ((nI A).toInt64 + 1))) (X := X) (x := x)
  have r4 := fun X => r_reg (g := g) (X := X) h1 hj hm
  have r5 := fun X => r_reg (g := g) (X := X) h1 hj ha
  have r6 := fun (a b d : Int64) X => r_in (g := g) (t := sI t 33 (128 * j + 127) 0 (hf ((nI A).toInt64 + 1))) (X := X) (a := a) (b := b) (d := d)
  have h127 := inN (show 128 * j + 127 < 512 by omega) (by omega)
  have e127 : nI (128 * j) + 127 = nI (128 * j + 127) := nI_add (128 * j) 127
  unfold seF
  by_cases c : (192 : Int64) ≤ F.toInt64 ∧ F.toInt64 ≤ 255
  · simp only [e157_116, e157_118, e157_121, e157_132, e157_133, e157_136, e157_139, e157_140, e157_141, e157_143, e157_144, e157_145, e157_146, e157_147, e157_148, e157_151, e157_152, e157_154, e157_155, e157_156, e157_157, e157_159, e157_162, e157_163, e157_164, e157_166, e157_167, e157_170, e157_173, e157_176, e157_179, e157_180, e157_181, e157_183, e157_186, e157_189, e157_190, e157_191, e157_192, e157_195, MM, MK, h, h1, inN hj (show 4 ≤ 65536 by decide), h127, e127, t128, r1, r2, r3, r4, r5, r6, hk, c, and_self, if_true, if_false, Nat.zero_lt_one, exists_eq_left, List.nil_append, List.cons_append, List.append_nil, show ¬ (1 : Int32) = 0 by decide]
  · simp only [e157_116, e157_118, e157_121, e157_132, e157_133, e157_136, e157_139, e157_140, e157_141, e157_143, e157_144, e157_145, e157_146, e157_147, e157_148, e157_151, e157_152, e157_154, e157_155, e157_156, e157_157, e157_159, e157_162, e157_163, e157_164, e157_166, e157_167, e157_170, e157_173, e157_176, e157_179, e157_180, e157_181, e157_183, e157_186, e157_189, e157_190, e157_191, e157_192, e157_195, MM, MK, h, h1, inN hj (show 4 ≤ 65536 by decide), h127, e127, t128, r1, r2, r3, r4, r5, r6, hk, c, if_true, if_false, Nat.zero_lt_one, exists_eq_left, List.nil_append, List.cons_append, List.append_nil, show ¬ (1 : Int32) = 0 by decide]
end Wor1
