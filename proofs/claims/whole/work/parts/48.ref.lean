/-! the reference: wanting a block, the printer, the choice -/
section Ref6
variable {g : Nat → Nat → Nat} {t : Sg} {X : Sg × Option Av} {nf : Nat}
theorem LR_nslF {j a : Nat} {b : Int32} (h : LR t nf) : LR (nslF t j b a) nf := LR_zerF a 512 0 _ (LR_sI (by omega) (LR_sI (by omega) (LR_sI (by omega) h)))
/-- the second half of wants: the block is one of the job's -/
def wn2 (t : Sg) (nf j : Nat) (b : Int32) : Sg × Int32 := match frmF t nf (nI j) b with
  | none => (sI (sI t 22 j 0 2) 25 j 0 b, 1)
  | some f => if gI t 42 f 0 = 1 then (t, 0) else (sI (sI t 22 j 0 2) 25 j 0 b, 1)
theorem r_wants_2 (h : LR t nf) {j : Nat} {b a n : Int32} (hj : j < 4) : Rn g 152 51 [some (.inr (.inr (some (11, 0)))), some (.inl (nI j)), some (.inl a), some (.inl n), some (.inl b), none] [] t X ↔ X = ((wn2 t nf j b).1, some (.inl (wn2 t nf j b).2)) := by
  have hr := fun X => r_frameOf (g := g) (X := X) h (nI j) b
  unfold wn2
  cases hf : frmF t nf (nI j) b with
  | none => simp [e152_51, e152_52, e152_53, e152_55, e152_58, e152_60, e152_62, e152_65, e152_66, e152_69, e152_71, e152_72, e152_73, e152_76, e152_77, e152_78, e152_79, e152_82, e152_83, e152_84, e152_85, e152_86, e152_89, e152_90, e152_92, e152_93, e152_94, MM, MK, h, hr, hf, oi_n, inN hj, show ((-1 : Int32) < 0) by decide]
  | some f =>
    have h16 : f < 16 := by have := (ff_some hf).2.1; have := h.1; omega
    have h1 : ¬ nI f < 0 := nI_pos (by omega)
    by_cases a1 : gI t 42 f 0 = 1
    · simp [e152_51, e152_52, e152_53, e152_55, e152_58, e152_60, e152_62, e152_65, e152_66, e152_69, e152_71, e152_72, e152_73, e152_76, e152_77, e152_78, e152_79, e152_82, e152_83, e152_84, e152_85, e152_86, e152_89, e152_90, e152_92, e152_93, e152_94, MM, MK, h, hr, hf, oi_s, inN hj, inN h16, h1, a1]
    · simp [e152_51, e152_52, e152_53, e152_55, e152_58, e152_60, e152_62, e152_65, e152_66, e152_69, e152_71, e152_72, e152_73, e152_76, e152_77, e152_78, e152_79, e152_82, e152_83, e152_84, e152_85, e152_86, e152_89, e152_90, e152_92, e152_93, e152_94, MM, MK, h, hr, hf, oi_s, inN hj, inN h16, h1, a1]
def wanF (t : Sg) (nf j : Nat) (b n : Int32) (o q s : Nat) : Sg × Int32 := match slotF t (nI j) b with
  | none => if gI t 41 j 0 < gI t 27 j 0 then wn2 (nslF t j b s) nf j b else (faiF t nf j 3 n o q, 1)
  | some _ => wn2 t nf j b
theorem r_wants (h : LR t nf) {j a o q s : Nat} {n : Int32} (hj : j < 4) (ha : a < 1048576) (ho : gI t 11 19 0 = nI o) (ho4 : o < 4) (hq : gI t 11 42 0 = nI q) (h32 : q ≤ 32) (hQ : QI t nf) (hM : MI t nf) (hs : slotF t (nI j) (nI (a / 512)) = none → gI t 41 j 0 < gI t 27 j 0 → ff (nslP t) 0 64 = some s) : Rn g 152 0 [some (.inr (.inr (some (11, 0)))), some (.inl (nI j)), some (.inl (nI a)), some (.inl n), none, none] [] t X ↔ X = ((wanF t nf j (nI (a / 512)) n o q s).1, some (.inl (wanF t nf j (nI (a / 512)) n o q s).2)) := by
  have hr := fun X => r_slot (g := g) (X := X) h (nI j) (nI (a / 512))
  have hd := d512 (show a < 2 ^ 31 by omega)
  unfold wanF
  cases hf : slotF t (nI j) (nI (a / 512)) with
  | some k =>
    have h1 : ¬ nI k = -1 := nI_nm (by have := (ff_some hf).2.1; omega)
    simp [e152_0, e152_1, e152_4, e152_5, e152_7, e152_8, e152_9, e152_11, e152_14, e152_15, e152_18, e152_19, e152_22, e152_23, e152_24, e152_25, e152_28, e152_29, e152_30, e152_33, e152_34, e152_35, e152_36, e152_37, e152_40, e152_41, e152_42, e152_43, e152_44, e152_45, e152_47, e152_50, MM, MK, h, hd, hr, hf, oi_s, h1]
    exact r_wants_2 h hj
  | none =>
    by_cases a1 : gI t 41 j 0 < gI t 27 j 0
    · have hn := fun X => r_newSlot (g := g) (X := X) h (b := nI (a / 512)) hj (hs hf a1)
      simp [e152_0, e152_1, e152_4, e152_5, e152_7, e152_8, e152_9, e152_11, e152_14, e152_15, e152_18, e152_19, e152_22, e152_23, e152_24, e152_25, e152_28, e152_29, e152_30, e152_33, e152_34, e152_35, e152_36, e152_37, e152_40, e152_41, e152_42, e152_43, e152_44, e152_45, e152_47, e152_50, MM, MK, h, hd, hr, hf, oi_n, inN hj, a1, i32_le, hn]
      exact r_wants_2 (t := nslF t j (nI (a / 512)) s) (b := nI (a / 512)) (LR_nslF h) hj
    · have hfl := fun X => r_fails (g := g) (X := X) h (num := 3) (n := n) hj ho ho4 hq h32 hQ hM
      simp [e152_0, e152_1, e152_4, e152_5, e152_7, e152_8, e152_9, e152_11, e152_14, e152_15, e152_18, e152_19, e152_22, e152_23, e152_24, e152_25, e152_28, e152_29, e152_30, e152_33, e152_34, e152_35, e152_36, e152_37, e152_40, e152_41, e152_42, e152_43, e152_44, e152_45, e152_47, e152_50, MM, MK, h, hd, hr, hf, oi_n, inN hj, a1, i32_le, hfl]
/-- the printer's word, from place i of the row of jobs that are over -/
def priF (t : Sg) : Nat → Nat → Sg
  | _, 0 => t
  | i, n + 1 => let j := (gI t 37 i 0).toNatClampNeg
    if gI t 32 j 0 = gI t 31 j 0 then priF t (i + 1) n else
      sI (sI (sJ t 54 ((gI t 11 46 0).toNatClampNeg % 400) 0 (gJ t 36 (200 * j + (gI t 32 j 0).toNatClampNeg) 0)) 11 46 0 (gI t 11 46 0 + 1)) 32 j 0 (gI t 32 j 0 + 1)
theorem r_prints_l (h : LR t nf) {o : Nat} (ho : gI t 11 19 0 = nI o) (ho4 : o ≤ 4) (hrow : ∀ k, k < o → ∃ j c d, j < 4 ∧ gI t 37 k 0 = nI j ∧ gI t 32 j 0 = nI c ∧ gI t 31 j 0 = nI d ∧ c ≤ d ∧ d ≤ 200) {p0 : Nat} (hp : gI t 11 46 0 = nI p0) (hp2 : p0 < 2 ^ 31) : ∀ n i (z : Option Av), i + n = o → (Rn g 149 2 [some (.inr (.inr (some (11, 0)))), some (.inl (nI i)), z] [] t X ↔ X = (priF t i n, none))
  | 0, i, z, hi => by
    have h1 : nI o ≤ nI i := nI_le (by omega) (by omega)
    simp [e149_2, e149_3, e149_4, e149_7, e149_10, e149_11, e149_14, e149_15, e149_16, e149_17, e149_18, e149_21, e149_22, e149_23, e149_24, e149_27, e149_28, e149_29, e149_32, e149_35, e149_36, e149_39, e149_40, e149_43, e149_46, e149_47, e149_48, e149_51, e149_54, e149_55, e149_56, e149_57, e149_60, e149_61, e149_62, e149_63, e149_64, e149_65, e149_66, e149_67, e149_70, e149_71, e149_72, e149_75, e149_76, e149_79, e149_80, e149_81, e149_82, e149_83, e149_84, e149_85, n149_86, e149_92, MM, MK, h, ho, h1, priF]
  | n + 1, i, z, hi => by
    have h1 : ¬ nI o ≤ nI i := nI_ge (by omega) (by omega)
    obtain ⟨j, c, d, hj, e1, e2, e3, hc, hd⟩ := hrow i (by omega)
    have ih := fun z => r_prints_l h ho ho4 hrow hp hp2 n (i + 1) z (by omega)
    have hcd : (nI c = nI d) = (c = d) := propext (nI_eq (by omega) (by omega))
    by_cases a1 : c = d
    · simp [e149_2, e149_3, e149_4, e149_7, e149_10, e149_11, e149_14, e149_15, e149_16, e149_17, e149_18, e149_21, e149_22, e149_23, e149_24, e149_27, e149_28, e149_29, e149_32, e149_35, e149_36, e149_39, e149_40, e149_43, e149_46, e149_47, e149_48, e149_51, e149_54, e149_55, e149_56, e149_57, e149_60, e149_61, e149_62, e149_63, e149_64, e149_65, e149_66, e149_67, e149_70, e149_71, e149_72, e149_75, e149_76, e149_79, e149_80, e149_81, e149_82, e149_83, e149_84, e149_85, n149_86, e149_92, MM, MK, h, ho, h1, inN (show i < 4 by omega), e1, e2, e3, inN hj, hcd, a1, e149_89, nI_1, ih, priF]
    · have hrm : nI p0 - nI p0 / 400 * 400 = nI (p0 % 400) := nI_rem (b := 400) hp2 (by decide)
      simp [e149_2, e149_3, e149_4, e149_7, e149_10, e149_11, e149_14, e149_15, e149_16, e149_17, e149_18, e149_21, e149_22, e149_23, e149_24, e149_27, e149_28, e149_29, e149_32, e149_35, e149_36, e149_39, e149_40, e149_43, e149_46, e149_47, e149_48, e149_51, e149_54, e149_55, e149_56, e149_57, e149_60, e149_61, e149_62, e149_63, e149_64, e149_65, e149_66, e149_67, e149_70, e149_71, e149_72, e149_75, e149_76, e149_79, e149_80, e149_81, e149_82, e149_83, e149_84, e149_85, n149_86, e149_92, MM, MK, h, ho, h1, inN (show i < 4 by omega), e1, e2, e3, inN hj, hcd, a1, priF, hp, hrm, t200, nI_add, inN (show 200 * j + c < 800 by omega), inN (show p0 % 400 < 400 by omega), nI_clamp hp2, nI_clamp (show c < 2 ^ 31 by omega)]
theorem r_prints (h : LR t nf) {o : Nat} (ho : gI t 11 19 0 = nI o) (ho4 : o ≤ 4) (hrow : ∀ k, k < o → ∃ j c d, j < 4 ∧ gI t 37 k 0 = nI j ∧ gI t 32 j 0 = nI c ∧ gI t 31 j 0 = nI d ∧ c ≤ d ∧ d ≤ 200) {p0 : Nat} (hp : gI t 11 46 0 = nI p0) (hp2 : p0 < 2 ^ 31) : Rn g 149 0 [some (.inr (.inr (some (11, 0)))), none, none] [] t X ↔ X = (priF t 0 o, none) := by
  have := r_prints_l (g := g) (X := X) h ho ho4 hrow hp hp2 o 0 none (by omega)
  rw [nI_0] at this
  simp only [e149_0, e149_1, MK]
  exact this
/-- are all that are in use fresh? -/
def afF (t : Sg) : Nat → Nat → Int32 → Int32
  | _, 0, a => a
  | i, n + 1, a => afF t (i + 1) n (if gI t 42 i 0 = 1 ∧ gI t 48 i 0 = 0 then 0 else a)
theorem r_choice_1 (h : LR t nf) {z1 z2 z3 z4 : Option Av} : ∀ n i (a : Int32), i + n = nf → (Rn g 147 4 [some (.inr (.inr (some (11, 0)))), some (.inl a), some (.inl (nI i)), z1, z2, z3, z4] [] t X ↔ Rn g 147 39 [some (.inr (.inr (some (11, 0)))), some (.inl (afF t i n a)), some (.inl (nI nf)), z1, z2, z3, z4] [] t X)
  | 0, i, a, hi => by
    obtain rfl : i = nf := by omega
    have h1 : nI i ≤ nI i := nI_le (by omega) (by have := h.1; omega)
    simp only [e147_4, e147_5, e147_6, e147_9, e147_12, e147_13, e147_16, e147_17, e147_18, e147_19, e147_22, e147_23, e147_26, e147_27, e147_28, e147_31, e147_32, n147_33, MM, MK, h, h1, afF, if_true, Nat.zero_lt_one]
  | n + 1, i, a, hi => by
    have h1 : ¬ nI nf ≤ nI i := nI_ge (by omega) (by have := h.1; omega)
    have ih := fun a => r_choice_1 h (z1 := z1) (z2 := z2) (z3 := z3) (z4 := z4) n (i + 1) a (by omega)
    by_cases a1 : gI t 42 i 0 = 1 <;> by_cases a2 : gI t 48 i 0 = 0 <;> simp [e147_4, e147_5, e147_6, e147_9, e147_12, e147_13, e147_16, e147_17, e147_18, e147_19, e147_22, e147_23, e147_26, e147_27, e147_28, e147_31, e147_32, n147_33, MM, MK, h, h1, inN (show i < 16 by have := h.1; omega), a1, a2, e147_36, nI_1, ih, afF]
/-- does frame f come into question by rule r? -/
abbrev cqP (t : Sg) (af : Int32) (r f : Nat) : Prop := gI t 42 f 0 = 1 ∧ ¬ (af = 0 ∧ gI t 48 f 0 = 1) ∧ (r = 0 → gI t 46 f 0 + 1 < gI t 45 f 0) ∧ (r = 1 → 0 < gI t 46 f 0)
def cwF (t : Sg) (r f : Nat) : Int32 := if r = 1 then gI t 46 f 0 - gI t 45 f 0 else gI t 45 f 0
def chF (t : Sg) (af : Int32) (r : Nat) : Nat → Nat → Int32 × Int32 → Int32 × Int32
  | _, 0, b => b
  | i, n + 1, b => chF t af r (i + 1) n (if cqP t af r i ∧ ¬ (¬ b.1 < 0 ∧ ¬ b.2 < cwF t r i) then (nI i, cwF t r i) else b)
theorem r_choice_2 (h : LR t nf) {af : Int32} {r : Nat} (hr : r < 3) {P : Int32 × Int32 → Prop} (hP : ∀ (b : Int32 × Int32) (z : Option Av), Rn g 147 192 [some (.inr (.inr (some (11, 0)))), some (.inl af), some (.inl (nI r)), some (.inl b.1), some (.inl b.2), some (.inl (nI nf)), z] [] t X ↔ P b) : ∀ n i (b : Int32 × Int32) (z : Option Av), i + n = nf → (Rn g 147 54 [some (.inr (.inr (some (11, 0)))), some (.inl af), some (.inl (nI r)), some (.inl b.1), some (.inl b.2), some (.inl (nI i)), z] [] t X ↔ P (chF t af r i n b))
  | 0, i, b, z, hi => by
    obtain rfl : i = nf := by omega
    have h1 : nI i ≤ nI i := nI_le (by omega) (by have := h.1; omega)
    simp only [e147_54, e147_56, e147_57, e147_60, e147_63, e147_64, e147_67, e147_69, e147_70, e147_71, e147_74, e147_75, e147_78, e147_79, e147_82, e147_84, e147_85, e147_86, e147_89, e147_92, e147_93, e147_96, e147_97, e147_100, e147_102, e147_103, e147_104, e147_107, e147_109, e147_110, e147_111, e147_112, e147_115, e147_116, e147_117, e147_120, e147_121, e147_124, e147_126, e147_127, e147_130, e147_133, e147_134, e147_135, e147_138, e147_139, e147_142, e147_144, e147_145, e147_146, e147_149, e147_151, e147_152, e147_153, e147_156, e147_157, e147_160, e147_162, e147_163, e147_165, e147_166, e147_169, e147_171, e147_173, e147_176, e147_179, e147_181, e147_182, e147_184, n147_186, MM, MK, h, h1, chF, if_true, Nat.zero_lt_one]
    exact hP b z
  | n + 1, i, b, z, hi => by
    have h1 : ¬ nI nf ≤ nI i := nI_ge (by omega) (by have := h.1; omega)
    have ih := fun b z => r_choice_2 h hr hP n (i + 1) b z (by omega)
    have i1 := fun z => ih b z
    have i2 := fun z => ih (nI i, cwF t r i) z
    dsimp only at i2
    have hi16 := inN (show i < 16 by have := h.1; omega) (by omega)
    have r3 : r = 0 ∨ r = 1 ∨ r = 2 := by omega
    rcases r3 with rfl | rfl | rfl
    · simp [cwF, nI_0] at i1 i2
      rcases Classical.propComplete (af = 0) with a2 | a2 <;> by_cases a1 : gI t 42 i 0 = 1 <;> by_cases a3 : gI t 48 i 0 = 1 <;> by_cases a4 : gI t 46 i 0 + 1 < gI t 45 i 0 <;> by_cases a5 : b.1 < 0 <;> by_cases a6 : b.2 < gI t 45 i 0 <;> simp [e147_54, e147_56, e147_57, e147_60, e147_63, e147_64, e147_67, e147_69, e147_70, e147_71, e147_74, e147_75, e147_78, e147_79, e147_82, e147_84, e147_85, e147_86, e147_89, e147_92, e147_93, e147_96, e147_97, e147_100, e147_102, e147_103, e147_104, e147_107, e147_109, e147_110, e147_111, e147_112, e147_115, e147_116, e147_117, e147_120, e147_121, e147_124, e147_126, e147_127, e147_130, e147_133, e147_134, e147_135, e147_138, e147_139, e147_142, e147_144, e147_145, e147_146, e147_149, e147_151, e147_152, e147_153, e147_156, e147_157, e147_160, e147_162, e147_163, e147_165, e147_166, e147_169, e147_171, e147_173, e147_176, e147_179, e147_181, e147_182, e147_184, n147_186, MM, MK, h, h1, hi16, a1, a2, a3, a4, a5, a6, e147_189, nI_0, nI_1, i1, i2, chF, cqP, cwF, i32_le (x := gI t 45 i 0) (y := gI t 46 i 0 + 1)]
    · simp [cwF, show nI 1 = 1 from rfl] at i1 i2
      rcases Classical.propComplete (af = 0) with a2 | a2 <;> by_cases a1 : gI t 42 i 0 = 1 <;> by_cases a3 : gI t 48 i 0 = 1 <;> by_cases a4 : 0 < gI t 46 i 0 <;> by_cases a5 : b.1 < 0 <;> by_cases a6 : b.2 < gI t 46 i 0 - gI t 45 i 0 <;> simp [e147_54, e147_56, e147_57, e147_60, e147_63, e147_64, e147_67, e147_69, e147_70, e147_71, e147_74, e147_75, e147_78, e147_79, e147_82, e147_84, e147_85, e147_86, e147_89, e147_92, e147_93, e147_96, e147_97, e147_100, e147_102, e147_103, e147_104, e147_107, e147_109, e147_110, e147_111, e147_112, e147_115, e147_116, e147_117, e147_120, e147_121, e147_124, e147_126, e147_127, e147_130, e147_133, e147_134, e147_135, e147_138, e147_139, e147_142, e147_144, e147_145, e147_146, e147_149, e147_151, e147_152, e147_153, e147_156, e147_157, e147_160, e147_162, e147_163, e147_165, e147_166, e147_169, e147_171, e147_173, e147_176, e147_179, e147_181, e147_182, e147_184, n147_186, MM, MK, h, h1, hi16, a1, a2, a3, a4, a5, a6, e147_189, show nI 1 = 1 from rfl, nI_1, i1, i2, chF, cqP, cwF]
    · simp [cwF, show nI 2 = 2 from rfl] at i1 i2
      rcases Classical.propComplete (af = 0) with a2 | a2 <;> by_cases a1 : gI t 42 i 0 = 1 <;> by_cases a3 : gI t 48 i 0 = 1 <;> by_cases a5 : b.1 < 0 <;> by_cases a6 : b.2 < gI t 45 i 0 <;> simp [e147_54, e147_56, e147_57, e147_60, e147_63, e147_64, e147_67, e147_69, e147_70, e147_71, e147_74, e147_75, e147_78, e147_79, e147_82, e147_84, e147_85, e147_86, e147_89, e147_92, e147_93, e147_96, e147_97, e147_100, e147_102, e147_103, e147_104, e147_107, e147_109, e147_110, e147_111, e147_112, e147_115, e147_116, e147_117, e147_120, e147_121, e147_124, e147_126, e147_127, e147_130, e147_133, e147_134, e147_135, e147_138, e147_139, e147_142, e147_144, e147_145, e147_146, e147_149, e147_151, e147_152, e147_153, e147_156, e147_157, e147_160, e147_162, e147_163, e147_165, e147_166, e147_169, e147_171, e147_173, e147_176, e147_179, e147_181, e147_182, e147_184, n147_186, MM, MK, h, h1, hi16, a1, a2, a3, a5, a6, e147_189, show nI 2 = 2 from rfl, nI_1, i1, i2, chF, cqP, cwF]
def choF (t : Sg) (nf : Nat) : Int32 :=
  let af := afF t 0 nf 1
  let b0 := (chF t af 0 0 nf (-1, 0)).1
  let b1 := (chF t af 1 0 nf (-1, 0)).1
  let b2 := (chF t af 2 0 nf (-1, 0)).1
  if b0 < 0 then (if b1 < 0 then (if b2 < 0 then -1 else b2) else b1) else b0
theorem r_choice (h : LR t nf) : Rn g 147 0 [some (.inr (.inr (some (11, 0)))), none, none, none, none, none, none] [] t X ↔ X = (t, some (.inl (choF t nf))) := by
  have r1 := r_choice_1 (g := g) (X := X) h (z1 := none) (z2 := none) (z3 := none) (z4 := none) nf 0 1 (by omega)
  rw [nI_0] at r1
  simp only [e147_0, e147_1, e147_2, e147_3, MK]
  rw [r1]
  unfold choF
  dsimp only
  generalize afF t 0 nf 1 = af
  have q3 : ∀ z3 z4 z5 z6 : Option Av, Rn g 147 41 [some (.inr (.inr (some (11, 0)))), some (.inl af), some (.inl (nI 3)), z3, z4, z5, z6] [] t X ↔ X = (t, some (.inl (-1))) := by
    intro z3 z4 z5 z6
    have h3 : (3 : Int32) ≤ nI 3 := by decide
    simp only [e147_41, e147_42, e147_43, e147_204, e147_205, MK, h3, if_true]
  have q2 : ∀ z3 z4 z5 z6 : Option Av, Rn g 147 41 [some (.inr (.inr (some (11, 0)))), some (.inl af), some (.inl (nI 2)), z3, z4, z5, z6] [] t X ↔ X = (t, some (.inl (if (chF t af 2 0 nf (-1, 0)).1 < 0 then -1 else (chF t af 2 0 nf (-1, 0)).1))) := by
    intro z3 z4 z5 z6
    have h3 : ¬ (3 : Int32) ≤ nI 2 := by decide
    have r := r_choice_2 (g := g) (X := X) h (af := af) (r := 2) (by omega) (P := fun b => X = (t, some (.inl (if b.1 < 0 then -1 else b.1)))) (fun b z => by
      by_cases hb : b.1 < 0
      · simp only [e147_192, e147_193, e147_196, e147_197, n147_198, MM, MK, hb, if_true, e147_201, nI_1, q3]
      · simp only [e147_192, e147_193, e147_196, e147_197, n147_198, MM, MK, hb, if_false]) nf 0 (-1, 0) z6 (by omega)
    rw [nI_0] at r
    simp only [e147_41, e147_42, e147_43, e147_46, e147_47, e147_48, e147_49, e147_51, e147_52, MK, h3, if_false]
    exact r
  have q1 : ∀ z3 z4 z5 z6 : Option Av, Rn g 147 41 [some (.inr (.inr (some (11, 0)))), some (.inl af), some (.inl (nI 1)), z3, z4, z5, z6] [] t X ↔ X = (t, some (.inl (if (chF t af 1 0 nf (-1, 0)).1 < 0 then (if (chF t af 2 0 nf (-1, 0)).1 < 0 then -1 else (chF t af 2 0 nf (-1, 0)).1) else (chF t af 1 0 nf (-1, 0)).1))) := by
    intro z3 z4 z5 z6
    have h3 : ¬ (3 : Int32) ≤ nI 1 := by decide
    have r := r_choice_2 (g := g) (X := X) h (af := af) (r := 1) (by omega) (P := fun b => X = (t, some (.inl (if b.1 < 0 then (if (chF t af 2 0 nf (-1, 0)).1 < 0 then -1 else (chF t af 2 0 nf (-1, 0)).1) else b.1)))) (fun b z => by
      by_cases hb : b.1 < 0
      · simp only [e147_192, e147_193, e147_196, e147_197, n147_198, MM, MK, hb, if_true, e147_201, nI_1, q2]
      · simp only [e147_192, e147_193, e147_196, e147_197, n147_198, MM, MK, hb, if_false]) nf 0 (-1, 0) z6 (by omega)
    rw [nI_0] at r
    simp only [e147_41, e147_42, e147_43, e147_46, e147_47, e147_48, e147_49, e147_51, e147_52, MK, h3, if_false]
    exact r
  have q0 : ∀ z3 z4 z5 z6 : Option Av, Rn g 147 41 [some (.inr (.inr (some (11, 0)))), some (.inl af), some (.inl (nI 0)), z3, z4, z5, z6] [] t X ↔ X = (t, some (.inl (if (chF t af 0 0 nf (-1, 0)).1 < 0 then (if (chF t af 1 0 nf (-1, 0)).1 < 0 then (if (chF t af 2 0 nf (-1, 0)).1 < 0 then -1 else (chF t af 2 0 nf (-1, 0)).1) else (chF t af 1 0 nf (-1, 0)).1) else (chF t af 0 0 nf (-1, 0)).1))) := by
    intro z3 z4 z5 z6
    have h3 : ¬ (3 : Int32) ≤ nI 0 := by decide
    have r := r_choice_2 (g := g) (X := X) h (af := af) (r := 0) (by omega) (P := fun b => X = (t, some (.inl (if b.1 < 0 then (if (chF t af 1 0 nf (-1, 0)).1 < 0 then (if (chF t af 2 0 nf (-1, 0)).1 < 0 then -1 else (chF t af 2 0 nf (-1, 0)).1) else (chF t af 1 0 nf (-1, 0)).1) else b.1)))) (fun b z => by
      by_cases hb : b.1 < 0
      · simp only [e147_192, e147_193, e147_196, e147_197, n147_198, MM, MK, hb, if_true, e147_201, nI_1, q1]
      · simp only [e147_192, e147_193, e147_196, e147_197, n147_198, MM, MK, hb, if_false]) nf 0 (-1, 0) z6 (by omega)
    rw [nI_0] at r
    rw [nI_0] at h3 ⊢
    simp only [e147_41, e147_42, e147_43, e147_46, e147_47, e147_48, e147_49, e147_51, e147_52, MK, h3, if_false]
    exact r
  have := q0 none none none none
  rw [nI_0] at this
  simp only [e147_39, e147_40, MK]
  exact this
end Ref6
