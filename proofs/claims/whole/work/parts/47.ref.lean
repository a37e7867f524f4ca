/-! the reference: failing, wanting a block, new blocks, the printer -/
section Ref5
variable {g : Nat → Nat → Nat} {t : Sg} {X : Sg × Option Av} {nf : Nat}
theorem MI_sI {c k i : Nat} {v : Int32} (h : MI t nf) (h1 : ¬ (c = 11 ∧ k = 33)) : MI (sI t c k i v) nf := by
  unfold MI at *
  rw [gI_sI, if_neg (by omega)]
  exact h
def faiF (t : Sg) (nf j : Nat) (num n : Int32) (o q : Nat) : Sg := endF (sI t 23 j 0 num) nf j 4 n o q
theorem r_fails (h : LR t nf) {j o q : Nat} {num n : Int32} (hj : j < 4) (ho : gI t 11 19 0 = nI o) (ho4 : o < 4) (hq : gI t 11 42 0 = nI q) (h32 : q ≤ 32) (hQ : QI t nf) (hM : MI t nf) : Rn g 150 0 [some (.inr (.inr (some (11, 0)))), some (.inl (nI j)), some (.inl num), some (.inl n)] [] t X ↔ X = (faiF t nf j num n o q, some (.inl 0)) := by
  have hr := fun X => r_ends (g := g) (X := X) (t := sI t 23 j 0 num) (j := j) (o := o) (q := q) (how := 4) (n := n) (LR_sI (by omega) h) hj (by simp [MM, ho]) ho4 (by simp [MM, hq]) h32 (QI_sI hQ (by omega) (by omega)) (MI_sI hM (by omega))
  simp [Q150, MM, MK, h, inN hj, hr, faiF]
/-- words of block slot a are 0 -/
def zerF (t : Sg) (a : Nat) : Nat → Nat → Sg
  | _, 0 => t
  | i, n + 1 => zerF (sJ t 40 (512 * a + i) 0 0) a (i + 1) n
theorem LR_zerF (a : Nat) : ∀ n i (t : Sg), LR t nf → LR (zerF t a i n) nf
  | 0, _, _, h => h
  | n + 1, i, _, h => LR_zerF a n (i + 1) _ (LR_sJ h)
abbrev nslP (t : Sg) (k : Nat) : Prop := gI t 38 k 0 = -1
theorem r_newSlot_1 (h : LR t nf) {j b : Int32} : ∀ n (a : Int32), n ≤ 64 → (Rn g 128 6 [some (.inr (.inr (some (11, 0)))), some (.inl j), some (.inl b), some (.inl a), some (.inl (nI n - 1))] [] t X ↔ Rn g 128 31 [some (.inr (.inr (some (11, 0)))), some (.inl j), some (.inl b), some (.inl (oa a (ff (nslP t) 0 n))), some (.inl (-1))] [] t X)
  | 0, a, hn => by
    have h1 : nI 0 - 1 = -1 := by decide
    have h2 : (-1 : Int32) < 0 := by decide
    simp only [e128_6, e128_8, e128_11, e128_12, e128_15, e128_17, e128_18, e128_19, e128_22, e128_24, n128_25, MM, MK, h1, h2, ff, oa, if_true]
  | n + 1, a, hn => by
    have h0 : nI (n + 1) - 1 = nI n := nI_pred n
    have h1 : ¬ nI n < 0 := nI_pos (by omega)
    have h64 := inN (show n < 64 by omega) (by omega)
    by_cases a1 : gI t 38 n 0 = -1
    · have ih := r_newSlot_1 h (j := j) (b := b) n (nI n) (by omega)
      simp [e128_6, e128_8, e128_11, e128_12, e128_15, e128_17, e128_18, e128_19, e128_22, e128_24, n128_25, MM, MK, h, h0, h1, h64, a1, e128_28, Int32.sub_eq_add_neg] at ih ⊢
      rw [ih, ff_last (p := nslP t) (a := a) a1]
    · have ih := r_newSlot_1 h (j := j) (b := b) n a (by omega)
      simp [e128_6, e128_8, e128_11, e128_12, e128_15, e128_17, e128_18, e128_19, e128_22, e128_24, n128_25, MM, MK, h, h0, h1, h64, a1, e128_28, Int32.sub_eq_add_neg] at ih ⊢
      rw [ih, ff_skip (p := nslP t) (a := a) a1]
theorem r_newSlot_2 {j b z : Int32} {a : Nat} (ha : a < 64) : ∀ n i (t : Sg), LR t nf → i + n = 512 → (Rn g 128 58 [some (.inr (.inr (some (11, 0)))), some (.inl j), some (.inl b), some (.inl (nI a)), some (.inl (nI i))] [] t X ↔ X = (zerF t a i n, some (.inl (nI a))))
  | 0, i, t, h, hi => by
    obtain rfl : i = 512 := by omega
    have h1 : (512 : Int32) ≤ nI 512 := by decide
    simp [e128_58, e128_60, e128_63, e128_66, e128_67, e128_70, e128_73, e128_74, e128_75, e128_77, e128_78, e128_79, n128_80, e128_86, e128_87, MM, MK, h1, zerF]
  | n + 1, i, t, h, hi => by
    have h1 : ¬ (512 : Int32) ≤ nI i := nI_ge (b := 512) (by omega) (by decide)
    have ih := r_newSlot_2 (j := j) (b := b) (z := z) ha n (i + 1) (sJ t 40 (512 * a + i) 0 0) (LR_sJ h) (by omega)
    simp [e128_58, e128_60, e128_63, e128_66, e128_67, e128_70, e128_73, e128_74, e128_75, e128_77, e128_78, e128_79, n128_80, e128_86, e128_87, MM, MK, h, h1, t512, nI_add, inN (show 512 * a + i < 32768 by omega), e128_83, nI_1, zerF, ih]
def nslF (t : Sg) (j : Nat) (b : Int32) (a : Nat) : Sg := zerF (sI (sI (sI t 38 a 0 (nI j)) 39 a 0 b) 41 j 0 (gI t 41 j 0 + 1)) a 0 512
theorem r_newSlot (h : LR t nf) {j a : Nat} {b : Int32} (hj : j < 4) (ha : ff (nslP t) 0 64 = some a) : Rn g 128 0 [some (.inr (.inr (some (11, 0)))), some (.inl (nI j)), some (.inl b), none, none] [] t X ↔ X = (nslF t j b a, some (.inl (nI a))) := by
  have h64 : a < 64 := by have := (ff_some ha).2.1; omega
  have h' : LR (sI (sI (sI t 38 a 0 (nI j)) 39 a 0 b) 41 j 0 (gI t 41 j 0 + 1)) nf := LR_sI (by omega) (LR_sI (by omega) (LR_sI (by omega) h))
  have r1 := r_newSlot_1 (g := g) (X := X) h (j := nI j) (b := b) 64 (-1) (by omega)
  have r2 := r_newSlot_2 (g := g) (X := X) (j := nI j) (b := b) (z := 0) h64 512 0 _ h' rfl
  rw [ha, oa_s, show nI 64 - 1 = 63 by decide] at r1
  rw [nI_0] at r2
  simp only [e128_0, e128_1, e128_2, e128_4, MK]
  rw [r1]
  simp [e128_31, e128_32, e128_35, e128_36, e128_37, e128_38, e128_39, e128_42, e128_43, e128_44, e128_45, e128_46, e128_49, e128_50, e128_51, e128_52, e128_53, e128_54, e128_55, e128_56, MM, MK, h, inN h64, inN hj]
  exact r2
end Ref5
