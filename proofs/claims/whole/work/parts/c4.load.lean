/-! loading: counting new blocks, a page to load, the reference's loops -/
/-- the first block that is not yet there once i words are loaded from A on -/
def kB (A i : Nat) : Nat := if i = 0 then A / 512 else (A + i - 1) / 512 + 1
section Lod1
variable {g : Nat → Nat → Nat} {s t u T : Sg} {X : Sg × Option Av} {nf B n : Nat} {Q : List Nat} {j : Nat}
theorem cN_s {k m : Nat} : cN t j k (m + 1) = (if slotF t (nI j) (nI k) = none then 1 else 0) + cN t j (k + 1) m := by
  unfold cN
  rw [cf]
theorem cN_0 {k : Nat} : cN t j k 0 = 0 := rfl
theorem c_cnb_l (h : Rl g s t nf B Q) (hj : j < 4) {L : Nat} {w : Int32} (hL : L < 4096) : ∀ m k a, k + m = L + 1 → (Rn g 107 38 [oC, some (.inr (.inr (some (3, j)))), some (.inl w), some (.inl (nI a)), some (.inl (nI L)), some (.inl (nI k))] [] s X ↔ X = (s, some (.inl (nI (a + cN t j k m)))))
  | 0, k, a, hk => by
    have h1 : nI L < nI k := nI_lt (by omega) (by omega)
    simp [e107_38, e107_40, e107_42, e107_45, e107_46, e107_49, e107_50, e107_53, e107_55, e107_58, n107_61, n107_64, e107_70, e107_71, MM, MK, h1, cN_0]
  | m + 1, k, a, hk => by
    have h1 : ¬ nI L < nI k := nI_nlt (by omega) (by omega)
    have r := fun X => c_find (g := g) (X := X) h.1.1 (nI j) (nI k)
    rw [lk_pg h] at r
    have ih := fun a => c_cnb_l h hj (w := w) hL m (k + 1) a (by omega)
    rw [cN_s]
    cases e : slotF t (nI j) (nI k) with
    | none =>
      rw [e] at r
      simp [e107_38, e107_40, e107_42, e107_45, e107_46, e107_49, e107_50, e107_53, e107_55, e107_58, n107_61, n107_64, MM, MK, h.1.1, hj, h1, r, e107_67, nI_1, ih, Nat.add_assoc]
    | some x =>
      rw [e] at r
      simp [e107_38, e107_40, e107_42, e107_45, e107_46, e107_49, e107_50, e107_53, e107_55, e107_58, n107_61, n107_64, MM, MK, h.1.1, hj, h1, r, e107_67, nI_1, ih]
theorem c_cnb (h : Rl g s t nf B Q) (hj : j < 4) {A c f : Nat} (hA : A + c ≤ 1048576) (hA2 : A < 1048576) (ho : RO s 0 c f) : Rn g 107 0 [oC, some (.inr (.inr (some (3, j)))), some (.inl (nI A)), none, none, none] [] s X ↔ X = (s, some (.inl (nI (cN t j (A / 512) (kB A c - A / 512))))) := by
  have r5 := fun X => c_size (g := g) (X := X) h.1.1 (show 0 < 11 by omega) ho
  by_cases c0 : c = 0
  · subst c0
    have e1 : kB A 0 - A / 512 = 0 := by unfold kB; rw [if_pos rfl]; omega
    rw [e1, cN_0]
    rw [nI_0] at r5
    simp [e107_0, e107_1, e107_4, e107_7, e107_10, e107_11, MM, MK, h.1.1, r5, nI_0]
  · have hk : kB A c = (A + c - 1) / 512 + 1 := by unfold kB; rw [if_neg c0]
    have hn0 : ¬ nI c = 0 := nI_ne0 (by omega) (by omega)
    have e1 : nI (A + c) - 1 = nI (A + c - 1) := nI_sub (b := 1) (by omega)
    have ih := c_cnb_l (g := g) (X := X) h hj (L := (A + c - 1) / 512) (w := nI A) (by omega) (kB A c - A / 512) (A / 512) 0 (by omega)
    rw [nI_0, Nat.zero_add] at ih
    rw [← ih]
    simp only [e107_0, e107_1, e107_4, e107_7, e107_10, e107_11, e107_12, e107_13, e107_14, e107_15, e107_16, e107_19, e107_22, e107_23, e107_24, e107_25, e107_28, e107_29, e107_31, e107_32, e107_35, e107_36, MM, MK, h.1.1, hj, r5, hn0, nI_add, e1, d512 (show A < 2 ^ 31 by omega), d512 (show A + c - 1 < 2 ^ 31 by omega), if_true, if_false, Nat.zero_lt_one, exists_eq_left, List.nil_append, List.cons_append, List.append_nil, show ¬ (512 : Int32) = 0 by decide, not_false_eq_true, show (0 : Nat) < 11 by omega]
/-- a page to load: it is there, or it is new -/
theorem c_ptl_y (h : Rl g s t nf B Q) (hj : j < 4) {k x : Nat} (e : slotF t (nI j) (nI k) = some x) : Rn g 108 0 [oC, some (.inr (.inr (some (3, j)))), some (.inl (nI k)), none, none] [] s X ↔ X = (s, some (.inr (.inr (some (4, x))))) := by
  have r := fun X => c_find (g := g) (X := X) h.1.1 (nI j) (nI k)
  rw [lk_pg h, e] at r
  simp [e108_0, e108_1, e108_4, e108_5, e108_8, e108_9, e108_12, e108_13, e108_14, e108_17, e108_18, MM, MK, h.1.1, hj, r]
theorem lk_fre (h : Rl g s t nf B Q) : ff (tkP s) 0 64 = ff (freP t) 0 64 := ff_cg (fun m _ hm => (h.2.2.1.2.2.1 m (by omega)).1)
theorem lk_cfr (h : Rl g s t nf B Q) : cf (tkP s) 0 64 = freF t := cf_cg (fun m _ hm => (h.2.2.1.2.2.1 m (by omega)).1)
theorem c_ptl_n (h : Rl g s t nf B Q) (hj : j < 4) {k a p : Nat} (e : slotF t (nI j) (nI k) = none) (ha : ff (nslP t) 0 64 = some a) (hp : ff (freP t) 0 64 = some p) (ha64 : a < 64) (hp64 : p < 64) : Rn g 108 0 [oC, some (.inr (.inr (some (3, j)))), some (.inl (nI k)), none, none] [] s X ↔ X = (alC s j (nI k) a p, some (.inr (.inr (some (4, a))))) := by
  have r := fun X => c_find (g := g) (X := X) h.1.1 (nI j) (nI k)
  rw [lk_pg h, e] at r
  have r2 := fun X => c_lowestFree (g := g) (X := X) h.1.1
  rw [lk_fre h, hp] at r2
  obtain ⟨x1, x2, x3, x4⟩ := h.2.2.2.1.2.2.1
  have hz := h.1.2.2
  have hw : gP s 4 4 a = none ∨ (gP s 4 4 a = some a ∧ a < cn s 16) := by
    rw [x1 a ha64]
    by_cases q : a < cn s 16
    · rw [if_pos q]; exact Or.inr ⟨rfl, q⟩
    · rw [if_neg q]; exact Or.inl rfl
  have hc : gP s 4 4 a = none → cn s 16 < 64 := fun z => by
    rw [x1 a ha64] at z
    by_cases q : a < cn s 16
    · rw [if_pos q] at z; cases z
    · omega
  have hfr : ff (frP s) 0 64 = some a := by rw [lk_fr h]; exact ha
  have r3 := fun X => c_pagesHold (g := g) (X := X) (o := nI j) (b := nI k) h.1.1 hfr hw (fun _ => hz) hc
  have l1 := LC_hldF (o := nI j) (b := nI k) h.1.1 ha64 hw hc
  have l2 : LC (sI (hldF s a (nI j) (nI k)) 3 5 j (gI (hldF s a (nI j) (nI k)) 3 5 j + 1)) nf := LC_sI l1 (by omega)
  have r4 := fun X => c_placeTake (g := g) (X := X) l2 hp64 ha64
  have w1 := h.1.1
  simp only [e108_0, e108_1, e108_4, e108_5, e108_8, e108_9, e108_12, e108_13, e108_14, e108_17, e108_18, e108_19, e108_20, e108_23, e108_26, e108_28, e108_30, e108_33, e108_34, e108_37, e108_38, e108_41, e108_42, e108_45, e108_46, e108_49, e108_50, e108_51, e108_54, e108_55, e108_56, e108_59, e108_60, e108_61, e108_64, e108_66, e108_67, e108_70, e108_71, MM, MK, w1, l1, l2, hj, hp64, r, r2, r3, r4, if_true, if_false, Nat.zero_lt_one, exists_eq_left, List.nil_append, List.cons_append, List.append_nil, reduceCtorEq]
  rfl
/-- the reference counts -/
theorem r_cnt_l (h : LR t nf) {LL w1 w2 : Int32} {E : Nat} (hE : E < 2147483648) (h1 : LL < nI E) (h2 : ∀ k, k < E → ¬ LL < nI k) : ∀ m k a, k + m = E → (Rn g 133 89 [oR, some (.inl (nI j)), some (.inl w1), some (.inl w2), some (.inl LL), some (.inl (nI a)), some (.inl (nI k)), none, none] [] t X ↔ Rn g 133 123 [oR, some (.inl (nI j)), some (.inl w1), some (.inl w2), some (.inl LL), some (.inl (nI (a + cN t j k m))), some (.inl (nI E)), none, none] [] t X)
  | 0, k, a, hk => by
    obtain rfl : k = E := by omega
    simp only [e133_89, e133_91, e133_93, MM, MK, h1, cN_0, Nat.add_zero, if_true]
  | m + 1, k, a, hk => by
    have q1 := h2 k (by omega)
    have r := fun X => r_slot (g := g) (X := X) h (nI j) (nI k)
    have ih := fun a => r_cnt_l h (w1 := w1) (w2 := w2) hE h1 h2 m (k + 1) a (by omega)
    rw [cN_s, ← Nat.add_assoc, ← ih]
    cases e : slotF t (nI j) (nI k) with
    | none =>
      rw [e, oi_n] at r
      simp only [e133_89, e133_91, e133_93, e133_96, e133_98, e133_99, e133_100, e133_102, e133_105, e133_106, e133_109, e133_110, e133_113, e133_114, e133_115, n133_117, MM, MK, h, q1, r, e133_120, nI_1, if_true, if_false, Nat.zero_lt_one, exists_eq_left, List.nil_append, List.cons_append, List.append_nil, reduceCtorEq]
    | some x =>
      obtain ⟨y1, y2, y3, y4⟩ := ff_some e
      have hx := nI_nm (n := x) (by omega)
      rw [e, oi_s] at r
      simp only [e133_89, e133_91, e133_93, e133_96, e133_98, e133_99, e133_100, e133_102, e133_105, e133_106, e133_109, e133_110, e133_113, e133_114, e133_115, n133_117, MM, MK, h, q1, r, hx, e133_120, nI_1, nI_add, Int32.add_zero, Nat.add_zero, if_true, if_false, Nat.zero_lt_one, exists_eq_left, List.nil_append, List.cons_append, List.append_nil, reduceCtorEq]
theorem r_whl (h : LR t nf) {l1 l2 l3 l4 l5 l6 : Option Av} {w7 : Int32} {p : Nat} (hp : p < 64) (h1 : gI t 49 p 0 = -1) (h2 : ∀ q, q < p → ¬ gI t 49 q 0 = -1) : ∀ m i, i + m = p → (Rn g 133 190 [oR, l1, l2, l3, l4, l5, l6, some (.inl w7), some (.inl (nI i))] [] t X ↔ Rn g 133 207 [oR, l1, l2, l3, l4, l5, l6, some (.inl w7), some (.inl (nI p))] [] t X)
  | 0, i, hi => by
    obtain rfl : i = p := by omega
    simp only [e133_190, e133_191, e133_194, e133_196, e133_197, e133_198, MM, MK, h, h1, inN hp (show 64 ≤ 65536 by decide), if_true, Nat.zero_lt_one]
  | m + 1, i, hi => by
    have ih := r_whl h (l1 := l1) (l2 := l2) (l3 := l3) (l4 := l4) (l5 := l5) (l6 := l6) (w7 := w7) hp h1 h2 m (i + 1) (by omega)
    have q1 := h2 i (by omega)
    rw [← ih]
    simp only [e133_190, e133_191, e133_194, e133_196, e133_197, e133_198, n133_201, MM, MK, h, q1, inN (show i < 64 by omega) (show 64 ≤ 65536 by decide), e133_204, nI_1, if_true, if_false, Nat.zero_lt_one]
/-- the reference makes blocks -/
theorem r_alc_l (hg : ∀ i, g 16 (i + 1) = g 16 i + 1) {LL w1 w2 w5 : Int32} {E : Nat} (hE : E < 1000000000) (h1 : LL < nI E) (h2 : ∀ k, k < E → ¬ LL < nI k) (hj : j < 4) : ∀ m k (s t : Sg) (l7 l8 : Option Av), k + m = E → Rl g s t nf B Q → gI t 22 j 0 = 0 → BG t (cN t j k m) → cN t j k m ≤ freF t → ∃ s' l7' l8', (∀ X, Rn g 133 157 [oR, some (.inl (nI j)), some (.inl w1), some (.inl w2), some (.inl LL), some (.inl w5), some (.inl (nI k)), l7, l8] [] t X ↔ Rn g 133 230 [oR, some (.inl (nI j)), some (.inl w1), some (.inl w2), some (.inl LL), some (.inl w5), some (.inl (nI E)), l7', l8'] [] (alN j t k m) X) ∧ Rl g s' (alN j t k m) nf B Q
  | 0, k, s, t, l7, l8, hk, h, hs, hb, hf => by
    obtain rfl : k = E := by omega
    refine ⟨s, l7, l8, fun X => ?_, h⟩
    simp only [e133_157, e133_159, e133_161, MM, MK, h1, if_true]
    rfl
  | m + 1, k, s, t, l7, l8, hk, h, hs, hb, hf => by
    have q1 := h2 k (by omega)
    have r := fun X => r_slot (g := g) (X := X) h.1.2.1 (nI j) (nI k)
    rcases al_step hg (by omega) h hj hs hb hf with ⟨x, e, a1, a2, a3⟩ | ⟨a, p, e, b1, b2, b3, b4, b5, b6, b7, b8, b9, b10⟩
    · obtain ⟨s', l7', l8', c1, c2⟩ := r_alc_l hg (w1 := w1) (w2 := w2) (w5 := w5) hE h1 h2 hj m (k + 1) s t l7 l8 (by omega) h hs a2 a3
      obtain ⟨y1, y2, y3, y4⟩ := ff_some e
      have hx := nI_nm (n := x) (by omega)
      rw [e, oi_s] at r
      refine ⟨s', l7', l8', fun X => ?_, by rw [alN, a1]; exact c2⟩
      rw [alN, a1, ← c1]
      simp only [e133_157, e133_159, e133_161, e133_164, e133_165, e133_166, e133_168, e133_171, e133_172, e133_175, n133_224, MM, MK, h.1.2.1, q1, r, hx, e133_227, nI_1, if_true, if_false, Nat.zero_lt_one, exists_eq_left, List.nil_append, List.cons_append, List.append_nil]
    · obtain ⟨s', l7', l8', c1, c2⟩ := r_alc_l hg (w1 := w1) (w2 := w2) (w5 := w5) hE h1 h2 hj m (k + 1) _ _ (some (.inl (nI a))) (some (.inl (nI p))) (by omega) b6 b7 b9 b10
      obtain ⟨y1, y2, y3, y4⟩ := ff_some b2
      rw [e, oi_n] at r
      have r2 := fun X => r_newSlot (g := g) (X := X) (b := nI k) h.1.2.1 hj b1
      have l1 : LR (nslF t j (nI k) a) nf := by
        unfold nslF
        exact LR_zerF a _ _ _ (LR_sI (by omega) (LR_sI (by omega) (LR_sI (by omega) h.1.2.1)))
      have e49 : ∀ q, gI (nslF t j (nI k) a) 49 q 0 = gI t 49 q 0 := fun q => nslF_I (by decide) (by decide) (by decide)
      have r3 := fun X => r_whl (g := g) (X := X) (l1 := some (.inl (nI j))) (l2 := some (.inl w1)) (l3 := some (.inl w2)) (l4 := some (.inl LL)) (l5 := some (.inl w5)) (l6 := some (.inl (nI k))) (w7 := nI a) l1 b4 (by rw [e49]; exact y3) (fun q hq => by rw [e49]; exact y4 q (by omega) hq) p 0 (by omega)
      rw [nI_0] at r3
      refine ⟨s', l7', l8', fun X => ?_, by rw [alN, b5]; exact c2⟩
      rw [alN, b5, ← c1]
      have e1 : Rn g 133 157 [oR, some (.inl (nI j)), some (.inl w1), some (.inl w2), some (.inl LL), some (.inl w5), some (.inl (nI k)), l7, l8] [] t X ↔ Rn g 133 190 [oR, some (.inl (nI j)), some (.inl w1), some (.inl w2), some (.inl LL), some (.inl w5), some (.inl (nI k)), some (.inl (nI a)), some (.inl 0)] [] (nslF t j (nI k) a) X := by
        simp only [e133_157, e133_159, e133_161, e133_164, e133_165, e133_166, e133_168, e133_171, e133_172, e133_175, e133_178, e133_179, e133_180, e133_182, e133_185, e133_187, e133_188, MM, MK, h.1.2.1, q1, r, r2, if_true, if_false, Nat.zero_lt_one, exists_eq_left, List.nil_append, List.cons_append, List.append_nil]
      rw [e1, r3]
      simp only [e133_207, e133_208, e133_211, e133_213, e133_214, e133_215, e133_216, e133_219, e133_221, e133_223, n133_224, MM, MK, l1, inN b4 (show 64 ≤ 65536 by decide), e133_227, nI_1, if_true, if_false, Nat.zero_lt_one]
      rfl
end Lod1
