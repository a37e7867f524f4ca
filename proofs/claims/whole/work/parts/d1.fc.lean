/-! constructors: the drum, the core, the printer, a job -/
section Fc3
variable {g : Nat → Nat → Nat} {s : Sg} {X : Sg × Option Av} {I I' : Nat → Nat → Nat → Int32} {P P' : Nat → Nat → Nat → Option Nat} {N N' : Nat → Nat} {L L' : Nat → Nat → Nat} {z l z' l' c k i n : Nat}
theorem c64 : ¬ (64 : Int32) < 0 ∧ (64 : Int32).toNatClampNeg = 64 := by decide
theorem c16 : ¬ (16 : Int32) < 0 ∧ (16 : Int32).toNatClampNeg = 16 := by decide
theorem c4' : ¬ (4 : Int32) < 0 ∧ (4 : Int32).toNatClampNeg = 4 := by decide
theorem c128 : ¬ (128 : Int32) < 0 ∧ (128 : Int32).toNatClampNeg = 128 := by decide
theorem k_pages (f : FC s I P N L z l) (hN5 : N 5 = 1) (hN17 : N 17 = 0) (hN4 : N 4 = 0) (hz : z = g 17 0) (hg : ∀ i, i < 64 → g 4 i = z + 1 + i) : ∃ s', (∀ X, Rn g 47 0 [some (.inr (.inr (some (5, 0)))), none] [] s X ↔ X = (s', none)) ∧ FC s' (fun c k e => if c = 4 ∧ k = 0 ∧ e < 64 then -1 else I c k e) (fun c k e => if c = 17 ∧ e = 0 ∧ k < 64 then some k else uP P 5 0 0 (some 0) c k e) (fun c => if c = 4 then 64 else uM N 17 c) (uL L 17 0 64) (z + 1 + 64) (l + 64 + 5 * 64) := by
  have e1 : cn s 5 = 1 := by rw [FC_cn f]; exact hN5
  have e2 : cn s 17 = 0 := by rw [FC_cn f]; exact hN17
  have e3 : sz s = g 17 0 := by rw [FC_sz f]; exact hz
  have f1 := FC_nwA (c := 17) (n := 64) f
  rw [hN17] at f1
  have f2 := FC_sP (c := 5) (k := 0) (i := 0) (v := some 0) f1 (by rw [uM_n (by omega), hN5]; omega)
  have f3 := FC_cg (I' := fun c k e => if c = 4 ∧ k = 0 ∧ e < 0 then -1 else I c k e) (P' := fun c k e => if c = 17 ∧ e = 0 ∧ k < 0 then some k else uP P 5 0 0 (some 0) c k e) (N' := fun c => if c = 4 then 0 else uM N 17 c) (L' := uL L 17 0 64) (z' := z + 1 + 0) (l' := l + 64 + 5 * 0) f2 (fun c k e => by rw [if_neg (by omega)]) (fun c k e => by rw [if_neg (by omega)]) (fun c => by
      by_cases q : c = 4
      · rw [if_pos q, q, uM_n (by omega), hN4]
      · rw [if_neg q]) (fun _ _ _ => rfl) rfl rfl
  obtain ⟨s', r, f4⟩ := k_pages_l (g := g) (by rw [uM_n (by omega), hN5]) (by rw [uM_c, hN17]) (by unfold uP; rw [if_pos ⟨rfl, rfl, rfl⟩]) (by unfold uL; rw [if_pos ⟨rfl, rfl⟩]) hg 64 0 _ (by omega) f3
  rw [nI_0] at r
  refine ⟨s', fun X => ?_, f4⟩
  rw [← r]
  simp only [e47_0, e47_1, e47_4, e47_5, e47_7, e47_10, e47_10s, e47_10sm, e47_13, e47_14, MM, MK, e1, e2, e3, c64, not_false_eq_true, show (64 : Nat) ≤ 65536 by omega, if_true, if_false, Nat.zero_lt_one, show ¬ (5 : Nat) = 17 by omega]
/-- the drum -/
theorem k_drum_l (hN5 : N 1 = 1) (hN17 : N 13 = 1) (hP : P 1 0 0 = some 0) (hL : L 13 0 = 64) (hg : ∀ i, i < 64 → g 6 i = z + i) : ∀ m i s, i + m = 64 → FC s (fun c k e => if c = 6 ∧ k = 0 ∧ e < i then nI e else I c k e) (fun c k e => if c = 13 ∧ e = 0 ∧ k < i then some k else P c k e) (fun c => if c = 6 then i else N c) L (z + i) (l + 4 * i) → ∃ s', (∀ X, Rn g 8 24 [some (.inr (.inr (some (1, 0)))), some (.inl (nI i))] [] s X ↔ X = (s', none)) ∧ FC s' (fun c k e => if c = 6 ∧ k = 0 ∧ e < 64 then nI e else I c k e) (fun c k e => if c = 13 ∧ e = 0 ∧ k < 64 then some k else P c k e) (fun c => if c = 6 then 64 else N c) L (z + 64) (l + 4 * 64)
  | 0, i, s, hi, f => by
    obtain rfl : i = 64 := by omega
    have e1 : cn s 1 = 1 := by rw [FC_cn f]; exact hN5
    have e2 : cn s 13 = 1 := by rw [FC_cn f]; exact hN17
    have e3 : gP s 1 0 0 = some 0 := by rw [FC_gP f]; exact hP
    have e4 : ln s 13 0 = 64 := by rw [FC_ln f _ _ (by omega)]; exact hL
    have h1 : nI 64 ≤ nI 64 := by decide
    refine ⟨s, fun X => ?_, f⟩
    simp only [e8_24, e8_25, e8_26, e8_29, e8_30, e8_53, MM, MK, e1, e2, e3, e4, ofN, h1, if_true, Nat.zero_lt_one]
  | m + 1, i, s, hi, f => by
    have e1 : cn s 1 = 1 := by rw [FC_cn f]; exact hN5
    have e2 : cn s 13 = 1 := by rw [FC_cn f]; exact hN17
    have e3 : gP s 1 0 0 = some 0 := by rw [FC_gP f]; exact hP
    have e4 : ln s 13 0 = 64 := by rw [FC_ln f _ _ (by omega)]; exact hL
    have e5 : cn s 6 = i := by rw [FC_cn f, if_pos rfl]
    have e6 : sz s = g 6 i := by rw [FC_sz f, hg i (by omega)]
    have h1 : ¬ nI 64 ≤ nI i := nI_ge (by omega) (by omega)
    have f1 := FC_nw (c := 6) (n := 4) f (by omega)
    obtain ⟨s1, r1, f2⟩ := k_place (g := g) (i := i) (w := nI i) f1 (by rw [uM_c, if_pos rfl]; omega)
    have f3 := FC_sP (c := 13) (k := i) (i := 0) (v := some i) f2 (by rw [uM_n (by omega), if_neg (by omega), hN17]; omega)
    have d1 : cn s1 13 = 1 := by rw [FC_cn f2, uM_n (by omega), if_neg (by omega), hN17]
    have d2 : cn s1 6 = i + 1 := by rw [FC_cn f2, uM_c, if_pos rfl]
    have d3 : ln s1 13 0 = 64 := by rw [FC_ln f2 _ _ (by omega)]; exact hL
    have f4 := FC_cg (I' := fun c k e => if c = 6 ∧ k = 0 ∧ e < i + 1 then nI e else I c k e) (P' := fun c k e => if c = 13 ∧ e = 0 ∧ k < i + 1 then some k else P c k e) (N' := fun c => if c = 6 then i + 1 else N c) (L' := L) (z' := z + (i + 1)) (l' := l + 4 * (i + 1)) f3 (fun c k e => by
        dsimp only [uI]
        (repeat' split) <;> first | rfl | (exfalso; omega) | (congr 1; omega)) (fun c k e => by
        dsimp only [uP]
        (repeat' split) <;> first | rfl | (exfalso; omega) | (congr 1; omega)) (fun c => by
        dsimp only [uM]
        (repeat' split) <;> first | rfl | (exfalso; omega) | omega) (fun c i h => rfl) (by omega) (by omega)
    obtain ⟨s', r2, f5⟩ := k_drum_l hN5 hN17 hP hL hg m (i + 1) _ (by omega) f4
    refine ⟨s', fun X => ?_, f5⟩
    rw [← r2]
    simp only [e8_24, e8_25, e8_26, e8_29, e8_30, e8_33, e8_34, e8_37, e8_38, e8_41, e8_42, e8_43, e8_46, e8_46m, n8_47, MM, MK, e1, e2, e3, e4, e5, e6, ofN, h1, r1, d1, d2, d3, e8_50, nI_1, inN (show i < 64 by omega) (show 64 ≤ 65536 by decide), Nat.lt_succ_self, if_true, if_false, Nat.zero_lt_one, exists_eq_left, List.nil_append, List.cons_append, List.append_nil]
theorem k_drum (f : FC s I P N L z l) (hN5 : N 1 = 1) (hN17 : N 13 = 0) (hN14 : N 14 = 0) (hN4 : N 6 = 0) (hz : z = g 13 0) (hz2 : z + 1 = g 14 0) (hg : ∀ i, i < 64 → g 6 i = z + 2 + i) : ∃ s', (∀ X, Rn g 8 0 [some (.inr (.inr (some (1, 0)))), none] [] s X ↔ X = (s', none)) ∧ FC s' (fun c k e => if c = 6 ∧ k = 0 ∧ e < 64 then nI e else I c k e) (fun c k e => if c = 13 ∧ e = 0 ∧ k < 64 then some k else uP (uP P 1 0 0 (some 0)) 1 1 0 (some 0) c k e) (fun c => if c = 6 then 64 else uM (uM N 13) 14 c) (uL (uL L 13 0 64) 14 0 16) (z + 2 + 64) (l + 64 + 16 + 4 * 64) := by
  have e1 : cn s 1 = 1 := by rw [FC_cn f]; exact hN5
  have e2 : cn s 13 = 0 := by rw [FC_cn f]; exact hN17
  have e3 : sz s = g 13 0 := by rw [FC_sz f]; exact hz
  have f1 := FC_nwA (c := 13) (n := 64) f
  rw [hN17] at f1
  have f2 := FC_sP (c := 1) (k := 0) (i := 0) (v := some 0) f1 (by rw [uM_n (by omega), hN5]; omega)
  obtain ⟨s1, hs1⟩ : ∃ q, q = sP (nw s 13 64) 1 0 0 (some 0) := ⟨_, rfl⟩
  rw [← hs1] at f2
  have d1 : cn s1 1 = 1 := by rw [FC_cn f2, uM_n (by omega)]; exact hN5
  have d2 : cn s1 14 = 0 := by rw [FC_cn f2, uM_n (by omega)]; exact hN14
  have d3 : sz s1 = g 14 0 := by rw [FC_sz f2]; exact hz2
  have f1 := FC_nwA (c := 14) (n := 16) f2
  rw [uM_n (by omega), hN14] at f1
  have f2 := FC_sP (c := 1) (k := 1) (i := 0) (v := some 0) f1 (by rw [uM_n (by omega), uM_n (by omega), hN5]; omega)
  have f3 := FC_cg (I' := fun c k e => if c = 6 ∧ k = 0 ∧ e < 0 then nI e else I c k e) (P' := fun c k e => if c = 13 ∧ e = 0 ∧ k < 0 then some k else uP (uP P 1 0 0 (some 0)) 1 1 0 (some 0) c k e) (N' := fun c => if c = 6 then 0 else uM (uM N 13) 14 c) (L' := uL (uL L 13 0 64) 14 0 16) (z' := z + 2 + 0) (l' := l + 64 + 16 + 4 * 0) f2 (fun c k e => by rw [if_neg (by omega)]) (fun c k e => by rw [if_neg (by omega)]) (fun c => by
      by_cases q : c = 6
      · rw [if_pos q, q, uM_n (by omega), uM_n (by omega), hN4]
      · rw [if_neg q]) (fun _ _ _ => rfl) rfl rfl
  obtain ⟨s', r, f4⟩ := k_drum_l (g := g) (by rw [uM_n (by omega), uM_n (by omega), hN5]) (by rw [uM_n (by omega), uM_c, hN17]) (by unfold uP; rw [if_neg (by omega), if_pos ⟨rfl, rfl, rfl⟩]) (by unfold uL; rw [if_neg (by omega), if_pos ⟨rfl, rfl⟩]) hg 64 0 _ (by omega) f3
  rw [nI_0] at r
  refine ⟨s', fun X => ?_, f4⟩
  rw [← r]
  have a1 : Rn g 8 0 [some (.inr (.inr (some (1, 0)))), none] [] s X ↔ Rn g 8 13 [some (.inr (.inr (some (1, 0)))), none] [] s1 X := by
    rw [hs1]
    simp only [e8_0, e8_1, e8_4, e8_5, e8_7, e8_10, e8_10s, e8_10sm, MM, MK, e1, e2, e3, c64, not_false_eq_true, show (64 : Nat) ≤ 65536 by omega, if_true, if_false, Nat.zero_lt_one, show ¬ (1 : Nat) = 13 by omega]
  rw [a1]
  simp only [e8_13, e8_14, e8_16, e8_19, e8_19s, e8_19sm, e8_22, e8_23, MM, MK, d1, d2, d3, c16, not_false_eq_true, show (16 : Nat) ≤ 65536 by omega, if_true, if_false, Nat.zero_lt_one, show ¬ (1 : Nat) = 14 by omega]
/-- the core -/
theorem k_core_l {nf : Nat} {w : Int32} (hnf : nf ≤ 16) (hN5 : N 0 = 1) (hN17 : N 12 = 1) (hP : P 0 0 0 = some 0) (hL : L 12 0 = nf) (hg : ∀ i, i < nf → g 2 i = z + i) : ∀ m i s, i + m = nf → FC s (fun c k e => if c = 2 ∧ k = 0 ∧ e < i then nI e else I c k e) (fun c k e => if c = 12 ∧ e = 0 ∧ k < i then some k else P c k e) (fun c => if c = 2 then i else N c) L (z + i) (l + 9 * i) → ∃ s', (∀ X, Rn g 0 18 [some (.inr (.inr (some (0, 0)))), some (.inl w), some (.inl (nI i))] [] s X ↔ X = (s', none)) ∧ FC s' (fun c k e => if c = 2 ∧ k = 0 ∧ e < nf then nI e else I c k e) (fun c k e => if c = 12 ∧ e = 0 ∧ k < nf then some k else P c k e) (fun c => if c = 2 then nf else N c) L (z + nf) (l + 9 * nf)
  | 0, i, s, hi, f => by
    obtain rfl : i = nf := by omega
    have e1 : cn s 0 = 1 := by rw [FC_cn f]; exact hN5
    have e2 : cn s 12 = 1 := by rw [FC_cn f]; exact hN17
    have e3 : gP s 0 0 0 = some 0 := by rw [FC_gP f]; exact hP
    have e4 : ln s 12 0 = i := by rw [FC_ln f _ _ (by omega)]; exact hL
    have h1 : nI i ≤ nI i := nI_le (by omega) (by omega)
    refine ⟨s, fun X => ?_, f⟩
    simp only [e0_18, e0_19, e0_20, e0_23, e0_24, e0_47, MM, MK, e1, e2, e3, e4, ofN, h1, if_true, Nat.zero_lt_one]
  | m + 1, i, s, hi, f => by
    have e1 : cn s 0 = 1 := by rw [FC_cn f]; exact hN5
    have e2 : cn s 12 = 1 := by rw [FC_cn f]; exact hN17
    have e3 : gP s 0 0 0 = some 0 := by rw [FC_gP f]; exact hP
    have e4 : ln s 12 0 = nf := by rw [FC_ln f _ _ (by omega)]; exact hL
    have e5 : cn s 2 = i := by rw [FC_cn f, if_pos rfl]
    have e6 : sz s = g 2 i := by rw [FC_sz f, hg i (by omega)]
    have e7 : I 2 1 i = 0 := by
      have := f.2.2.2.2.2.2.1 2 1 i (by dsimp only; rw [if_pos rfl]; omega)
      dsimp only at this
      rw [if_neg (by omega)] at this
      exact this
    have h1 : ¬ nI nf ≤ nI i := nI_ge (by omega) (by omega)
    have f1 := FC_nw (c := 2) (n := 9) f (by omega)
    obtain ⟨s1, r1, f2⟩ := k_frame (g := g) (i := i) (w := nI i) f1 (by rw [uM_c, if_pos rfl]; omega)
    have f3 := FC_sP (c := 12) (k := i) (i := 0) (v := some i) f2 (by rw [uM_n (by omega), if_neg (by omega), hN17]; omega)
    have d1 : cn s1 12 = 1 := by rw [FC_cn f2, uM_n (by omega), if_neg (by omega), hN17]
    have d2 : cn s1 2 = i + 1 := by rw [FC_cn f2, uM_c, if_pos rfl]
    have d3 : ln s1 12 0 = nf := by rw [FC_ln f2 _ _ (by omega)]; exact hL
    have f4 := FC_cg (I' := fun c k e => if c = 2 ∧ k = 0 ∧ e < i + 1 then nI e else I c k e) (P' := fun c k e => if c = 12 ∧ e = 0 ∧ k < i + 1 then some k else P c k e) (N' := fun c => if c = 2 then i + 1 else N c) (L' := L) (z' := z + (i + 1)) (l' := l + 9 * (i + 1)) f3 (fun c k e => by
        dsimp only [uI]
        by_cases q : c = 2 ∧ k = 1 ∧ e = i
        · obtain ⟨rfl, rfl, rfl⟩ := q
          rw [if_neg (by omega), if_pos ⟨rfl, rfl, rfl⟩, if_neg (by omega), e7]
        · rw [if_neg q]
          (repeat' split) <;> first | rfl | (exfalso; omega) | (congr 1; omega)) (fun c k e => by
        dsimp only [uP]
        (repeat' split) <;> first | rfl | (exfalso; omega) | (congr 1; omega)) (fun c => by
        dsimp only [uM]
        (repeat' split) <;> first | rfl | (exfalso; omega) | omega) (fun c i h => rfl) (by omega) (by omega)
    obtain ⟨s', r2, f5⟩ := k_core_l (w := w) hnf hN5 hN17 hP hL hg m (i + 1) _ (by omega) f4
    refine ⟨s', fun X => ?_, f5⟩
    rw [← r2]
    simp only [e0_18, e0_19, e0_20, e0_23, e0_24, e0_27, e0_28, e0_31, e0_32, e0_35, e0_36, e0_37, e0_40, e0_40m, n0_41, MM, MK, e1, e2, e3, e4, e5, e6, ofN, h1, r1, d1, d2, d3, e0_44, nI_1, inN (show i < nf by omega) (show nf ≤ 65536 by omega), Nat.lt_succ_self, if_true, if_false, Nat.zero_lt_one, exists_eq_left, List.nil_append, List.cons_append, List.append_nil]
theorem k_core {nf : Nat} (h3 : 3 ≤ nf) (hnf : nf ≤ 16) (f : FC s I P N L z l) (hN5 : N 0 = 1) (hN17 : N 12 = 0) (hN4 : N 2 = 0) (hz : z = g 12 0) (hg : ∀ i, i < nf → g 2 i = z + 1 + i) : ∃ s', (∀ X, Rn g 0 0 [some (.inr (.inr (some (0, 0)))), some (.inl (nI nf)), none] [] s X ↔ X = (s', none)) ∧ FC s' (fun c k e => if c = 2 ∧ k = 0 ∧ e < nf then nI e else I c k e) (fun c k e => if c = 12 ∧ e = 0 ∧ k < nf then some k else uP P 0 0 0 (some 0) c k e) (fun c => if c = 2 then nf else uM N 12 c) (uL L 12 0 nf) (z + 1 + nf) (l + nf + 9 * nf) := by
  have e1 : cn s 0 = 1 := by rw [FC_cn f]; exact hN5
  have e2 : cn s 12 = 0 := by rw [FC_cn f]; exact hN17
  have e3 : sz s = g 12 0 := by rw [FC_sz f]; exact hz
  have f1 := FC_nwA (c := 12) (n := nf) f
  rw [hN17] at f1
  have f2 := FC_sP (c := 0) (k := 0) (i := 0) (v := some 0) f1 (by rw [uM_n (by omega), hN5]; omega)
  have f3 := FC_cg (I' := fun c k e => if c = 2 ∧ k = 0 ∧ e < 0 then nI e else I c k e) (P' := fun c k e => if c = 12 ∧ e = 0 ∧ k < 0 then some k else uP P 0 0 0 (some 0) c k e) (N' := fun c => if c = 2 then 0 else uM N 12 c) (L' := uL L 12 0 nf) (z' := z + 1 + 0) (l' := l + nf + 9 * 0) f2 (fun c k e => by rw [if_neg (by omega)]) (fun c k e => by rw [if_neg (by omega)]) (fun c => by
      by_cases q : c = 2
      · rw [if_pos q, q, uM_n (by omega), hN4]
      · rw [if_neg q]) (fun _ _ _ => rfl) rfl rfl
  obtain ⟨s', r, f4⟩ := k_core_l (g := g) (w := nI nf) hnf (by rw [uM_n (by omega), hN5]) (by rw [uM_c, hN17]) (by unfold uP; rw [if_pos ⟨rfl, rfl, rfl⟩]) (by unfold uL; rw [if_pos ⟨rfl, rfl⟩]) hg nf 0 _ (by omega) f3
  rw [nI_0] at r
  refine ⟨s', fun X => ?_, f4⟩
  rw [← r]
  have q1 : (if (3 : Int32) < nI nf then nI nf else 3) = nI nf := by
    by_cases q : nf = 3
    · rw [q]; rfl
    · have q2 : (3 : Int32) < nI nf := nI_lt (a := 3) (by omega) (by omega)
      rw [if_pos q2]
  have q2 : ¬ nI nf < 0 := nI_pos (by omega)
  have q3 : (nI nf).toNatClampNeg = nf := nI_clamp (by omega)
  have q4 : nf ≤ 65536 := by omega
  simp only [e0_0, e0_1, e0_4, e0_5, e0_6, e0_7, e0_10, e0_13, e0_13s, e0_13sm, e0_16, e0_17, MM, MK, e1, e2, e3, q1, q2, q3, q4, not_false_eq_true, if_true, if_false, Nat.zero_lt_one, show ¬ (0 : Nat) = 12 by omega]
/-- the printer -/
theorem k_prn (f : FC s I P N L z l) (hN7 : N 7 = 1) (hN18 : N 18 = 0) (hz1 : z = g 9 (N 9)) (hz2 : z + 1 = g 19 (N 19)) (hz3 : z + 2 = g 18 0) : ∃ s', (∀ X, Rn g 53 0 [some (.inr (.inr (some (7, 0))))] [] s X ↔ X = (s', none)) ∧ FC s' I (uP (uP (uP P 9 0 (N 9) (some (N 19))) 7 0 0 (some (N 9))) 7 2 0 (some 0)) (uM (uM (uM N 9) 19) 18) (uL (uL L 19 (N 19) 400) 18 0 4) (z + 3) (l + 3 + 400 + 4) := by
  have e1 : cn s 7 = 1 := by rw [FC_cn f]; exact hN7
  have e3 : sz s = g 9 (N 9) := by rw [FC_sz f]; exact hz1
  have e4 := FC_cn f 9
  have f1 := FC_nw (c := 9) (n := 3) f (by omega)
  obtain ⟨s1, r1, f2⟩ := k_row (g := g) (i := N 9) (w := 400) (m := 400) f1 (by rw [uM_c]; omega) rfl (by omega) (by omega) (by rw [uM_n (by omega)]; exact hz2)
  rw [uM_n (c := 9) (by omega)] at f2
  have f3 := FC_sP (c := 7) (k := 0) (i := 0) (v := some (N 9)) f2 (by rw [uM_n (by omega), uM_n (by omega), hN7]; omega)
  have f4 := FC_nwA (c := 18) (n := 4) f3
  rw [uM_n (c := 19) (by omega), uM_n (c := 9) (by omega), hN18] at f4
  have f5 := FC_sP (c := 7) (k := 2) (i := 0) (v := some 0) f4 (by rw [uM_n (by omega), uM_n (by omega), uM_n (by omega), hN7]; omega)
  have d1 : cn s1 7 = 1 := by rw [FC_cn f2, uM_n (by omega), uM_n (by omega)]; exact hN7
  have d2 : cn s1 18 = 0 := by rw [FC_cn f2, uM_n (by omega), uM_n (by omega)]; exact hN18
  have d3 : sz s1 = g 18 0 := by rw [FC_sz f2]; exact hz3
  refine ⟨_, fun X => ?_, f5⟩
  simp only [e53_0, e53_1, e53_4, e53_5, e53_8, e53_9, e53_12, e53_15, e53_15s, e53_15sm, e53_18, e53_19, e53_20, e53_23, e53_23s, e53_23sm, e53_26, MM, MK, e1, e3, e4, d1, d2, d3, r1, c4', not_false_eq_true, show (4 : Nat) ≤ 65536 by omega, if_true, if_false, Nat.zero_lt_one, exists_eq_left, List.nil_append, List.cons_append, List.append_nil, show ¬ (7 : Nat) = 18 by omega, show ¬ (7 : Nat) = 9 by omega]
theorem k_proc (f : FC s I P N L z l) (hN : N 8 = 1) : ∃ s', (∀ X, Rn g 57 0 [some (.inr (.inr (some (8, 0)))), some (.inr (.inr (some (0, 0)))), some (.inr (.inr (some (5, 0))))] [] s X ↔ X = (s', none)) ∧ FC s' I (uP (uP P 8 0 0 (some 0)) 8 1 0 (some 0)) N L z l := by
  have e1 : cn s 8 = 1 := by rw [FC_cn f]; exact hN
  have f1 := FC_sP (c := 8) (k := 0) (i := 0) (v := some 0) f (by omega)
  have f2 := FC_sP (c := 8) (k := 1) (i := 0) (v := some 0) f1 (by omega)
  refine ⟨_, fun X => ?_, f2⟩
  simp only [e57_0, e57_1, e57_4, e57_5, e57_6, e57_6s, e57_6sm, e57_9, e57_10, e57_11, e57_11s, e57_11sm, e57_14, MM, MK, e1, Nat.zero_lt_one]
end Fc3
