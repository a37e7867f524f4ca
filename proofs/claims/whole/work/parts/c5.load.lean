/-! loading: the words, in both programs -/
section Lod2
variable {g : Nat → Nat → Nat} {s t u T : Sg} {X : Sg × Option Av} {nf B n : Nat} {Q : List Nat} {j : Nat}
theorem al_I {a p c k : Nat} {b : Int32} (h38 : ¬ c = 38) (h39 : ¬ c = 39) (h41 : ¬ c = 41) (h49 : ¬ c = 49) (h50 : ¬ c = 50) : gI (alR t j b a p) c k 0 = gI t c k 0 := by
  unfold alR
  rw [gI_sI, if_neg (by omega), gI_sI, if_neg (by omega), nslF_I h38 h39 h41]
theorem alF_I {c k m : Nat} (h38 : ¬ c = 38) (h39 : ¬ c = 39) (h41 : ¬ c = 41) (h49 : ¬ c = 49) (h50 : ¬ c = 50) : gI (alF t j m) c k 0 = gI t c k 0 := by
  unfold alF
  split
  · rfl
  · split
    · exact al_I h38 h39 h41 h49 h50
    · rfl
theorem alN_I {c i : Nat} (h38 : ¬ c = 38) (h39 : ¬ c = 39) (h41 : ¬ c = 41) (h49 : ¬ c = 49) (h50 : ¬ c = 50) : ∀ m k (t : Sg), gI (alN j t k m) c i 0 = gI t c i 0
  | 0, _, _ => rfl
  | m + 1, k, t => by rw [alN, alN_I h38 h39 h41 h49 h50 m (k + 1), alF_I h38 h39 h41 h49 h50]
theorem alC_10 {a p k : Nat} {b : Int32} : gI (alC s j b a p) 10 k 0 = gI s 10 k 0 := by
  unfold alC takF
  rw [gI_sP, gI_sI, if_neg (by omega), gI_sI, if_neg (by omega), gI_sI, if_neg (by omega), gI_sI, if_neg (by omega)]
  unfold hldF
  dsimp only
  split
  · rw [gI_sP, gI_nw, if_neg (by omega), gI_sI, if_neg (by omega), gI_sI, if_neg (by omega)]
  · show gI (sI (sI s 4 0 a (nI j)) 4 1 a b) 10 k 0 = _
    rw [gI_sI, if_neg (by omega), gI_sI, if_neg (by omega)]
/-- the class comes to the page of a word -/
theorem load_pg (hg : ∀ i, g 16 (i + 1) = g 16 i + 1) (hj : j < 4) {A c i : Nat} (hA : A + c ≤ 1048576) (hi : i < c) {x ad : Int32} {P : Option (Nat × Nat)} {z8 : Option Av} (h : Rl g s u nf B Q) (hs : gI u 22 j 0 = 0) (hb : BG u (cN u j (kB A i) (kB A c - kB A i))) (hf : cN u j (kB A i) (kB A c - kB A i) ≤ freF u) (hP : (i = 0 ∧ P = none) ∨ (0 < i ∧ ∃ x, P = some (4, x) ∧ slotF u (nI j) (nI ((A + i - 1) / 512)) = some x)) :
    ∃ s1 u1 x1, (∀ X, Rn g 88 95 [oC, some (.inl x), some (.inl (nI A)), some (.inr (.inr (some (3, j)))), some (.inl ad), some (.inl (nI c)), some (.inr (.inr P)), some (.inl (nI i)), z8] [] s X ↔ Rn g 88 140 [oC, some (.inl x), some (.inl (nI A)), some (.inr (.inr (some (3, j)))), some (.inl ad), some (.inl (nI c)), some (.inr (.inr (some (4, x1)))), some (.inl (nI i)), some (.inl (nI (A + i)))] [] s1 X) ∧ Rl g s1 u1 nf B Q ∧ gI u1 22 j 0 = 0 ∧ slotF u1 (nI j) (nI ((A + i) / 512)) = some x1 ∧ alN j u (kB A i) (kB A c - kB A i) = alN j u1 (kB A (i + 1)) (kB A c - kB A (i + 1)) ∧ BG u1 (cN u1 j (kB A (i + 1)) (kB A c - kB A (i + 1))) ∧ cN u1 j (kB A (i + 1)) (kB A c - kB A (i + 1)) ≤ freF u1 ∧ gI u1 11 2 0 = gI u 11 2 0 ∧ gI s1 10 8 0 = gI s 10 8 0 := by
  have k1 : kB A (i + 1) = (A + i) / 512 + 1 := by unfold kB; rw [if_neg (by omega)]; rfl
  have k2 : kB A c = (A + c - 1) / 512 + 1 := by unfold kB; rw [if_neg (by omega)]
  have w1 := h.1.1
  have hle : ¬ nI c ≤ nI i := nI_ge (by omega) (by omega)
  have hd := d512 (show A + i < 2 ^ 31 by omega)
  have n5 : ¬ (512 : Int32) = 0 := by decide
  -- the page that is there is the word's
  by_cases q : 0 < i ∧ (A + i - 1) / 512 = (A + i) / 512
  · rcases hP with ⟨z, -⟩ | ⟨hi0, x1, rfl, e⟩
    · omega
    have k0 : kB A i = kB A (i + 1) := by unfold kB; rw [if_neg (by omega), if_neg (by omega)]; have := q.2; omega
    rw [q.2] at e
    obtain ⟨b1, b2, b3, b4, b5⟩ := wd_here h hj e
    have hblk : gI s 4 1 x1 = nI ((A + i) / 512) := by
      rw [h.2.2.1.2.1.2 x1 b1]
      exact (ff_some e).2.2.1.2
    rw [k0] at hb hf
    refine ⟨s, u, x1, fun X => ?_, h, hs, e, by rw [k0], hb, hf, rfl, rfl⟩
    simp only [e88_95, e88_97, e88_99, e88_102, e88_103, e88_105, e88_106, e88_108, e88_110, e88_113, e88_115, e88_118, e88_120, e88_123, e88_124, MM, MK, w1, hle, nI_add, hd, n5, b1, hblk, if_true, if_false, reduceCtorEq, not_false_eq_true]
  · have k0 : kB A i = (A + i) / 512 := by
      unfold kB
      by_cases i0 : i = 0
      · rw [if_pos i0, i0]; rfl
      · rw [if_neg i0]; omega
    have hm : kB A c - kB A i = (kB A c - kB A (i + 1)) + 1 := by omega
    rw [hm, k0] at hb hf
    have go : ∀ X, Rn g 88 95 [oC, some (.inl x), some (.inl (nI A)), some (.inr (.inr (some (3, j)))), some (.inl ad), some (.inl (nI c)), some (.inr (.inr P)), some (.inl (nI i)), z8] [] s X ↔ Rn g 88 127 [oC, some (.inl x), some (.inl (nI A)), some (.inr (.inr (some (3, j)))), some (.inl ad), some (.inl (nI c)), some (.inr (.inr P)), some (.inl (nI i)), some (.inl (nI (A + i)))] [] s X := fun X => by
      rcases hP with ⟨i0, rfl⟩ | ⟨hi0, x0, rfl, e⟩
      · simp only [e88_95, e88_97, e88_99, e88_102, e88_103, e88_105, e88_106, e88_108, e88_110, e88_113, e88_115, e88_118, e88_120, e88_123, e88_124, MM, MK, w1, hle, nI_add, hd, n5, if_true, if_false, reduceCtorEq, not_false_eq_true]
      · obtain ⟨b1, b2, b3, b4, b5⟩ := wd_here h hj e
        have hblk : ¬ gI s 4 1 x0 = nI ((A + i) / 512) := by
          rw [h.2.2.1.2.1.2 x0 b1, (ff_some e).2.2.1.2]
          intro z
          have := (nI_eq (by omega) (by omega)).mp z
          exact q ⟨hi0, this⟩
        simp only [e88_95, e88_97, e88_99, e88_102, e88_103, e88_105, e88_106, e88_108, e88_110, e88_113, e88_115, e88_118, e88_120, e88_123, e88_124, MM, MK, w1, hle, nI_add, hd, n5, b1, hblk, if_true, if_false, reduceCtorEq, not_false_eq_true]
    rcases al_step hg (by omega) h hj hs hb hf with ⟨x1, e, a1, a2, a3⟩ | ⟨a, p, e, b1, b2, b3, b4, b5, b6, b7, b8, b9, b10⟩
    · have r := fun X => c_ptl_y (g := g) (X := X) h hj e
      refine ⟨s, u, x1, fun X => ?_, h, hs, e, by rw [hm, k0, alN, a1, k1], by rw [k1]; exact a2, by rw [k1]; exact a3, rfl, rfl⟩
      rw [go]
      simp only [e88_127, e88_128, e88_129, e88_131, e88_134, e88_135, e88_138, MM, MK, w1, hd, n5, r, if_true, if_false, Nat.zero_lt_one, exists_eq_left, List.nil_append, List.cons_append, List.append_nil, not_false_eq_true]
    · have r := fun X => c_ptl_n (g := g) (X := X) h hj e b1 b2 b3 b4
      refine ⟨_, _, a, fun X => ?_, b6, b7, b8, by rw [hm, k0, alN, b5, k1], by rw [k1]; exact b9, by rw [k1]; exact b10, al_I (by omega) (by omega) (by omega) (by omega) (by omega), alC_10⟩
      rw [go]
      simp only [e88_127, e88_128, e88_129, e88_131, e88_134, e88_135, e88_138, MM, MK, w1, hd, n5, r, if_true, if_false, Nat.zero_lt_one, exists_eq_left, List.nil_append, List.cons_append, List.append_nil, not_false_eq_true]
theorem load_l (hg : ∀ i, g 16 (i + 1) = g 16 i + 1) (hj : j < 4) {A c : Nat} (hA : A + c ≤ 1048576) {x ad w3 LL w5 : Int32} {l7 l8 : Option Av} : ∀ m i (s u T : Sg) (P : Option (Nat × Nat)) (z8 : Option Av), i + m = c → Rl g s u nf B Q → gI u 22 j 0 = 0 → BG u (cN u j (kB A i) (kB A c - kB A i)) → cN u j (kB A i) (kB A c - kB A i) ≤ freF u → ((i = 0 ∧ P = none) ∨ (0 < i ∧ ∃ x, P = some (4, x) ∧ slotF u (nI j) (nI ((A + i - 1) / 512)) = some x)) → gI u 11 2 0 = nI c → c ≤ 1000 → T = alN j u (kB A i) (kB A c - kB A i) → LR T nf → ∃ s' T' P' z', (∀ X, Rn g 88 95 [oC, some (.inl x), some (.inl (nI A)), some (.inr (.inr (some (3, j)))), some (.inl ad), some (.inl (nI c)), some (.inr (.inr P)), some (.inl (nI i)), z8] [] s X ↔ Rn g 88 171 [oC, some (.inl x), some (.inl (nI A)), some (.inr (.inr (some (3, j)))), some (.inl ad), some (.inl (nI c)), P', some (.inl (nI c)), z'] [] s' X) ∧ (∀ X, Rn g 133 233 [oR, some (.inl (nI j)), some (.inl (nI A)), some (.inl w3), some (.inl LL), some (.inl w5), some (.inl (nI i)), l7, l8] [] T X ↔ Rn g 133 264 [oR, some (.inl (nI j)), some (.inl (nI A)), some (.inl w3), some (.inl LL), some (.inl w5), some (.inl (nI c)), l7, l8] [] T' X) ∧ Rl g s' T' nf B Q ∧ gI T' 22 j 0 = 0 ∧ gI s' 10 8 0 = gI s 10 8 0 ∧ gI T' 11 47 0 = gI T 11 47 0
  | 0, i, s, u, T, P, z8, hi, h, hs, hb, hf, hP, hc, hc2, hT, hL => by
    obtain rfl : i = c := by omega
    rw [Nat.sub_self] at hT
    obtain rfl : T = u := hT
    have hle : nI i ≤ nI i := nI_le (by omega) (by omega)
    refine ⟨s, T, some (.inr (.inr P)), z8, fun X => ?_, fun X => ?_, h, hs, rfl, rfl⟩
    · simp only [e88_95, e88_97, e88_99, MM, MK, hle, if_true]
    · simp only [e133_233, e133_235, e133_236, e133_239, MM, MK, hL, hc, hle, if_true, Nat.zero_lt_one]
  | m + 1, i, s, u, T, P, z8, hi, h, hs, hb, hf, hP, hc, hc2, hT, hL => by
    obtain ⟨s1, u1, x1, a1, a2, a3, a4, a5, a6, a7, a8, a9⟩ := load_pg (x := x) (ad := ad) (z8 := z8) hg hj hA (show i < c by omega) h hs hb hf hP
    have hle : ¬ nI c ≤ nI i := nI_ge (by omega) (by omega)
    have hT1 : T = alN j u1 (kB A (i + 1)) (kB A c - kB A (i + 1)) := hT.trans a5
    obtain ⟨b1, b2, b3, b4, b5⟩ := wd_here a2 hj a4
    obtain ⟨c', f0, y1, y2, y3⟩ := a2.2.2.2.1.2.2.2.2.2.1
    have hc' : c' = c := by
      have := y1.2.2.1
      rw [cap_0] at this
      exact (nI_eq (by omega) (by omega)).mp (y2.symm.trans (a8.trans hc))
    subst hc'
    obtain ⟨z1, z2⟩ := y3 i (by omega)
    have w1 := a2.1.1
    have r1 := fun X => c_at (g := g) (X := X) (x0 := nI i) w1 (show 0 < 11 by omega) y1
    rw [if_neg (fun z => z.elim (nI_pos (by omega)) (fun z => z (nI_lt (by omega) (by omega)))), nI_clamp (by omega), z1] at r1
    have he : (A + i) % 512 < 512 := Nat.mod_lt _ (by omega)
    have r2 := fun X => c_putWord (g := g) (X := X) (v := gJ u1 21 i 0) w1 b1 he b2 b3
    have step := rl_put (v := gJ u1 21 i 0) a2 b1 he z2 b4
    have hT2 : sJ T 40 (512 * x1 + (A + i) % 512) 0 (gJ u1 21 i 0) = alN j (sJ u1 40 (512 * x1 + (A + i) % 512) 0 (gJ u1 21 i 0)) (kB A (i + 1)) (kB A c' - kB A (i + 1)) := by
      rw [hT1]
      exact (alN_J he _ _ _ b4).symm
    have hcN : ∀ k m, cN (sJ u1 40 (512 * x1 + (A + i) % 512) 0 (gJ u1 21 i 0)) j k m = cN u1 j k m := fun k m => by
      unfold cN
      exact cf_cg (fun y _ _ => by rw [sl_J])
    obtain ⟨s', T', P', z', d1, d2, d3, d4, d5, d6⟩ := load_l hg hj hA (x := x) (ad := ad) (w3 := w3) (LL := LL) (w5 := w5) (l7 := l7) (l8 := l8) m (i + 1) _ _ (sJ T 40 (512 * x1 + (A + i) % 512) 0 (gJ u1 21 i 0)) (some (4, x1)) (some (.inl (nI (A + i)))) (by omega) step a3 (by rw [hcN]; exact a6) (by rw [hcN]; exact a7) (Or.inr ⟨by omega, x1, rfl, by rw [sl_J]; exact a4⟩) (a8.trans hc) hc2 hT2 (LR_sJ hL)
    have hv : gJ T 21 i 0 = gJ u1 21 i 0 := by rw [hT1, alN_21]
    have hsT : slotF T (nI j) (nI ((A + i) / 512)) = some x1 := by rw [hT1]; exact alN_sl hj _ _ _ a4
    have hcT : gI T 11 2 0 = nI c' := by rw [hT, alN_I (by omega) (by omega) (by omega) (by omega) (by omega)]; exact hc
    have r3 := fun X => r_put (g := g) (X := X) (v := gJ u1 21 i 0) hL (show A + i < 1048576 by omega) hsT b1
    refine ⟨s', T', P', z', fun X => ?_, fun X => ?_, d3, d4, d5.trans a9, d6⟩
    · rw [a1, ← d1]
      simp only [e88_140, e88_142, e88_145, e88_147, e88_149, e88_152, e88_153, e88_154, e88_157, e88_159, e88_162, n88_165, MM, MK, w1, b1, m512 (show A + i < 2 ^ 31 by omega), r1, r2, e88_168, nI_1, if_true, if_false, Nat.zero_lt_one, exists_eq_left, List.nil_append, List.cons_append, List.append_nil, reduceCtorEq, not_false_eq_true, show ¬ (512 : Int32) = 0 by decide, show (0 : Nat) < 11 by omega]
    · rw [← d2]
      simp only [e133_233, e133_235, e133_236, e133_239, e133_242, e133_243, e133_244, e133_245, e133_247, e133_248, e133_249, e133_252, e133_254, e133_255, n133_258, MM, MK, hL, hcT, hle, hv, nI_add, r3, e133_261, nI_1, inN (show i < 1000 by omega) (show 1000 ≤ 65536 by decide), if_true, if_false, Nat.zero_lt_one, exists_eq_left, List.nil_append, List.cons_append, List.append_nil]
end Lod2
