/-! CONSTRUCTORS: what the memory is, as plain functions; what is not made yet is 0 -/
def FC (s : Sg) (I : Nat → Nat → Nat → Int32) (P : Nat → Nat → Nat → Option Nat) (N : Nat → Nat) (L : Nat → Nat → Nat) (z l : Nat) : Prop :=
  (∀ c k i, gI s c k i = I c k i) ∧ (∀ c k i, gJ s c k i = 0) ∧ (∀ c k i, gP s c k i = P c k i) ∧ (∀ c, cn s c = N c) ∧ (∀ c i, 12 ≤ c → ln s c i = L c i) ∧ (sz s = z ∧ sl s = l) ∧ (∀ c k i, N c ≤ i → I c k i = 0) ∧ ∀ c k i, N c ≤ i → P c k i = none
def uI (I : Nat → Nat → Nat → Int32) (c k i : Nat) (v : Int32) : Nat → Nat → Nat → Int32 := fun c' k' i' => if c' = c ∧ k' = k ∧ i' = i then v else I c' k' i'
def uP (P : Nat → Nat → Nat → Option Nat) (c k i : Nat) (v : Option Nat) : Nat → Nat → Nat → Option Nat := fun c' k' i' => if c' = c ∧ k' = k ∧ i' = i then v else P c' k' i'
def uM (N : Nat → Nat) (c : Nat) : Nat → Nat := fun c' => if c' = c then N c + 1 else N c'
def uL (L : Nat → Nat → Nat) (c i n : Nat) : Nat → Nat → Nat := fun c' i' => if c' = c ∧ i' = i then n else L c' i'
section Fc1
variable {g : Nat → Nat → Nat} {s : Sg} {I I' : Nat → Nat → Nat → Int32} {P P' : Nat → Nat → Nat → Option Nat} {N N' : Nat → Nat} {L L' : Nat → Nat → Nat} {z l z' l' c k i n : Nat}
theorem FC_sI {v : Int32} (f : FC s I P N L z l) (h : i < N c) : FC (sI s c k i v) (uI I c k i v) P N L z l := by
  obtain ⟨f1, f2, f3, f4, f5, f6, f7, f8⟩ := f
  refine ⟨fun c' k' i' => ?_, f2, f3, f4, f5, f6, fun c' k' i' hi => ?_, f8⟩
  · rw [gI_sI, f1]; rfl
  · unfold uI
    rw [if_neg (fun q => by rw [q.1, q.2.2] at hi; omega)]
    exact f7 c' k' i' hi
theorem FC_sP {v : Option Nat} (f : FC s I P N L z l) (h : i < N c) : FC (sP s c k i v) I (uP P c k i v) N L z l := by
  obtain ⟨f1, f2, f3, f4, f5, f6, f7, f8⟩ := f
  refine ⟨f1, f2, fun c' k' i' => ?_, f4, f5, f6, f7, fun c' k' i' hi => ?_⟩
  · rw [gP_sP, f3]; rfl
  · unfold uP
    rw [if_neg (fun q => by rw [q.1, q.2.2] at hi; omega)]
    exact f8 c' k' i' hi
theorem FC_nwA (f : FC s I P N L z l) : FC (nw s c n) I P (uM N c) (uL L c (N c) n) (z + 1) (l + n) := by
  obtain ⟨f1, f2, f3, f4, f5, ⟨f6, f6'⟩, f7, f8⟩ := f
  have hle : ∀ c', N c' ≤ uM N c c' := fun c' => by
    unfold uM
    by_cases q : c' = c
    · rw [if_pos q, q]; omega
    · rw [if_neg q]; omega
  refine ⟨fun c' k' i' => ?_, fun c' k' i' => ?_, fun c' k' i' => ?_, fun c' => ?_, fun c' i' hc => ?_, ⟨by rw [sz_nw, f6], by rw [sl_nw, f6']⟩, fun c' k' i' hi => f7 c' k' i' (Nat.le_trans (hle c') hi), fun c' k' i' hi => f8 c' k' i' (Nat.le_trans (hle c') hi)⟩
  · rw [gI_nw, f4]
    by_cases q : c' = c ∧ i' = N c
    · rw [if_pos q, f7 c' k' i' (by rw [q.1, q.2]; omega)]
    · rw [if_neg q, f1]
  · rw [gJ_nw, f2, ite_self]
  · rw [gP_nw, f4]
    by_cases q : c' = c ∧ i' = N c
    · rw [if_pos q, f8 c' k' i' (by rw [q.1, q.2]; omega)]
    · rw [if_neg q, f3]
  · rw [cn_nw, f4, f4]; rfl
  · rw [ln_nw, f4, f5 c' i' hc]; rfl
theorem FC_cg (f : FC s I P N L z l) (h1 : ∀ c k i, I c k i = I' c k i) (h2 : ∀ c k i, P c k i = P' c k i) (h3 : ∀ c, N c = N' c) (h4 : ∀ c i, 12 ≤ c → L c i = L' c i) (h5 : z = z') (h6 : l = l') : FC s I' P' N' L' z' l' := by
  obtain ⟨f1, f2, f3, f4, f5, f6, f7, f8⟩ := f
  subst h5
  subst h6
  exact ⟨fun c k i => (f1 c k i).trans (h1 c k i), f2, fun c k i => (f3 c k i).trans (h2 c k i), fun c => (f4 c).trans (h3 c), fun c i hc => (f5 c i hc).trans (h4 c i hc), f6, fun c k i hi => by rw [← h1]; exact f7 c k i (by rw [h3]; exact hi), fun c k i hi => by rw [← h2]; exact f8 c k i (by rw [h3]; exact hi)⟩
theorem FC_nw (f : FC s I P N L z l) (hc : c < 12) : FC (nw s c n) I P (uM N c) L (z + 1) (l + n) :=
  FC_cg (FC_nwA f) (fun _ _ _ => rfl) (fun _ _ _ => rfl) (fun _ => rfl) (fun c' i' h => by unfold uL; rw [if_neg (by omega)]) rfl rfl
theorem FC_cn (f : FC s I P N L z l) (c : Nat) : cn s c = N c := f.2.2.2.1 c
theorem FC_gP (f : FC s I P N L z l) (c k i : Nat) : gP s c k i = P c k i := f.2.2.1 c k i
theorem FC_gI (f : FC s I P N L z l) (c k i : Nat) : gI s c k i = I c k i := f.1 c k i
theorem FC_ln (f : FC s I P N L z l) (c i : Nat) (h : 12 ≤ c) : ln s c i = L c i := f.2.2.2.2.1 c i h
theorem FC_sz (f : FC s I P N L z l) : sz s = z := f.2.2.2.2.2.1.1
theorem uM_c : uM N c c = N c + 1 := by unfold uM; rw [if_pos rfl]
theorem uM_n {c' : Nat} (h : ¬ c' = c) : uM N c c' = N c' := by unfold uM; rw [if_neg h]
end Fc1
section Fc2
variable {g : Nat → Nat → Nat} {s : Sg} {X : Sg × Option Av} {I I' : Nat → Nat → Nat → Int32} {P P' : Nat → Nat → Nat → Option Nat} {N N' : Nat → Nat} {L L' : Nat → Nat → Nat} {z l z' l' c k i n : Nat}
/-- a row -/
theorem k_row {w : Int32} {m : Nat} (f : FC s I P N L z l) (hi : i < N 9) (hw : w = nI m) (h1 : 1 ≤ m) (h2 : m ≤ 65536) (hz : z = g 19 (N 19)) : ∃ s', (∀ X, Rn g 76 0 [some (.inr (.inr (some (9, i)))), some (.inl w)] [] s X ↔ X = (s', none)) ∧ FC s' I (uP P 9 0 i (some (N 19))) (uM N 19) (uL L 19 (N 19) m) (z + 1) (l + m) := by
  have f1 := FC_nwA (c := 19) (n := m) f
  have f2 := FC_sP (c := 9) (k := 0) (i := i) (v := some (N 19)) f1 (by rw [uM_n (by omega)]; exact hi)
  refine ⟨_, fun X => ?_, f2⟩
  have e1 : (if (1 : Int32) < w then w else 1) = nI m := by
    rw [hw]
    by_cases q : m = 1
    · rw [q]; rfl
    · have q2 : (1 : Int32) < nI m := nI_lt (a := 1) (by omega) (by omega)
      rw [if_pos q2]
  have e2 : ¬ nI m < 0 := nI_pos (by omega)
  have e3 : (nI m).toNatClampNeg = m := nI_clamp (by omega)
  have e4 : sz s = g 19 (N 19) := by rw [FC_sz f, hz]
  have e5 : i < cn s 9 := by rw [FC_cn f]; exact hi
  have e6 := FC_cn f 19
  simp only [e76_0, e76_1, e76_4, e76_5, e76_6, e76_7, e76_10, e76_12, e76_12s, e76_12sm, e76_15, MM, MK, e1, e2, e3, e4, e5, e6, h2, not_false_eq_true, show ¬ (9 : Nat) = 19 by omega, if_false, if_true]
theorem k_page (f : FC s I P N L z l) (hi : i < N 4) : ∃ s', (∀ X, Rn g 41 0 [some (.inr (.inr (some (4, i))))] [] s X ↔ X = (s', none)) ∧ FC s' (uI I 4 0 i (-1)) P N L z l := by
  have e5 : i < cn s 4 := by rw [FC_cn f]; exact hi
  refine ⟨_, fun X => ?_, FC_sI f hi⟩
  simp only [e41_0, e41_1, e41_4, e41_5, e41_6, e41_9, MM, MK, e5]
theorem k_place {w : Int32} (f : FC s I P N L z l) (hi : i < N 6) : ∃ s', (∀ X, Rn g 51 0 [some (.inr (.inr (some (6, i)))), some (.inl w)] [] s X ↔ X = (s', none)) ∧ FC s' (uI I 6 0 i w) P N L z l := by
  have e5 : i < cn s 6 := by rw [FC_cn f]; exact hi
  refine ⟨_, fun X => ?_, FC_sI f hi⟩
  simp only [e51_0, e51_1, e51_4, e51_5, e51_6, e51_9, MM, MK, e5]
theorem k_frame {w : Int32} (f : FC s I P N L z l) (hi : i < N 2) : ∃ s', (∀ X, Rn g 22 0 [some (.inr (.inr (some (2, i)))), some (.inl w)] [] s X ↔ X = (s', none)) ∧ FC s' (uI (uI I 2 1 i 0) 2 0 i w) P N L z l := by
  have e5 : i < cn s 2 := by rw [FC_cn f]; exact hi
  refine ⟨_, fun X => ?_, FC_sI (FC_sI f hi) hi⟩
  simp only [e22_0, e22_1, e22_4, e22_5, e22_6, e22_9, e22_10, e22_11, e22_14, MM, MK, e5]
/-- the pages -/
theorem k_pages_l (hN5 : N 5 = 1) (hN17 : N 17 = 1) (hP : P 5 0 0 = some 0) (hL : L 17 0 = 64) (hg : ∀ i, i < 64 → g 4 i = z + i) : ∀ m i s, i + m = 64 → FC s (fun c k e => if c = 4 ∧ k = 0 ∧ e < i then -1 else I c k e) (fun c k e => if c = 17 ∧ e = 0 ∧ k < i then some k else P c k e) (fun c => if c = 4 then i else N c) L (z + i) (l + 5 * i) → ∃ s', (∀ X, Rn g 47 15 [some (.inr (.inr (some (5, 0)))), some (.inl (nI i))] [] s X ↔ X = (s', none)) ∧ FC s' (fun c k e => if c = 4 ∧ k = 0 ∧ e < 64 then -1 else I c k e) (fun c k e => if c = 17 ∧ e = 0 ∧ k < 64 then some k else P c k e) (fun c => if c = 4 then 64 else N c) L (z + 64) (l + 5 * 64)
  | 0, i, s, hi, f => by
    obtain rfl : i = 64 := by omega
    have e1 : cn s 5 = 1 := by rw [FC_cn f]; exact hN5
    have e2 : cn s 17 = 1 := by rw [FC_cn f]; exact hN17
    have e3 : gP s 5 0 0 = some 0 := by rw [FC_gP f]; exact hP
    have e4 : ln s 17 0 = 64 := by rw [FC_ln f _ _ (by omega)]; exact hL
    have h1 : nI 64 ≤ nI 64 := by decide
    refine ⟨s, fun X => ?_, f⟩
    simp only [e47_15, e47_16, e47_17, e47_20, e47_21, e47_43, MM, MK, e1, e2, e3, e4, ofN, h1, if_true, Nat.zero_lt_one]
  | m + 1, i, s, hi, f => by
    have e1 : cn s 5 = 1 := by rw [FC_cn f]; exact hN5
    have e2 : cn s 17 = 1 := by rw [FC_cn f]; exact hN17
    have e3 : gP s 5 0 0 = some 0 := by rw [FC_gP f]; exact hP
    have e4 : ln s 17 0 = 64 := by rw [FC_ln f _ _ (by omega)]; exact hL
    have e5 : cn s 4 = i := by rw [FC_cn f, if_pos rfl]
    have e6 : sz s = g 4 i := by rw [FC_sz f, hg i (by omega)]
    have h1 : ¬ nI 64 ≤ nI i := nI_ge (by omega) (by omega)
    have f1 := FC_nw (c := 4) (n := 5) f (by omega)
    obtain ⟨s1, r1, f2⟩ := k_page (g := g) (i := i) f1 (by rw [uM_c, if_pos rfl]; omega)
    have f3 := FC_sP (c := 17) (k := i) (i := 0) (v := some i) f2 (by rw [uM_n (by omega), if_neg (by omega), hN17]; omega)
    have d1 : cn s1 17 = 1 := by rw [FC_cn f2, uM_n (by omega), if_neg (by omega), hN17]
    have d2 : cn s1 4 = i + 1 := by rw [FC_cn f2, uM_c, if_pos rfl]
    have d3 : ln s1 17 0 = 64 := by rw [FC_ln f2 _ _ (by omega)]; exact hL
    have f4 := FC_cg (I' := fun c k e => if c = 4 ∧ k = 0 ∧ e < i + 1 then -1 else I c k e) (P' := fun c k e => if c = 17 ∧ e = 0 ∧ k < i + 1 then some k else P c k e) (N' := fun c => if c = 4 then i + 1 else N c) (L' := L) (z' := z + (i + 1)) (l' := l + 5 * (i + 1)) f3 (fun c k e => by
        dsimp only [uI]
        (repeat' split) <;> first | rfl | (exfalso; omega)) (fun c k e => by
        dsimp only [uP]
        (repeat' split) <;> first | rfl | (exfalso; omega) | (congr 1; omega)) (fun c => by
        dsimp only [uM]
        (repeat' split) <;> first | rfl | (exfalso; omega) | omega) (fun c i h => rfl) (by omega) (by omega)
    obtain ⟨s', r2, f5⟩ := k_pages_l hN5 hN17 hP hL hg m (i + 1) _ (by omega) f4
    refine ⟨s', fun X => ?_, f5⟩
    rw [← r2]
    simp only [e47_15, e47_16, e47_17, e47_20, e47_21, e47_24, e47_25, e47_28, e47_29, e47_32, e47_33, e47_36, e47_36m, n47_37, MM, MK, e1, e2, e3, e4, e5, e6, ofN, h1, r1, d1, d2, d3, e47_40, nI_1, inN (show i < 64 by omega) (show 64 ≤ 65536 by decide), Nat.lt_succ_self, if_true, if_false, Nat.zero_lt_one, exists_eq_left, List.nil_append, List.cons_append, List.append_nil]
end Fc2
