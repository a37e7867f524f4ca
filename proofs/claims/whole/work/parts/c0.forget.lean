/-! a job is forgotten: loops as one write, the row of jobs that are over as a list -/
theorem fi1_eq (j : Nat) : ∀ n i (s : Sg), fi1 j s i n = ((fun c k e => if c = 15 ∧ e = j ∧ i ≤ k ∧ k < i + n then 0 else gI s c k e), s.2)
  | 0, i, s => by
    refine Prod.ext ?_ rfl
    funext c k e
    show s.1 c k e = if _ then _ else _
    rw [if_neg (by omega)]; rfl
  | n + 1, i, s => by
    rw [fi1, fi1_eq j n (i + 1)]
    refine Prod.ext ?_ rfl
    funext c k e
    simp only [gI_sI]
    grind
/-- registers of job j become 0 -/
def zbF (j : Nat) : Sg → Nat → Nat → Sg
  | t, _, 0 => t
  | t, i, n + 1 => zbF j (sI t 33 (128 * j + i) 0 0) (i + 1) n
theorem zb_eq (j : Nat) : ∀ n i (t : Sg), zbF j t i n = ((fun c k e => if c = 33 ∧ e = 0 ∧ 128 * j + i ≤ k ∧ k < 128 * j + i + n then 0 else gI t c k e), t.2)
  | 0, i, t => by
    refine Prod.ext ?_ rfl
    funext c k e
    show t.1 c k e = if _ then _ else _
    rw [if_neg (by omega)]; rfl
  | n + 1, i, t => by
    rw [zbF, zb_eq j n (i + 1)]
    refine Prod.ext ?_ rfl
    funext c k e
    simp only [gI_sI]
    grind
def frF (t : Sg) (j : Nat) : Sg := zbF j (sJ (sI (sI (sI (sI (sI (sI (sI (sI (sI (sI (sI (sI t 22 j 0 0) 23 j 0 0) 24 j 0 0) 25 j 0 (-1)) 26 j 0 0) 27 j 0 0) 28 j 0 0) 29 j 0 (-1)) 30 j 0 0) 31 j 0 0) 32 j 0 0) 41 j 0 0) 34 j 0 0) 0 128
/-- the class's row of jobs that are over, laid anew; the reference's -/
def ofr (s : Sg) (H : Nat → Option Nat) : Sg := (s.1, s.2.1, (fun c m e => if c = 18 ∧ e = 0 then H m else gP s c m e), s.2.2.2)
def ofR (t : Sg) (G : Nat → Int32) : Sg := ((fun c m e => if c = 37 ∧ e = 0 then G m else gI t c m e), t.2)
theorem ofr_id (s : Sg) : ofr s (fun m => gP s 18 m 0) = s := by
  refine Prod.ext rfl (Prod.ext rfl (Prod.ext ?_ rfl))
  funext c m e
  show (if _ then _ else _) = s.2.2.1 c m e
  split
  · rename_i h; rw [h.1, h.2]; rfl
  · rfl
theorem ofR_id (t : Sg) : ofR t (fun m => gI t 37 m 0) = t := by
  refine Prod.ext ?_ rfl
  funext c m e
  show (if _ then _ else _) = t.1 c m e
  split
  · rename_i h; rw [h.1, h.2]; rfl
  · rfl
section Fgt1
variable {g : Nat → Nat → Nat} {s t u : Sg} {X : Sg × Option Av} {nf B n : Nat} {Q : List Nat}
theorem r_fresh_l {j : Nat} (hj : j < 4) : ∀ n i (t : Sg), LR t nf → i + n = 128 → (Rn g 121 93 [oR, some (.inl (nI j)), some (.inl (nI i))] [] t X ↔ X = (zbF j t i n, none))
  | 0, i, t, h, hi => by
    obtain rfl : i = 128 := by omega
    have h1 : (128 : Int32) ≤ nI 128 := by decide
    simp only [e121_93, e121_94, e121_97, e121_119, MM, MK, h1, zbF, if_true]
  | n + 1, i, t, h, hi => by
    have h1 : ¬ (128 : Int32) ≤ nI i := nI_ge (b := 128) (by omega) (by decide)
    have ih := r_fresh_l hj n (i + 1) (sI t 33 (128 * j + i) 0 0) (LR_sI (by omega) h) (by omega)
    have hin := inN (show 128 * j + i < 512 by omega) (by omega)
    simp only [e121_93, e121_94, e121_97, e121_100, e121_101, e121_104, e121_107, e121_108, e121_109, e121_110, e121_111, e121_112, n121_113, MM, MK, h, h1, t128, nI_add, hin, if_false, Nat.zero_lt_one]
    rw [e121_116, nI_1]
    exact ih
theorem r_fresh (h : LR t nf) {j : Nat} (hj : j < 4) : Rn g 121 0 [oR, some (.inl (nI j)), none] [] t X ↔ X = (frF t j, none) := by
  have hj4 := inN hj (by omega)
  have hM : LR (sJ (sI (sI (sI (sI (sI (sI (sI (sI (sI (sI (sI (sI t 22 j 0 0) 23 j 0 0) 24 j 0 0) 25 j 0 (-1)) 26 j 0 0) 27 j 0 0) 28 j 0 0) 29 j 0 (-1)) 30 j 0 0) 31 j 0 0) 32 j 0 0) 41 j 0 0) 34 j 0 0) nf := LR_sJ (LR_sI (by omega) (LR_sI (by omega) (LR_sI (by omega) (LR_sI (by omega) (LR_sI (by omega) (LR_sI (by omega) (LR_sI (by omega) (LR_sI (by omega) (LR_sI (by omega) (LR_sI (by omega) (LR_sI (by omega) (LR_sI (by omega) h))))))))))))
  have r := r_fresh_l (g := g) (X := X) hj 128 0 _ hM (by omega)
  rw [nI_0] at r
  unfold frF
  rw [← r]
  simp only [e121_0, e121_1, e121_4, e121_5, e121_6, e121_7, e121_8, e121_11, e121_12, e121_13, e121_14, e121_15, e121_18, e121_19, e121_20, e121_21, e121_22, e121_25, e121_26, e121_27, e121_28, e121_29, e121_32, e121_33, e121_34, e121_35, e121_36, e121_39, e121_40, e121_41, e121_42, e121_43, e121_46, e121_47, e121_48, e121_49, e121_50, e121_53, e121_54, e121_55, e121_56, e121_57, e121_60, e121_61, e121_62, e121_63, e121_64, e121_67, e121_68, e121_69, e121_70, e121_71, e121_74, e121_75, e121_76, e121_77, e121_78, e121_81, e121_82, e121_83, e121_84, e121_85, e121_88, e121_89, e121_90, e121_91, e121_92, MM, MK, h, hj4, Nat.zero_lt_one]
theorem LC_ofr {H : Nat → Option Nat} (h : LC s nf) : LC (ofr s H) nf := by
  refine LC_cg h (fun c k e hc => rfl) (fun c k e hc => ?_) rfl
  unfold dyP at hc
  show (if _ then _ else _) = _
  rw [if_neg (by omega)]
theorem dr_l {j : Nat} : ∀ (L K : List Nat) (i : Nat) (H : Nat → Option Nat), K.length ≤ i → (∀ m f, K[m]? = some f → H m = some f) → (∀ m f, L[m]? = some f → H (i + m) = some f) → ∃ H', drF j i L.length (ofr s H, K.length) = (ofr s H', (K ++ L.filter (fun f => !decide (f = j))).length) ∧ ∀ m f, (K ++ L.filter (fun f => !decide (f = j)))[m]? = some f → H' m = some f
  | [], K, i, H, h0, h1, h2 => ⟨H, by simp [drF], by simpa using h1⟩
  | a :: L, K, i, H, h0, h1, h2 => by
    have e0 : gP (ofr s H) 18 i 0 = some a := by
      rw [ofr, tup_P, if_pos ⟨rfl, rfl⟩]
      exact h2 0 a rfl
    rw [List.length_cons, drF]
    simp only [e0]
    by_cases c : a = j
    · rw [if_pos c]
      have e2 : (a :: L).filter (fun f => !decide (f = j)) = L.filter (fun f => !decide (f = j)) := by simp [c]
      rw [e2]
      exact dr_l L K (i + 1) H (by omega) h1 (fun m f e => by rw [show i + 1 + m = i + (m + 1) by omega]; exact h2 (m + 1) f e)
    · rw [if_neg c]
      have e2 : K ++ (a :: L).filter (fun f => !decide (f = j)) = (K ++ [a]) ++ L.filter (fun f => !decide (f = j)) := by simp [c]
      have e3 : sP (ofr s H) 18 K.length 0 (some a) = ofr s (fun m => if m = K.length then some a else H m) := by
        refine Prod.ext rfl (Prod.ext rfl (Prod.ext ?_ rfl))
        funext c m e
        show (if _ then _ else if _ then _ else _) = if _ then (if _ then _ else _) else _
        grind
      have e4 : K.length + 1 = (K ++ [a]).length := by simp
      rw [e2, e3, e4]
      refine dr_l L (K ++ [a]) (i + 1) _ (by simp; omega) (fun m f e => ?_) (fun m f e => ?_)
      · by_cases q : m = K.length
        · subst q
          rw [if_pos rfl]
          simpa using e
        · rw [if_neg q]
          have := gQ_lt e
          rw [List.length_append] at this
          simp only [List.length_cons, List.length_nil] at this
          rw [List.getElem?_append_left (by omega)] at e
          exact h1 m f e
      · rw [if_neg (by omega), show i + 1 + m = i + (m + 1) by omega]
        exact h2 (m + 1) f e
theorem LR_ofR {G : Nat → Int32} (h : LR t nf) : LR (ofR t G) nf := LR_gh h rfl rfl
theorem r_forget_l {j o : Nat} (h : LR t nf) (hj : j < 4) (ho4 : o ≤ 4) (ho : gI t 11 19 0 = nI o) : ∀ (L K : List Nat) (i : Nat) (G : Nat → Int32), K.length ≤ i → i + L.length = o → (∀ f, f ∈ L → f < 4) → (∀ m f, K[m]? = some f → G m = nI f) → (∀ m f, L[m]? = some f → G (i + m) = nI f) → ∃ G', (∀ X, Rn g 178 41 [oR, some (.inl (nI j)), some (.inl (nI K.length)), some (.inl (nI i))] [] (ofR t G) X ↔ Rn g 178 83 [oR, some (.inl (nI j)), some (.inl (nI (K ++ L.filter (fun f => !decide (f = j))).length)), some (.inl (nI o))] [] (ofR t G') X) ∧ ∀ m f, (K ++ L.filter (fun f => !decide (f = j)))[m]? = some f → G' m = nI f
  | [], K, i, G, h0, hi, h4, h1, h2 => by
    obtain rfl : i = o := by simpa using hi
    have hle : nI i ≤ nI i := nI_le (by omega) (by omega)
    have e19 : gI (ofR t G) 11 19 0 = nI i := ho
    refine ⟨G, fun X => ?_, by simpa using h1⟩
    simp only [e178_41, e178_42, e178_43, e178_46, MM, MK, LR_ofR (G := G) h, e19, hle, if_true, Nat.zero_lt_one, List.filter_nil, List.append_nil]
  | a :: L, K, i, G, h0, hi, h4, h1, h2 => by
    rw [List.length_cons] at hi
    have hle : ¬ nI o ≤ nI i := nI_ge (by omega) (by omega)
    have e19 : gI (ofR t G) 11 19 0 = nI o := ho
    have ea : gI (ofR t G) 37 i 0 = nI a := by
      rw [ofR, tup_I, if_pos ⟨rfl, rfl⟩]
      exact h2 0 a rfl
    have ha4 : a < 4 := h4 a (by simp)
    have hi4 := inN (show i < 4 by omega) (by omega)
    by_cases c : a = j
    · have e2 : (a :: L).filter (fun f => !decide (f = j)) = L.filter (fun f => !decide (f = j)) := by simp [c]
      obtain ⟨G', b1, b2⟩ := r_forget_l h hj ho4 ho L K (i + 1) G (by omega) (by omega) (fun f hf => h4 f (by simp [hf])) h1 (fun m f e => by rw [show i + 1 + m = i + (m + 1) by omega]; exact h2 (m + 1) f e)
      rw [e2]
      refine ⟨G', fun X => ?_, b2⟩
      have eaj : nI a = nI j := by rw [c]
      simp only [e178_41, e178_42, e178_43, e178_46, e178_49, e178_50, e178_53, e178_54, e178_55, e178_56, e178_59, n178_77, MM, MK, LR_ofR (G := G) h, e19, hle, hi4, ea, eaj, if_true, if_false, Nat.zero_lt_one]
      rw [e178_80, nI_1]
      exact b1 X
    · have e2 : K ++ (a :: L).filter (fun f => !decide (f = j)) = (K ++ [a]) ++ L.filter (fun f => !decide (f = j)) := by simp [c]
      have e3 : sI (ofR t G) 37 K.length 0 (nI a) = ofR t (fun m => if m = K.length then nI a else G m) := by
        refine Prod.ext ?_ rfl
        funext c m e
        show (if _ then _ else if _ then _ else _) = if _ then (if _ then _ else _) else _
        grind
      obtain ⟨G', b1, b2⟩ := r_forget_l h hj ho4 ho L (K ++ [a]) (i + 1) (fun m => if m = K.length then nI a else G m) (by simp; omega) (by omega) (fun f hf => h4 f (by simp [hf])) (fun m f e => by
        by_cases q : m = K.length
        · subst q
          rw [if_pos rfl]
          have : a = f := by simpa using e
          rw [this]
        · rw [if_neg q]
          have := gQ_lt e
          rw [List.length_append] at this
          simp only [List.length_cons, List.length_nil] at this
          rw [List.getElem?_append_left (by omega)] at e
          exact h1 m f e) (fun m f e => by
        rw [if_neg (by omega), show i + 1 + m = i + (m + 1) by omega]
        exact h2 (m + 1) f e)
      rw [e2]
      refine ⟨G', fun X => ?_, b2⟩
      have eaj : ¬ nI a = nI j := fun z => c ((nI_eq (by omega) (by omega)).mp z)
      have hK4 := inN (show K.length < 4 by omega) (by omega)
      have e4 : K.length + 1 = (K ++ [a]).length := by simp
      simp only [e178_41, e178_42, e178_43, e178_46, e178_49, e178_50, e178_53, e178_54, e178_55, e178_56, e178_62, e178_63, e178_66, e178_67, e178_68, e178_71, e178_72, e178_73, n178_74, n178_77, MM, MK, LR_ofR (G := G) h, e19, hle, hi4, hK4, ea, eaj, e3, nI_1, e4, if_true, if_false, Nat.zero_lt_one]
      rw [e178_80]
      exact b1 X
end Fgt1
