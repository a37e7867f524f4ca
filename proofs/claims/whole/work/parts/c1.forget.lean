/-! a job is forgotten, in both programs -/
section Fgt2
variable {g : Nat → Nat → Nat} {s t u : Sg} {X : Sg × Option Av} {nf B n : Nat} {Q : List Nat}
theorem rl_forget {j : Nat} {L : List Nat} {H : Nat → Option Nat} {G : Nat → Int32} (h : Rl g s t nf B Q) (hj : j < 4) (hov : ¬ gI t 22 j 0 < 3) (hL : L.length ≤ 4) (hLm : ∀ a, a ∈ L → a < 4 ∧ ¬ gI t 22 a 0 < 3) (hLn : L.Nodup) (hH : ∀ m f, (L.filter (fun f => !decide (f = j)))[m]? = some f → H m = some f) (hG : ∀ m f, (L.filter (fun f => !decide (f = j)))[m]? = some f → G m = nI f) : Rl g (rstF (sI (ofr s H) 7 3 0 (nI (L.filter (fun f => !decide (f = j))).length)) j) (frF (sI (ofR t G) 11 19 0 (nI (L.filter (fun f => !decide (f = j))).length)) j) nf B Q := by
  generalize hl : (L.filter (fun f => !decide (f = j))).length = l
  have hll : l ≤ 4 := by rw [← hl]; exact Nat.le_trans (List.length_filter_le _ _) hL
  have hns : nsl t j = 0 := nsl_over h.2.1.2.2.2.1 hj hov
  obtain ⟨⟨l1, l2, l3⟩, ⟨⟨j1, j2, j3, j4, j5, j6, j7, j8⟩, bb, ww, ⟨n1, n2⟩, ⟨h1, ⟨r, h2, h2b⟩, h3⟩⟩, ⟨ff1, pp, ll, mm, ss, qq⟩, ⟨rr, aa, xx, tt, uu, yy, cc, dd⟩, oo, kk⟩ := h
  unfold rstF frF
  dsimp only
  rw [fi1_eq, zb_eq]
  have hRO : ∀ (U : Sg) (r' c f : Nat), (∀ k, gI U 9 k r' = gI s 9 k r') → ¬ r' = 3 + 2 * j → ¬ r' = 4 + 2 * j → RO s r' c f → RO (sI (sI (sI (sI U 9 1 (3 + 2 * j) 0) 9 2 (3 + 2 * j) 0) 9 1 (4 + 2 * j) 0) 9 2 (4 + 2 * j) 0) r' c f := fun U r' c f hU q1 q2 ho => by
    unfold RO at *
    rw [gI_sI, if_neg (by omega), gI_sI, if_neg (by omega), gI_sI, if_neg (by omega), gI_sI, if_neg (by omega), gI_sI, if_neg (by omega), gI_sI, if_neg (by omega), gI_sI, if_neg (by omega), gI_sI, if_neg (by omega), hU, hU]
    exact ho
  have hR1 : ∀ (U : Sg), RO (sI (sI (sI (sI U 9 1 (3 + 2 * j) 0) 9 2 (3 + 2 * j) 0) 9 1 (4 + 2 * j) 0) 9 2 (4 + 2 * j) 0) (3 + 2 * j) 0 0 := fun U => by
    have := cap_t hj
    refine ⟨?_, ?_, by omega, by omega⟩
    · rw [gI_sI, if_neg (by omega), gI_sI, if_neg (by omega), gI_sI, if_pos ⟨rfl, rfl, rfl⟩]; rfl
    · rw [gI_sI, if_neg (by omega), gI_sI, if_neg (by omega), gI_sI, if_neg (by omega), gI_sI, if_pos ⟨rfl, rfl, rfl⟩]; rfl
  have hR2 : ∀ (U : Sg), RO (sI (sI (sI (sI U 9 1 (3 + 2 * j) 0) 9 2 (3 + 2 * j) 0) 9 1 (4 + 2 * j) 0) 9 2 (4 + 2 * j) 0) (4 + 2 * j) 0 0 := fun U => by
    have := cap_p hj
    refine ⟨?_, ?_, by omega, by omega⟩
    · rw [gI_sI, if_pos ⟨rfl, rfl, rfl⟩]; rfl
    · rw [gI_sI, if_neg (by omega), gI_sI, if_pos ⟨rfl, rfl, rfl⟩]; rfl
  refine ⟨⟨?_, ?_, l3⟩, ⟨⟨?_, ?_, ?_, ?_, ?_, ?_, ?_, ?_⟩, ?_, ?_, ⟨?_, ?_⟩, ⟨?_, ⟨fun i => if i = j then 0 else r i, ?_, ?_⟩, ?_⟩⟩, ⟨ff1, pp, ll, mm, ss, qq⟩, ⟨?_, ?_, xx, ?_, ?_, ?_, ?_, ?_⟩, ?_, kk⟩
  · refine LC_sI (LC_sI (LC_sI (LC_sI ?_ (by omega)) (by omega)) (by omega)) (by omega)
    refine LC_cg (LC_ofr (H := H) l1) (fun c k i hc => by rcases hc with ⟨rfl, rfl⟩ | ⟨rfl, rfl⟩ | ⟨rfl, rfl⟩ <;> rfl) (fun c k i hd => ?_) rfl
    unfold dyP at hd
    show gP (sP (ofr s H) 3 11 j none) c k i = _
    rw [gP_sP, if_neg (by omega)]
  · exact LR_gh l2 rfl rfl
  · intro i hi
    show (if 3 = 3 ∧ 1 = 1 ∧ i = j then (0 : Int32) else gI s 3 1 i) = (if 22 = 22 ∧ i = j ∧ 0 = 0 then (0 : Int32) else gI t 22 i 0)
    rw [j1 i hi]; simp only [true_and, and_true]
  · intro i hi
    show (if 3 = 3 ∧ 2 = 2 ∧ i = j then (0 : Int32) else gI s 3 2 i) = (if 23 = 23 ∧ i = j ∧ 0 = 0 then (0 : Int32) else gI t 23 i 0)
    rw [j2 i hi]; simp only [true_and, and_true]
  · intro i hi
    show (if 3 = 3 ∧ 3 = 3 ∧ i = j then (0 : Int32) else gI s 3 3 i) = (if 24 = 24 ∧ i = j ∧ 0 = 0 then (0 : Int32) else gI t 24 i 0)
    rw [j3 i hi]; simp only [true_and, and_true]
  · intro i hi
    show (if 3 = 3 ∧ 4 = 4 ∧ i = j then (0 : Int32) else gI s 3 4 i) = (if 26 = 26 ∧ i = j ∧ 0 = 0 then (0 : Int32) else gI t 26 i 0)
    rw [j4 i hi]; simp only [true_and, and_true]
  · intro i hi
    show (if 3 = 3 ∧ 6 = 6 ∧ i = j then (0 : Int32) else gI s 3 6 i) = (if 27 = 27 ∧ i = j ∧ 0 = 0 then (0 : Int32) else gI t 27 i 0)
    rw [j5 i hi]; simp only [true_and, and_true]
  · intro i hi
    show (if 3 = 3 ∧ 7 = 7 ∧ i = j then (0 : Int32) else gI s 3 7 i) = (if 28 = 28 ∧ i = j ∧ 0 = 0 then (0 : Int32) else gI t 28 i 0)
    rw [j6 i hi]; simp only [true_and, and_true]
  · intro i hi
    show (if 3 = 3 ∧ 8 = 8 ∧ i = j then (-1 : Int32) else gI s 3 8 i) = (if 29 = 29 ∧ i = j ∧ 0 = 0 then (-1 : Int32) else gI t 29 i 0)
    rw [j7 i hi]; simp only [true_and, and_true]
  · intro i hi
    show (if 3 = 3 ∧ 9 = 9 ∧ i = j then (0 : Int32) else gI s 3 9 i) = (if 32 = 32 ∧ i = j ∧ 0 = 0 then (0 : Int32) else gI t 32 i 0)
    rw [j8 i hi]; simp only [true_and, and_true]
  · intro i hi
    show ((if 22 = 22 ∧ i = j ∧ 0 = 0 then (0 : Int32) else gI t 22 i 0) < 3 → (if 3 = 3 ∧ 5 = 5 ∧ i = j then (0 : Int32) else gI s 3 5 i) = (if 41 = 41 ∧ i = j ∧ 0 = 0 then (0 : Int32) else gI t 41 i 0)) ∧ (¬ (if 22 = 22 ∧ i = j ∧ 0 = 0 then (0 : Int32) else gI t 22 i 0) < 3 → (if 3 = 3 ∧ 5 = 5 ∧ i = j then (0 : Int32) else gI s 3 5 i) = 0)
    by_cases q : i = j
    · rw [if_pos ⟨rfl, q, rfl⟩, if_pos ⟨rfl, rfl, q⟩, if_pos ⟨rfl, q, rfl⟩]
      exact ⟨fun _ => rfl, fun _ => rfl⟩
    · rw [if_neg (fun z => q z.2.1), if_neg (fun z => q z.2.2), if_neg (fun z => q z.2.1)]
      exact bb i hi
  · intro i hi
    by_cases q : i = j
    · refine Or.inl ⟨?_, ?_, ?_⟩
      · show (if 3 = 3 ∧ 11 = 11 ∧ i = j then none else gP s 3 11 i) = none
        rw [if_pos ⟨rfl, rfl, q⟩]
      · show (if 25 = 25 ∧ i = j ∧ 0 = 0 then (-1 : Int32) else gI t 25 i 0) = -1
        rw [if_pos ⟨rfl, q, rfl⟩]
      · show ¬ (if 22 = 22 ∧ i = j ∧ 0 = 0 then (0 : Int32) else gI t 22 i 0) = 2
        rw [if_pos ⟨rfl, q, rfl⟩]
        decide
    · have e1 : (if 3 = 3 ∧ 11 = 11 ∧ i = j then none else gP s 3 11 i) = gP s 3 11 i := if_neg (fun z => q z.2.2)
      have e2 : (if 25 = 25 ∧ i = j ∧ 0 = 0 then (-1 : Int32) else gI t 25 i 0) = gI t 25 i 0 := if_neg (fun z => q z.2.1)
      have e3 : (if 22 = 22 ∧ i = j ∧ 0 = 0 then (0 : Int32) else gI t 22 i 0) = gI t 22 i 0 := if_neg (fun z => q z.2.1)
      show ((if 3 = 3 ∧ 11 = 11 ∧ i = j then none else gP s 3 11 i) = none ∧ (if 25 = 25 ∧ i = j ∧ 0 = 0 then (-1 : Int32) else gI t 25 i 0) = -1 ∧ ¬ (if 22 = 22 ∧ i = j ∧ 0 = 0 then (0 : Int32) else gI t 22 i 0) = 2) ∨ ∃ k, k < 64 ∧ (if 3 = 3 ∧ 11 = 11 ∧ i = j then none else gP s 3 11 i) = some k ∧ (if 22 = 22 ∧ i = j ∧ 0 = 0 then (0 : Int32) else gI t 22 i 0) = 2 ∧ gI t 38 k 0 = nI i ∧ gI t 39 k 0 = (if 25 = 25 ∧ i = j ∧ 0 = 0 then (-1 : Int32) else gI t 25 i 0)
      rw [e1, e2, e3]
      exact ww i hi
  · intro i hi
    show (if 22 = 22 ∧ i = j ∧ 0 = 0 then (0 : Int32) else gI t 22 i 0) = 0 ∨ (if 22 = 22 ∧ i = j ∧ 0 = 0 then (0 : Int32) else gI t 22 i 0) = 1 ∨ (if 22 = 22 ∧ i = j ∧ 0 = 0 then (0 : Int32) else gI t 22 i 0) = 2 ∨ (if 22 = 22 ∧ i = j ∧ 0 = 0 then (0 : Int32) else gI t 22 i 0) = 3 ∨ (if 22 = 22 ∧ i = j ∧ 0 = 0 then (0 : Int32) else gI t 22 i 0) = 4
    split
    · exact Or.inl rfl
    · exact n1 i hi
  · intro k hk
    rcases n2 k hk with z | ⟨i, z1, z2, z3⟩
    · exact Or.inl z
    · refine Or.inr ⟨i, z1, z2, ?_⟩
      show (if 22 = 22 ∧ i = j ∧ 0 = 0 then (0 : Int32) else gI t 22 i 0) < 3
      split
      · decide
      · exact z3
  · intro i hi
    show (if 22 = 22 ∧ i = j ∧ 0 = 0 then (0 : Int32) else gI t 22 i 0) < 3 → (if 41 = 41 ∧ i = j ∧ 0 = 0 then (0 : Int32) else gI t 41 i 0) = nI (nsl t i)
    by_cases q : i = j
    · rw [if_pos ⟨rfl, q, rfl⟩, if_pos ⟨rfl, q, rfl⟩, q, hns]
      exact fun _ => rfl
    · rw [if_neg (fun z => q z.2.1), if_neg (fun z => q z.2.1)]
      exact h1 i hi
  · intro i hi
    show (if (if 22 = 22 ∧ i = j ∧ 0 = 0 then (0 : Int32) else gI t 22 i 0) = 0 then (if 41 = 41 ∧ i = j ∧ 0 = 0 then (0 : Int32) else gI t 41 i 0) else if (if 22 = 22 ∧ i = j ∧ 0 = 0 then (0 : Int32) else gI t 22 i 0) < 3 then (if 27 = 27 ∧ i = j ∧ 0 = 0 then (0 : Int32) else gI t 27 i 0) else 0) = nI (if i = j then 0 else r i) ∧ ((if 22 = 22 ∧ i = j ∧ 0 = 0 then (0 : Int32) else gI t 22 i 0) < 3 → nsl t i ≤ if i = j then 0 else r i)
    by_cases q : i = j
    · rw [if_pos (show 22 = 22 ∧ i = j ∧ 0 = 0 from ⟨rfl, q, rfl⟩), if_pos rfl, if_pos (show 41 = 41 ∧ i = j ∧ 0 = 0 from ⟨rfl, q, rfl⟩), if_pos q, q, hns]
      exact ⟨rfl, fun _ => Nat.le_refl _⟩
    · rw [if_neg (show ¬ (22 = 22 ∧ i = j ∧ 0 = 0) from fun z => q z.2.1), if_neg (show ¬ (41 = 41 ∧ i = j ∧ 0 = 0) from fun z => q z.2.1), if_neg (show ¬ (27 = 27 ∧ i = j ∧ 0 = 0) from fun z => q z.2.1), if_neg q]
      exact h2 i hi
  · have c0 : (if 0 = j then 0 else r 0) ≤ r 0 := by split <;> omega
    have c1 : (if 1 = j then 0 else r 1) ≤ r 1 := by split <;> omega
    have c2 : (if 2 = j then 0 else r 2) ≤ r 2 := by split <;> omega
    have c3 : (if 3 = j then 0 else r 3) ≤ r 3 := by split <;> omega
    dsimp only
    omega
  · intro i hi
    obtain ⟨d, l', y1, y2, y3, y4, y5⟩ := h3 i hi
    by_cases q : i = j
    · refine ⟨0, 0, ?_, ?_, by omega, by omega, fun _ => rfl⟩
      · show (if 24 = 24 ∧ i = j ∧ 0 = 0 then (0 : Int32) else gI t 24 i 0) = nI 0
        rw [if_pos ⟨rfl, q, rfl⟩]; rfl
      · show (if 26 = 26 ∧ i = j ∧ 0 = 0 then (0 : Int32) else gI t 26 i 0) = nI 0
        rw [if_pos ⟨rfl, q, rfl⟩]; rfl
    · refine ⟨d, l', ?_, ?_, y3, y4, ?_⟩
      · show (if 24 = 24 ∧ i = j ∧ 0 = 0 then (0 : Int32) else gI t 24 i 0) = nI d
        rw [if_neg (fun z => q z.2.1)]; exact y1
      · show (if 26 = 26 ∧ i = j ∧ 0 = 0 then (0 : Int32) else gI t 26 i 0) = nI l'
        rw [if_neg (fun z => q z.2.1)]; exact y2
      · show (if 22 = 22 ∧ i = j ∧ 0 = 0 then (0 : Int32) else gI t 22 i 0) = 0 → d = 0
        rw [if_neg (fun z => q z.2.1)]; exact y5
  · intro i k hi hk
    show (if 15 = 15 ∧ i = j ∧ 0 ≤ k ∧ k < 0 + 128 then (0 : Int32) else gI s 15 k i) = (if 33 = 33 ∧ 0 = 0 ∧ 128 * j + 0 ≤ 128 * i + k ∧ 128 * i + k < 128 * j + 0 + 128 then (0 : Int32) else gI t 33 (128 * i + k) 0)
    by_cases q : i = j
    · rw [if_pos ⟨rfl, q, by omega, by omega⟩, if_pos ⟨rfl, rfl, by omega, by omega⟩]
    · rw [if_neg (fun z => q z.2.1), if_neg (by omega)]
      exact rr i k hi hk
  · intro i hi
    show (if 3 = 3 ∧ 10 = 10 ∧ i = j then (0 : Int64) else gJ s 3 10 i) = (if 34 = 34 ∧ i = j ∧ 0 = 0 then (0 : Int64) else gJ t 34 i 0) ∧ wh (if 34 = 34 ∧ i = j ∧ 0 = 0 then (0 : Int64) else gJ t 34 i 0) = (if 34 = 34 ∧ i = j ∧ 0 = 0 then (0 : Int64) else gJ t 34 i 0)
    by_cases q : i = j
    · rw [if_pos ⟨rfl, rfl, q⟩, if_pos ⟨rfl, q, rfl⟩]
      exact ⟨rfl, wh_z⟩
    · rw [if_neg (fun z => q z.2.2), if_neg (fun z => q z.2.1)]
      exact aa i hi
  · intro i hi
    by_cases q : i = j
    · subst q
      refine ⟨0, 0, hR1 _, ?_, fun e he => by omega⟩
      show (if 30 = 30 ∧ i = i ∧ 0 = 0 then (0 : Int32) else gI t 30 i 0) = nI 0
      rw [if_pos ⟨rfl, rfl, rfl⟩]; rfl
    · obtain ⟨c, f, a1, a2, a3⟩ := tt i hi
      refine ⟨c, f, hRO _ _ _ _ (fun _ => rfl) (by omega) (by omega) a1, ?_, a3⟩
      show (if 30 = 30 ∧ i = j ∧ 0 = 0 then (0 : Int32) else gI t 30 i 0) = nI c
      rw [if_neg (fun z => q z.2.1)]; exact a2
  · intro i hi
    by_cases q : i = j
    · subst q
      refine ⟨0, 0, 0, hR2 _, ?_, ?_, by omega, fun e he => by omega⟩
      · show (if 31 = 31 ∧ i = i ∧ 0 = 0 then (0 : Int32) else gI t 31 i 0) = nI 0
        rw [if_pos ⟨rfl, rfl, rfl⟩]; rfl
      · show (if 32 = 32 ∧ i = i ∧ 0 = 0 then (0 : Int32) else gI t 32 i 0) = nI 0
        rw [if_pos ⟨rfl, rfl, rfl⟩]; rfl
    · obtain ⟨c, f, p, a1, a2, a3, a4, a5⟩ := uu i hi
      refine ⟨c, f, p, hRO _ _ _ _ (fun _ => rfl) (by omega) (by omega) a1, ?_, ?_, a4, a5⟩
      · show (if 31 = 31 ∧ i = j ∧ 0 = 0 then (0 : Int32) else gI t 31 i 0) = nI c
        rw [if_neg (fun z => q z.2.1)]; exact a2
      · show (if 32 = 32 ∧ i = j ∧ 0 = 0 then (0 : Int32) else gI t 32 i 0) = nI p
        rw [if_neg (fun z => q z.2.1)]; exact a3
  · obtain ⟨c, f, a1, a2, a3⟩ := yy
    exact ⟨c, f, hRO _ _ _ _ (fun _ => rfl) (by omega) (by omega) a1, a2, a3⟩
  · obtain ⟨c, f, m, a1, a2, a3, a4, a5, a6⟩ := cc
    exact ⟨c, f, m, hRO _ _ _ _ (fun _ => rfl) (by omega) (by omega) a1, a2, a3, a4, a5, a6⟩
  · obtain ⟨c, f, m, a1, a2, a3, a4, a5, a6⟩ := dd
    exact ⟨c, f, m, hRO _ _ _ _ (fun _ => rfl) (by omega) (by omega) a1, a2, a3, a4, a5, a6⟩
  · have ex : ∀ i, i < l → ∃ a, (L.filter (fun f => !decide (f = j)))[i]? = some a ∧ a ∈ L ∧ ¬ a = j := fun i hi => by
      have hi' : i < (L.filter (fun f => !decide (f = j))).length := by rw [hl]; exact hi
      have hm := List.getElem_mem hi'
      have hm2 := List.mem_filter.mp hm
      exact ⟨_, List.getElem?_eq_getElem hi', hm2.1, by simpa using hm2.2⟩
    refine ⟨l, rfl, rfl, hll, fun i hi => ?_, fun i i' hi hi' e => ?_⟩
    · obtain ⟨a, x1, x2, x3⟩ := ex i hi
      refine ⟨a, (hLm a x2).1, hH i a x1, hG i a x1, ?_⟩
      show ¬ (if 22 = 22 ∧ a = j ∧ 0 = 0 then (0 : Int32) else gI t 22 a 0) < 3
      rw [if_neg (fun z => x3 z.2.1)]
      exact (hLm a x2).2
    · obtain ⟨a, x1, x2, x3⟩ := ex i hi
      obtain ⟨a', y1, y2, y3⟩ := ex i' hi'
      have e1 : G i = G i' := e
      rw [hG i a x1, hG i' a' y1] at e1
      have ha := (hLm a x2).1
      have ha' := (hLm a' y2).1
      have e2 : a = a' := (nI_eq (by omega) (by omega)).mp e1
      refine (List.getElem?_inj (gQ_lt x1) (hLn.filter _)).mp ?_
      rw [x1, y1, e2]
theorem rel_forget (h : Rl g s t nf B Q) (h1 : gI s 10 8 0 = nI n) (h2 : gI t 11 47 0 = nI n) (x : Int32) : AN g 104 [oC, some (.inl x), none] 178 [oR, some (.inl x), none, none] s t nf B n := by
  by_cases c : x < 0 ∨ ¬ x < 4
  · have r1 := fun X => r_in_x (g := g) (t := t) (X := X) (K := 3) c (by decide)
    have r2 := fun X => c_jobOf_n (g := g) (X := X) h.1.1 c
    refine an_same (v := .inl 0) h h1 h2 (fun X => ?_) (fun X => ?_)
    · simp [Q104, MM, MK, h.1.1, r2]
    · simp [e178_0, e178_1, e178_2, e178_3, e178_6, e178_9, e178_12, e178_13, e178_14, e178_17, e178_20, e178_21, e178_24, e178_25, e178_26, e178_27, e178_30, e178_31, e178_32, e178_35, e178_36, MM, MK, h.1.2.1, r1]
  obtain ⟨j, hj, rfl⟩ := arg_ex (m := 4) (by decide) c
  have r1 := fun X => r_in_y (g := g) (t := t) (X := X) (K := 3) (x := nI j) rfl (show j ≤ 3 by omega) (by omega) (by decide)
  have r2 := fun X => c_jobOf_y (g := g) (X := X) h.1.1 hj
  have hj4 := inN hj (by omega)
  have e1 := h.2.1.1.1 j hj
  have r3 := fun X => c_isOver (g := g) (X := X) h.1.1 hj
  rw [e1] at r3
  have r4 := fun X => r_isOver (g := g) (X := X) h.1.2.1 hj
  have hN := nn_lt h.2.1.2.2.2.1 hj
  by_cases o : gI t 22 j 0 < 3
  · have o1 : ¬ (gI t 22 j 0 = 3 ∨ gI t 22 j 0 = 4) := fun z => by have := hN.mp o; exact z.elim this.1 this.2
    have o2 : ¬ (3 : Int32) ≤ gI t 22 j 0 := by rw [i32_le]; exact not_not_intro o
    rw [if_neg o1] at r3
    rw [if_neg o2] at r4
    refine an_same (v := .inl 0) h h1 h2 (fun X => ?_) (fun X => ?_)
    · simp [Q104, MM, MK, h.1.1, r2, hj, r3]
    · simp [e178_0, e178_1, e178_2, e178_3, e178_6, e178_9, e178_12, e178_13, e178_14, e178_17, e178_20, e178_21, e178_24, e178_25, e178_26, e178_27, e178_30, e178_31, e178_32, e178_35, e178_36, MM, MK, h.1.2.1, r1, r4]
  have o1 : gI t 22 j 0 = 3 ∨ gI t 22 j 0 = 4 := Classical.byContradiction (fun z => o (hN.mpr ⟨fun y => z (Or.inl y), fun y => z (Or.inr y)⟩))
  have o2 : (3 : Int32) ≤ gI t 22 j 0 := by rw [i32_le]; exact o
  rw [if_pos o1] at r3
  rw [if_pos o2] at r4
  obtain ⟨d, f, p, u1, u2, u3, u4, u5⟩ := h.2.2.2.1.2.2.2.2.1 j hj
  have hd : d ≤ 200 := by have := u1.2.2.1; rw [cap_p hj] at this; exact this
  have r5 := fun X => c_isPrinted (g := g) (X := X) h.1.1 hj u1
  rw [h.2.1.1.2.2.2.2.2.2.2 j hj, u3] at r5
  by_cases q : p = d
  rotate_left
  · have q1 : nI p < nI d := nI_lt (by omega) (by omega)
    have q2 : ¬ nI p = nI d := fun z => q ((nI_eq (by omega) (by omega)).mp z)
    rw [if_pos q1] at r5
    refine an_same (v := .inl 0) h h1 h2 (fun X => ?_) (fun X => ?_)
    · simp [Q104, MM, MK, h.1.1, r2, hj, r3, r5]
    · simp [e178_0, e178_1, e178_2, e178_3, e178_6, e178_9, e178_12, e178_13, e178_14, e178_17, e178_20, e178_21, e178_24, e178_25, e178_26, e178_27, e178_30, e178_31, e178_32, e178_35, e178_36, MM, MK, h.1.2.1, r1, r4, hj4, u2, u3, q2]
  subst q
  rw [if_neg (nI_nlt (by omega) (by omega))] at r5
  -- the row as a list
  obtain ⟨oo, p1, p2, p3, p4, p5⟩ := h.2.2.2.2.1
  obtain ⟨L, hLl, hLs⟩ : ∃ L : List Nat, L.length = oo ∧ ∀ i a, L[i]? = some a → a < 4 ∧ gP s 18 i 0 = some a ∧ gI t 37 i 0 = nI a ∧ ¬ gI t 22 a 0 < 3 := by
    refine ⟨(List.range oo).map (fun i => (gI t 37 i 0).toNatClampNeg), by simp, fun i a e => ?_⟩
    have hi := gQ_lt e
    simp at hi
    obtain ⟨b, b1, b2, b3, b4⟩ := p4 i hi
    have : a = b := by
      rw [List.getElem?_map, List.getElem?_range hi] at e
      simp at e
      rw [← e, b3, nI_clamp (by omega)]
    subst this
    exact ⟨b1, b2, b3, b4⟩
  have hLm : ∀ a, a ∈ L → a < 4 ∧ ¬ gI t 22 a 0 < 3 := fun a ha => by
    obtain ⟨i, e⟩ := List.getElem?_of_mem ha
    exact ⟨(hLs i a e).1, (hLs i a e).2.2.2⟩
  have hLn : L.Nodup := by
    refine List.pairwise_iff_getElem.mpr (fun i i' hi hi' hlt e => ?_)
    have x1 := hLs i _ (List.getElem?_eq_getElem hi)
    have x2 := hLs i' _ (List.getElem?_eq_getElem hi')
    have := p5 i i' (by omega) (by omega) (by rw [x1.2.2.1, x2.2.2.1, e])
    omega
  obtain ⟨H, d1, d2⟩ := dr_l (s := s) (j := j) L [] 0 (fun m => gP s 18 m 0) (by simp) (by simp) (fun m f e => by rw [Nat.zero_add]; exact (hLs m f e).2.1)
  obtain ⟨G, f1, f2⟩ := r_forget_l (g := g) h.1.2.1 hj (show oo ≤ 4 by omega) p2 L [] 0 (fun m => gI t 37 m 0) (by simp) (by omega) (fun a ha => (hLm a ha).1) (by simp) (fun m f e => by rw [Nat.zero_add]; exact (hLs m f e).2.2.1)
  rw [ofr_id, hLl] at d1
  rw [ofR_id] at f1
  simp only [List.nil_append, List.length_nil] at d1 d2 f1 f2
  have k := rl_forget h hj o (by omega) hLm hLn d2 f2
  have hoc : OC s oo := ⟨p1, p3, fun k hk => by obtain ⟨b, b1, b2, b3, b4⟩ := p4 k hk; exact ⟨b, b1, b2⟩⟩
  have r6 := fun X => c_drop (g := g) (X := X) h.1.1 hoc hj
  rw [d1] at r6
  dsimp only at r6
  have hlc : LC (sI (ofr s H) 7 3 0 (nI (L.filter (fun f => !decide (f = j))).length)) nf := LC_sI (LC_ofr h.1.1) (by omega)
  have r7 := fun X => c_reset (g := g) (X := X) hlc hj
  have hlr : LR (sI (ofR t G) 11 19 0 (nI (L.filter (fun f => !decide (f = j))).length)) nf := LR_sI (by omega) (LR_ofR h.1.2.1)
  have r8 := fun X => r_fresh (g := g) (X := X) hlr hj
  refine ⟨_, _, .inl 1, B, n, Q, fun X => ?_, fun X => ?_, k, ?_, ?_, by omega, by omega⟩
  · simp [Q104, MM, MK, h.1.1, hlc, r2, hj, r3, r5, r6, r7]
  · have e41 : Rn g 178 0 [oR, some (.inl (nI j)), none, none] [] t X ↔ Rn g 178 41 [oR, some (.inl (nI j)), some (.inl 0), some (.inl 0)] [] t X := by
      simp only [e178_0, e178_1, e178_2, e178_3, e178_6, e178_9, e178_12, e178_13, e178_14, e178_17, e178_20, e178_21, e178_24, e178_25, e178_26, e178_27, e178_30, e178_31, e178_32, e178_35, e178_36, e178_37, e178_38, e178_39, e178_40, MM, MK, h.1.2.1, r1, r4, hj4, u2, u3, if_true, if_false, Nat.zero_lt_one, exists_eq_left, List.nil_append, List.cons_append, List.append_nil, show ¬ (1 : Int32) = 0 by decide]
    have f1' := f1 X
    rw [nI_0] at f1'
    rw [e41, f1']
    simp only [e178_83, e178_84, e178_85, e178_88, e178_89, e178_90, e178_93, e178_94, MM, MK, LR_ofR (G := G) h.1.2.1, hlr, r8, if_true, if_false, Nat.zero_lt_one, exists_eq_left, List.nil_append, List.cons_append, List.append_nil, or_true]
  · unfold rstF
    dsimp only
    rw [fi1_eq]
    exact h1
  · unfold frF
    rw [zb_eq]
    exact h2
end Fgt2
