/-! loops as one write each -/
section Lo1
theorem e2F_eq (j : Nat) : ∀ n i (t : Sg), e2F j t i n = ((fun c k e => if c = 42 ∧ e = 0 ∧ i ≤ k ∧ k < i + n ∧ gI t 42 k 0 = 1 ∧ gI t 43 k 0 = nI j then 0 else gI t c k e), t.2)
  | 0, i, t => by
    refine Prod.ext ?_ rfl
    funext c k e
    show t.1 c k e = if _ then _ else _
    rw [if_neg (by omega)]; rfl
  | n + 1, i, t => by
    rw [e2F, e2F_eq j n (i + 1)]
    have r : ∀ c k e, gI (if gI t 42 i 0 = 1 ∧ gI t 43 i 0 = nI j then sI t 42 i 0 0 else t) c k e = if c = 42 ∧ k = i ∧ e = 0 ∧ gI t 42 i 0 = 1 ∧ gI t 43 i 0 = nI j then 0 else gI t c k e := by
      intro c k e
      split <;> simp_all [MM]
    refine Prod.ext ?_ ?_
    · funext c k e
      simp only [r]
      grind
    · dsimp only
      split <;> rfl
theorem e3F_eq (j : Nat) : ∀ n i (t : Sg), e3F j t i n = ((fun c k e => if c = 49 ∧ e = 0 ∧ i ≤ k ∧ k < i + n ∧ gI t 49 k 0 = nI j ∧ ¬ (¬ gI t 11 33 0 < 0 ∧ nI k = gI t 11 34 0) then -1 else gI t c k e), t.2)
  | 0, i, t => by
    refine Prod.ext ?_ rfl
    funext c k e
    show t.1 c k e = if _ then _ else _
    rw [if_neg (by omega)]; rfl
  | n + 1, i, t => by
    rw [e3F, e3F_eq j n (i + 1)]
    have r : ∀ c k e, gI (if gI t 49 i 0 = nI j ∧ ¬ (¬ gI t 11 33 0 < 0 ∧ nI i = gI t 11 34 0) then sI t 49 i 0 (-1) else t) c k e = if c = 49 ∧ k = i ∧ e = 0 ∧ gI t 49 i 0 = nI j ∧ ¬ (¬ gI t 11 33 0 < 0 ∧ nI i = gI t 11 34 0) then -1 else gI t c k e := by
      intro c k e
      split
      · rename_i hc
        rw [gI_sI]
        by_cases q : c = 49 ∧ k = i ∧ e = 0
        · rw [if_pos q, if_pos ⟨q.1, q.2.1, q.2.2, hc⟩]
        · rw [if_neg q, if_neg (fun z => q ⟨z.1, z.2.1, z.2.2.1⟩)]
      · rename_i hc
        rw [if_neg (fun z => hc z.2.2.2)]
    refine Prod.ext ?_ ?_
    · funext c k e
      simp only [r]
      grind
    · dsimp only
      split <;> rfl
theorem e4F_eq (j : Nat) : ∀ n i (t : Sg), e4F j t i n = ((fun c k e => if c = 38 ∧ e = 0 ∧ i ≤ k ∧ k < i + n ∧ gI t 38 k 0 = nI j then -1 else gI t c k e), t.2)
  | 0, i, t => by
    refine Prod.ext ?_ rfl
    funext c k e
    show t.1 c k e = if _ then _ else _
    rw [if_neg (by omega)]; rfl
  | n + 1, i, t => by
    rw [e4F, e4F_eq j n (i + 1)]
    have r : ∀ c k e, gI (if gI t 38 i 0 = nI j then sI t 38 i 0 (-1) else t) c k e = if c = 38 ∧ k = i ∧ e = 0 ∧ gI t 38 i 0 = nI j then -1 else gI t c k e := by
      intro c k e
      split <;> simp_all [MM]
    refine Prod.ext ?_ ?_
    · funext c k e
      simp only [r]
      grind
    · dsimp only
      split <;> rfl
theorem cclF_eq (o : Int32) (mv : Option Nat) : ∀ n i (s : Sg), cclF o mv s i n = ((fun c k e => if c = 2 ∧ k = 1 ∧ i ≤ e ∧ e < i + n ∧ gI s 2 2 e = o ∧ ¬ some e = mv then 0 else gI s c k e), s.2.1, (fun c k e => if c = 2 ∧ k = 4 ∧ i ≤ e ∧ e < i + n ∧ gI s 2 2 e = o then none else gP s c k e), s.2.2.2)
  | 0, i, s => by
    refine Prod.ext ?_ (Prod.ext rfl (Prod.ext ?_ rfl))
    · funext c k e
      show s.1 c k e = if _ then _ else _
      rw [if_neg (by omega)]; rfl
    · funext c k e
      show s.2.2.1 c k e = if _ then _ else _
      rw [if_neg (by omega)]; rfl
  | n + 1, i, s => by
    rw [cclF, cclF_eq o mv n (i + 1)]
    have r : ∀ c k e, gI (ccl1 s o mv i) c k e = if c = 2 ∧ k = 1 ∧ e = i ∧ gI s 2 2 i = o ∧ ¬ some i = mv then 0 else gI s c k e := by
      intro c k e
      unfold ccl1
      by_cases h1 : gI s 2 2 i = o
      · by_cases h2 : some i = mv
        · rw [if_pos h1, if_pos h2, if_neg (fun z => z.2.2.2.2 h2)]; rfl
        · rw [if_pos h1, if_neg h2, gI_sP, gI_sI]
          by_cases q : c = 2 ∧ k = 1 ∧ e = i
          · rw [if_pos q, if_pos ⟨q.1, q.2.1, q.2.2, h1, h2⟩]
          · rw [if_neg q, if_neg (fun z => q ⟨z.1, z.2.1, z.2.2.1⟩)]
      · rw [if_neg h1, if_neg (fun z => h1 z.2.2.2.1)]
    have r2 : ∀ c k e, gP (ccl1 s o mv i) c k e = if c = 2 ∧ k = 4 ∧ e = i ∧ gI s 2 2 i = o then none else gP s c k e := by
      intro c k e
      unfold ccl1
      by_cases h1 : gI s 2 2 i = o
      · by_cases h2 : some i = mv
        · rw [if_pos h1, if_pos h2, gP_sP]
          by_cases q : c = 2 ∧ k = 4 ∧ e = i
          · rw [if_pos q, if_pos ⟨q.1, q.2.1, q.2.2, h1⟩]
          · rw [if_neg q, if_neg (fun z => q ⟨z.1, z.2.1, z.2.2.1⟩)]
        · rw [if_pos h1, if_neg h2, gP_sP, gP_sI]
          by_cases q : c = 2 ∧ k = 4 ∧ e = i
          · rw [if_pos q, if_pos ⟨q.1, q.2.1, q.2.2, h1⟩]
          · rw [if_neg q, if_neg (fun z => q ⟨z.1, z.2.1, z.2.2.1⟩)]
      · rw [if_neg h1, if_neg (fun z => h1 z.2.2.2)]
    have r3 : (ccl1 s o mv i).2.1 = s.2.1 ∧ (ccl1 s o mv i).2.2.2 = s.2.2.2 := by
      unfold ccl1
      split
      · split <;> exact ⟨rfl, rfl⟩
      · exact ⟨rfl, rfl⟩
    refine Prod.ext ?_ (Prod.ext r3.1 (Prod.ext ?_ r3.2))
    · funext c k e
      simp only [r]
      grind
    · funext c k e
      simp only [r, r2]
      grind
theorem dclF_eq (o : Int32) (mp : Option Nat) : ∀ n i (s : Sg), dclF o mp s i n = ((fun c k e => if c = 6 ∧ k = 1 ∧ i ≤ e ∧ e < i + n ∧ gI s 6 2 e = o ∧ ¬ some e = mp then 0 else gI s c k e), s.2)
  | 0, i, s => by
    refine Prod.ext ?_ rfl
    funext c k e
    show s.1 c k e = if _ then _ else _
    rw [if_neg (by omega)]; rfl
  | n + 1, i, s => by
    rw [dclF, dclF_eq o mp n (i + 1)]
    have r : ∀ c k e, gI (dcl1 s o mp i) c k e = if c = 6 ∧ k = 1 ∧ e = i ∧ gI s 6 2 i = o ∧ ¬ some i = mp then 0 else gI s c k e := by
      intro c k e
      unfold dcl1
      by_cases h1 : gI s 6 2 i = o ∧ ¬ some i = mp
      · rw [if_pos h1, gI_sI]
        by_cases q : c = 6 ∧ k = 1 ∧ e = i
        · rw [if_pos q, if_pos ⟨q.1, q.2.1, q.2.2, h1⟩]
        · rw [if_neg q, if_neg (fun z => q ⟨z.1, z.2.1, z.2.2.1⟩)]
      · rw [if_neg h1, if_neg (fun z => h1 z.2.2.2)]
    have r3 : (dcl1 s o mp i).2 = s.2 := by
      unfold dcl1
      split <;> rfl
    refine Prod.ext ?_ r3
    funext c k e
    simp only [r]
    grind
theorem rlsF_eq (o : Int32) (ho : ¬ o = -1) : ∀ n i (s : Sg), rlsF o s i n = ((fun c k e => if c = 4 ∧ k = 0 ∧ i ≤ e ∧ e < i + n ∧ gI s 4 0 e = o then -1 else gI s c k e), (fun c k e => if c = 16 ∧ i ≤ e ∧ e < i + n ∧ k < 512 ∧ gI s 4 0 e = o ∧ ¬ gP s 4 4 e = none then 0 else gJ s c k e), (fun c k e => if c = 4 ∧ (k = 2 ∨ k = 3) ∧ i ≤ e ∧ e < i + n ∧ gI s 4 0 e = o then none else gP s c k e), s.2.2.2)
  | 0, i, s => by
    refine Prod.ext ?_ (Prod.ext ?_ (Prod.ext ?_ rfl))
    · funext c k e
      show s.1 c k e = if _ then _ else _
      rw [if_neg (by omega)]; rfl
    · funext c k e
      show s.2.1 c k e = if _ then _ else _
      rw [if_neg (by omega)]; rfl
    · funext c k e
      show s.2.2.1 c k e = if _ then _ else _
      rw [if_neg (by omega)]; rfl
  | n + 1, i, s => by
    rw [rlsF, rlsF_eq o ho n (i + 1)]
    have z : ∀ c k e, gI (rlF s i) c k e = gI (rl0 s i) c k e ∧ gP (rlF s i) c k e = gP (rl0 s i) c k e := by
      intro c k e
      unfold rlF
      split
      · exact ⟨rfl, rfl⟩
      · exact ⟨filF_gI .., filF_gP ..⟩
    have r : ∀ c k e, gI (rl1 s o i) c k e = if c = 4 ∧ k = 0 ∧ e = i ∧ gI s 4 0 i = o then -1 else gI s c k e := by
      intro c k e
      unfold rl1
      by_cases h1 : gI s 4 0 i = o
      · rw [if_pos h1, (z c k e).1, rl0, gI_sP, gI_sP, gI_sI]
        by_cases q : c = 4 ∧ k = 0 ∧ e = i
        · rw [if_pos q, if_pos ⟨q.1, q.2.1, q.2.2, h1⟩]
        · rw [if_neg q, if_neg (fun z => q ⟨z.1, z.2.1, z.2.2.1⟩)]
      · rw [if_neg h1, if_neg (fun z => h1 z.2.2.2)]
    have r2 : ∀ c k e, gP (rl1 s o i) c k e = if c = 4 ∧ (k = 2 ∨ k = 3) ∧ e = i ∧ gI s 4 0 i = o then none else gP s c k e := by
      intro c k e
      unfold rl1
      by_cases h1 : gI s 4 0 i = o
      · rw [if_pos h1, (z c k e).2, rl0, gP_sP, gP_sP, gP_sI]
        by_cases q : c = 4 ∧ k = 3 ∧ e = i
        · rw [if_pos q, if_pos ⟨q.1, Or.inr q.2.1, q.2.2, h1⟩]
        · rw [if_neg q]
          by_cases q2 : c = 4 ∧ k = 2 ∧ e = i
          · rw [if_pos q2, if_pos ⟨q2.1, Or.inl q2.2.1, q2.2.2, h1⟩]
          · rw [if_neg q2, if_neg (fun z => z.2.1.elim (fun y => q2 ⟨z.1, y, z.2.2.1⟩) (fun y => q ⟨z.1, y, z.2.2.1⟩))]
      · rw [if_neg h1, if_neg (fun z => h1 z.2.2.2)]
    have rJ : ∀ c k e, gJ (rl1 s o i) c k e = if c = 16 ∧ e = i ∧ k < 512 ∧ gI s 4 0 i = o ∧ ¬ gP s 4 4 i = none then 0 else gJ s c k e := by
      intro c k e
      unfold rl1
      by_cases h1 : gI s 4 0 i = o
      · rw [if_pos h1]
        unfold rlF
        by_cases h2 : gP s 4 4 i = none
        · rw [if_pos h2, if_neg (fun z => z.2.2.2.2 h2)]
          rfl
        · rw [if_neg h2, filF_eq, tup_J]
          by_cases q : c = 16 ∧ e = i ∧ k < 512
          · rw [if_pos ⟨q.1, q.2.1, by omega, by omega⟩, if_pos ⟨q.1, q.2.1, q.2.2, h1, h2⟩]
          · rw [if_neg (fun z => q ⟨z.1, z.2.1, by omega⟩), if_neg (fun z => q ⟨z.1, z.2.1, z.2.2.1⟩)]
            rfl
      · rw [if_neg h1, if_neg (fun z => h1 z.2.2.2.1)]
    have r44 : ∀ e, gP (rl1 s o i) 4 4 e = gP s 4 4 e := fun e => by rw [r2, if_neg (by omega)]
    have r40 : ∀ e, gI (rl1 s o i) 4 0 e = if e = i ∧ gI s 4 0 i = o then -1 else gI s 4 0 e := fun e => by
      rw [r]
      simp only [true_and]
    have r3 : (rl1 s o i).2.2.2 = s.2.2.2 := by
      unfold rl1 rlF
      split
      · split
        · rfl
        · rw [filF_eq]; rfl
      · rfl
    refine Prod.ext ?_ (Prod.ext ?_ (Prod.ext ?_ r3))
    · funext c k e
      simp only [r]
      grind
    · funext c k e
      show (if c = 16 ∧ i + 1 ≤ e ∧ e < i + 1 + n ∧ k < 512 ∧ gI (rl1 s o i) 4 0 e = o ∧ ¬ gP (rl1 s o i) 4 4 e = none then 0 else gJ (rl1 s o i) c k e) = (if c = 16 ∧ i ≤ e ∧ e < i + (n + 1) ∧ k < 512 ∧ gI s 4 0 e = o ∧ ¬ gP s 4 4 e = none then 0 else gJ s c k e)
      rw [r44, r40, rJ]
      by_cases q : e = i
      · subst q
        rw [if_neg (fun z => by omega)]
        by_cases y : c = 16 ∧ k < 512 ∧ gI s 4 0 e = o ∧ ¬ gP s 4 4 e = none
        · rw [if_pos ⟨y.1, rfl, y.2.1, y.2.2.1, y.2.2.2⟩, if_pos ⟨y.1, by omega, by omega, y.2.1, y.2.2.1, y.2.2.2⟩]
        · rw [if_neg (fun z => y ⟨z.1, z.2.2.1, z.2.2.2.1, z.2.2.2.2⟩), if_neg (fun z => y ⟨z.1, z.2.2.2.1, z.2.2.2.2.1, z.2.2.2.2.2⟩)]
      · rw [if_neg (fun z : e = i ∧ _ => q z.1), if_neg (c := c = 16 ∧ e = i ∧ _) (fun z => q z.2.1)]
        by_cases y : c = 16 ∧ i + 1 ≤ e ∧ e < i + 1 + n ∧ k < 512 ∧ gI s 4 0 e = o ∧ ¬ gP s 4 4 e = none
        · rw [if_pos y, if_pos ⟨y.1, by omega, by omega, y.2.2.2⟩]
        · rw [if_neg y, if_neg (fun z => y ⟨z.1, by omega, by omega, z.2.2.2⟩)]
    · funext c k e
      simp only [r, r2]
      grind
end Lo1
