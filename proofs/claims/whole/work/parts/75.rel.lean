/-! the relation is kept: states of jobs, new pages -/
theorem filF_eq (k : Nat) : ∀ n i (s : Sg), filF k s i n = (s.1, (fun c m e => if c = 16 ∧ e = k ∧ i ≤ m ∧ m < i + n then 0 else gJ s c m e), s.2.2)
  | 0, i, s => by
    have : (fun c m e => if c = 16 ∧ e = k ∧ i ≤ m ∧ m < i + 0 then 0 else gJ s c m e) = s.2.1 := by
      funext c m e
      rw [if_neg (by omega)]; rfl
    rw [this]; rfl
  | n + 1, i, s => by
    rw [filF, filF_eq k n (i + 1)]
    have : (fun c m e => if c = 16 ∧ e = k ∧ i + 1 ≤ m ∧ m < i + 1 + n then 0 else gJ (sJ s 16 i k 0) c m e) = (fun c m e => if c = 16 ∧ e = k ∧ i ≤ m ∧ m < i + (n + 1) then 0 else gJ s c m e) := by
      funext c m e
      rw [gJ_sJ]
      by_cases e1 : c = 16 ∧ e = k ∧ i ≤ m ∧ m < i + (n + 1)
      · rw [if_pos e1]
        by_cases e2 : m = i
        · rw [if_neg (by omega), if_pos ⟨e1.1, e2, e1.2.1⟩]
        · rw [if_pos ⟨e1.1, e1.2.1, by omega, by omega⟩]
      · rw [if_neg e1, if_neg (fun q => e1 ⟨q.1, q.2.1, by omega, by omega⟩), if_neg (fun q => e1 ⟨q.1, q.2.2, by omega, by omega⟩)]
    rw [this]; rfl
theorem zerF_eq (a : Nat) : ∀ n i (t : Sg), zerF t a i n = (t.1, (fun c m e => if c = 40 ∧ e = 0 ∧ 512 * a + i ≤ m ∧ m < 512 * a + i + n then 0 else gJ t c m e), t.2.2)
  | 0, i, t => by
    have : (fun c m e => if c = 40 ∧ e = 0 ∧ 512 * a + i ≤ m ∧ m < 512 * a + i + 0 then 0 else gJ t c m e) = t.2.1 := by
      funext c m e
      rw [if_neg (by omega)]; rfl
    rw [this]; rfl
  | n + 1, i, t => by
    rw [zerF, zerF_eq a n (i + 1)]
    have : (fun c m e => if c = 40 ∧ e = 0 ∧ 512 * a + (i + 1) ≤ m ∧ m < 512 * a + (i + 1) + n then 0 else gJ (sJ t 40 (512 * a + i) 0 0) c m e) = (fun c m e => if c = 40 ∧ e = 0 ∧ 512 * a + i ≤ m ∧ m < 512 * a + i + (n + 1) then 0 else gJ t c m e) := by
      funext c m e
      rw [gJ_sJ]
      by_cases e1 : c = 40 ∧ e = 0 ∧ 512 * a + i ≤ m ∧ m < 512 * a + i + (n + 1)
      · rw [if_pos e1]
        by_cases e2 : m = 512 * a + i
        · rw [if_neg (by omega), if_pos ⟨e1.1, e2, e1.2.1⟩]
        · rw [if_pos ⟨e1.1, e1.2.1, by omega, by omega⟩]
      · rw [if_neg e1, if_neg (fun q => e1 ⟨q.1, q.2.1, by omega, by omega⟩), if_neg (fun q => e1 ⟨q.1, q.2.2, by omega, by omega⟩)]
    rw [this]; rfl
theorem tup_J {a : Nat → Nat → Nat → Int32} {J : Nat → Nat → Nat → Int64} {b : (Nat → Nat → Nat → Option Nat) × (Nat → Nat) × (Nat → Nat → Nat) × Nat × Nat} {c m e : Nat} : gJ (a, J, b) c m e = J c m e := rfl
theorem tup_I {a : Nat → Nat → Nat → Int32} {b : (Nat → Nat → Nat → Int64) × (Nat → Nat → Nat → Option Nat) × (Nat → Nat) × (Nat → Nat → Nat) × Nat × Nat} {c m e : Nat} : gI (a, b) c m e = a c m e := rfl
section Rel3
variable {g : Nat → Nat → Nat} {s t : Sg} {nf B : Nat} {Q : List Nat}
theorem l12 : (1 : Int32) < 3 ∧ (2 : Int32) < 3 ∧ ¬ (1 : Int32) = 0 ∧ ¬ (2 : Int32) = 0 := by decide
/-- a job waits, or goes on -/
theorem rl_st {j : Nat} {a b w : Int32} {o : Option Nat} (h : Rl g s t nf B Q) (hj : j < 4) (ha : gI t 22 j 0 = a) (ha' : a = 1 ∨ a = 2) (hb : b = 1 ∨ b = 2) (hw : (o = none ∧ w = -1 ∧ b = 1) ∨ ∃ k, k < 64 ∧ o = some k ∧ b = 2 ∧ gI t 38 k 0 = nI j ∧ gI t 39 k 0 = w) : Rl g (sP (sI s 3 1 j b) 3 11 j o) (sI (sI t 22 j 0 b) 25 j 0 w) nf B Q := by
  obtain ⟨⟨l1, l2, l3⟩, ⟨⟨j1, j2, j3, j4, j5, j6, j7, j8⟩, bb, ww, ⟨n1, n2⟩, ⟨h1, ⟨r, h2, h2b⟩, h3⟩⟩, ⟨ff1, pp, ll, mm, ss, qq⟩, ⟨rr, aa, xx, tt, uu, yy, cc, dd⟩, ⟨o1, o2, o3, o4, o5, o6⟩, kk⟩ := h
  have a3 : a < 3 := by rcases ha' with e | e <;> rw [e] <;> decide
  have b3 : b < 3 := by rcases hb with e | e <;> rw [e] <;> decide
  have a0 : ¬ a = 0 := by rcases ha' with e | e <;> rw [e] <;> decide
  have b0 : ¬ b = 0 := by rcases hb with e | e <;> rw [e] <;> decide
  have es : ∀ i, gI (sI (sI t 22 j 0 b) 25 j 0 w) 22 i 0 = if i = j then b else gI t 22 i 0 := by intro i; simp [MM]
  have lt : ∀ i, (gI (sI (sI t 22 j 0 b) 25 j 0 w) 22 i 0 < 3) = (gI t 22 i 0 < 3) := by
    intro i
    rw [es]
    by_cases e : i = j
    · subst e; rw [if_pos rfl, ha]; exact propext ⟨fun _ => a3, fun _ => b3⟩
    · rw [if_neg e]
  have hh3 : ∀ i, i < 4 → ∃ d l, gI (sI (sI t 22 j 0 b) 25 j 0 w) 24 i 0 = nI d ∧ gI (sI (sI t 22 j 0 b) 25 j 0 w) 26 i 0 = nI l ∧ d ≤ l ∧ l ≤ 1000000 ∧ (gI (sI (sI t 22 j 0 b) 25 j 0 w) 22 i 0 = 0 → d = 0) := fun i hi => by
    obtain ⟨d, l, a1, a2, a3, a4, a5⟩ := h3 i hi
    refine ⟨d, l, a1, a2, a3, a4, fun z => ?_⟩
    have r22 : gI (sI (sI t 22 j 0 b) 25 j 0 w) 22 i 0 = if i = j then b else gI t 22 i 0 := by simp [MM]
    rw [r22] at z
    by_cases e : i = j
    · rw [if_pos e] at z
      rcases hb with q | q <;> rw [q] at z <;> exact absurd z (by decide)
    · rw [if_neg e] at z
      exact a5 z
  refine ⟨⟨LC_sP (LC_sI l1 (by omega)) (by unfold dyP; omega), LR_sI (by omega) (LR_sI (by omega) l2), l3⟩, ⟨⟨re_E_w (t := t) j1, j2, j3, j4, j5, j6, j7, j8⟩, ?_, ?_, ⟨?_, ?_⟩, ⟨?_, ⟨r, ?_, h2b⟩, hh3⟩⟩, ⟨ff1, pp, ll, mm, ss, qq⟩, ⟨rr, aa, xx, tt, uu, yy, cc, dd⟩, ⟨o1, o2, o3, o4, ?_, o6⟩, kk⟩
  · intro i hi
    rw [lt]
    exact bb i hi
  · intro i hi
    rw [es]
    by_cases e : i = j
    · subst e
      rw [if_pos rfl]
      rcases hw with ⟨w1, w2, w3⟩ | ⟨k, w1, w2, w3, w4, w5⟩
      · left; simp [MM, w1, w2, w3]
      · right; exact ⟨k, w1, by simp [MM, w2], w3, by simpa [MM] using w4, by simpa [MM] using w5⟩
    · rw [if_neg e]
      have := ww i hi
      simpa [MM, e] using this
  · intro i hi
    rw [es]
    by_cases e : i = j
    · rw [if_pos e]
      rcases hb with e | e
      · exact Or.inr (Or.inl e)
      · exact Or.inr (Or.inr (Or.inl e))
    · rw [if_neg e]; exact n1 i hi
  · intro k hk
    rcases n2 k hk with e | ⟨i, e1, e2, e3⟩
    · exact Or.inl e
    · exact Or.inr ⟨i, e1, e2, by rw [lt]; exact e3⟩
  · intro i hi hl
    rw [lt] at hl
    exact h1 i hi hl
  · intro i hi
    obtain ⟨e1, e2⟩ := h2 i hi
    rw [lt]
    refine ⟨?_, e2⟩
    rw [← e1]
    by_cases e : i = j
    · subst e; simp [resF, MM, ha, a0, b0, a3, b3]
    · simp [resF, MM, e]
  · intro i hi
    obtain ⟨i', e1, e2, e3, e4⟩ := o5 i hi
    exact ⟨i', e1, e2, e3, by rw [lt]; exact e4⟩
theorem rl_await {j k : Nat} {b : Int32} (h : Rl g s t nf B Q) (hj : j < 4) (ha : gI t 22 j 0 = 1) (hk : k < 64) (h1 : gI t 38 k 0 = nI j) (h2 : gI t 39 k 0 = b) : Rl g (sP (sI s 3 1 j 2) 3 11 j (some k)) (sI (sI t 22 j 0 2) 25 j 0 b) nf B Q :=
  rl_st h hj ha (Or.inl rfl) (Or.inr rfl) (Or.inr ⟨k, hk, rfl, rfl, h1, h2⟩)
theorem rl_wake {j : Nat} (h : Rl g s t nf B Q) (hj : j < 4) (ha : gI t 22 j 0 = 2) : Rl g (sP (sI s 3 1 j 1) 3 11 j none) (rdyF t j) nf B Q :=
  rl_st h hj ha (Or.inr rfl) (Or.inl rfl) (Or.inl ⟨rfl, rfl, rfl⟩)
/-- a job gets a new page -/
theorem rl_new {j a : Nat} {b : Int32} (hg : ∀ i, g 16 (i + 1) = g 16 i + 1) (h : Rl g s t nf B Q) (hj : j < 4) (hs : gI t 22 j 0 < 3) (ha : ff (nslP t) 0 64 = some a) (hn : slotF t (nI j) b = none) (hH : re_H (nslF t j b a)) : Rl g (sI (hldF s a (nI j) b) 3 5 j (gI (hldF s a (nI j) b) 3 5 j + 1)) (nslF t j b a) nf B Q := by
  have hjm : ¬ nI j = -1 := nI_nm (by omega)
  rw [hldF_gI (by omega) (by omega)]
  unfold hldF
  unfold nslF at hH ⊢
  rw [zerF_eq] at hH ⊢
  obtain ⟨⟨l1, l2, l3⟩, ⟨j0, bb, ww, ⟨n1, n2⟩, hh⟩, ⟨ff1, ⟨p1, p2⟩, ll, mm, ss, qq⟩, ⟨rr, aa, ⟨x1, x2, x3, x4, x5⟩, tt, uu, yy, cc, dd⟩, oo, kk⟩ := h
  obtain ⟨-, a64, a0, amin⟩ := ff_some ha
  have a64 : a < 64 := by omega
  have hu : ∀ k, k < 64 → ¬ (gI t 38 k 0 = nI j ∧ gI t 39 k 0 = b) := fun k hk => ff_none hn k (by omega) (by omega)
  have sS := SS_new (J := nI j) (b := b) ss hjm a64 a0 hu
  have sS' : SS nf (fun k => gI (sI (sI (sI t 38 a 0 (nI j)) 39 a 0 b) 41 j 0 (gI t 41 j 0 + 1)) 38 k 0) (fun k => gI (sI (sI (sI t 38 a 0 (nI j)) 39 a 0 b) 41 j 0 (gI t 41 j 0 + 1)) 39 k 0) (gP s 4 2) (gP s 4 3) (fun f => gI t 42 f 0) (fun f => gI t 43 f 0) (fun f => gI t 44 f 0) (gP s 2 4) (fun p => gI t 49 p 0) (fun p => gI t 50 p 0) (gP s 1 3 0) (gP s 1 4 0) (gI t 11 36 0) Q := by
    have e1 : (fun k => gI (sI (sI (sI t 38 a 0 (nI j)) 39 a 0 b) 41 j 0 (gI t 41 j 0 + 1)) 38 k 0) = (fun i => if i = a then nI j else gI t 38 i 0) := by funext k; simp [MM]
    have e2 : (fun k => gI (sI (sI (sI t 38 a 0 (nI j)) 39 a 0 b) 41 j 0 (gI t 41 j 0 + 1)) 39 k 0) = (fun i => if i = a then b else gI t 39 i 0) := by funext k; simp [MM]
    rw [e1, e2]
    exact sS
  have wW : ∀ k i, gI t 38 k 0 = nI i → i < 4 → ¬ k = a := fun k i e hi q => by
    subst q
    rw [a0] at e
    exact absurd e.symm (nI_nm (by omega))
  have hB : re_B (sI s 3 5 j (gI s 3 5 j + 1)) (sI t 41 j 0 (gI t 41 j 0 + 1)) := by
    intro i hi
    obtain ⟨c1, c2⟩ := bb i hi
    by_cases e : i = j
    · subst e
      refine ⟨fun _ => ?_, fun q => absurd hs q⟩
      simp [MM, c1 hs]
    · have e1 : gI (sI s 3 5 j (gI s 3 5 j + 1)) 3 5 i = gI s 3 5 i := by simp [MM, e]
      have e2 : gI (sI t 41 j 0 (gI t 41 j 0 + 1)) 41 i 0 = gI t 41 i 0 := by simp [MM, e]
      rw [e1, e2]
      exact ⟨c1, c2⟩
  have hW : re_W s (sI (sI t 38 a 0 (nI j)) 39 a 0 b) := by
    intro i hi
    rcases ww i hi with c | ⟨k, c1, c2, c3, c4, c5⟩
    · exact Or.inl c
    · have := wW k i c4 hi
      exact Or.inr ⟨k, c1, c2, c3, by simpa [MM, this] using c4, by simpa [MM, this] using c5⟩
  have hN : ∀ k, k < 64 → gI (sI t 38 a 0 (nI j)) 38 k 0 = -1 ∨ ∃ i, i < 4 ∧ gI (sI t 38 a 0 (nI j)) 38 k 0 = nI i ∧ gI t 22 i 0 < 3 := by
    intro k hk
    by_cases e : k = a
    · exact Or.inr ⟨j, hj, by simp [MM, e], hs⟩
    · simpa [MM, e] using n2 k hk
  have hP1 : re_E 64 4 0 38 (sI s 4 0 a (nI j)) (sI t 38 a 0 (nI j)) := re_E_w p1
  have hP2 : re_E 64 4 1 39 (sI (sI s 4 0 a (nI j)) 4 1 a b) (sI (sI t 38 a 0 (nI j)) 39 a 0 b) := re_E_w p2
  have hX4 : ∀ i, i < 32768 → wh (if 40 = 40 ∧ 0 = 0 ∧ 512 * a + 0 ≤ i ∧ i < 512 * a + 0 + 512 then 0 else gJ t 40 i 0) = (if 40 = 40 ∧ 0 = 0 ∧ 512 * a + 0 ≤ i ∧ i < 512 * a + 0 + 512 then 0 else gJ t 40 i 0) := by
    intro i hi
    split
    · decide
    · exact x4 i hi
  by_cases hw : gP s 4 4 a = none
  · rw [if_pos hw]
    have hc := x1 a a64
    rw [hw] at hc
    have hca : ¬ a < cn s 16 := fun q => by rw [if_pos q] at hc; cases hc
    have hac : a = cn s 16 := by
      rcases Nat.lt_or_ge (cn s 16) a with q | q
      · exact absurd (x2 (cn s 16) (by omega) (Nat.le_refl _)) (amin _ (by omega) q)
      · omega
    have l1' : LC (sP (nw (sI (sI s 4 0 a (nI j)) 4 1 a b) 16 512) 4 4 a (some (cn s 16))) nf := LC_sP (LC_nw (LC_sI (LC_sI l1 (by omega)) (by omega)) (show cn s 16 < 64 by omega)) (by unfold dyP; omega)
    refine ⟨⟨LC_sI l1' (by omega), LR_sI (c := 41) (by omega) (LR_sI (c := 39) (by omega) (LR_sI (c := 38) (by omega) l2)), ?_⟩, ⟨j0, hB, hW, ⟨n1, hN⟩, hH⟩, ⟨ff1, ⟨hP1, hP2⟩, ll, mm, sS', qq⟩, ⟨rr, aa, ⟨?_, ?_, ?_, hX4, ?_⟩, tt, uu, yy, cc, dd⟩, oo, kk⟩
    · show sz s + 1 = g 16 (cn s 16 + 1)
      rw [hg, ← l3]
    · intro k hk
      have E1 : cn (sI (sP (nw (sI (sI s 4 0 a (nI j)) 4 1 a b) 16 512) 4 4 a (some (cn s 16))) 3 5 j (gI s 3 5 j + 1)) 16 = cn s 16 + 1 := by simp [MM]
      have E2 : gP (sI (sP (nw (sI (sI s 4 0 a (nI j)) 4 1 a b) 16 512) 4 4 a (some (cn s 16))) 3 5 j (gI s 3 5 j + 1)) 4 4 k = if k = a then some (cn s 16) else gP s 4 4 k := by simp [MM]
      rw [E1, E2]
      by_cases e : k = a
      · rw [if_pos e, if_pos (by omega), e, ← hac]
      · rw [if_neg e, x1 k hk]
        by_cases q : k < cn s 16
        · rw [if_pos q, if_pos (by omega)]
        · rw [if_neg q, if_neg (by omega)]
    · intro k hk hk2
      have hk2 : cn s 16 + 1 ≤ k := hk2
      have e : ¬ k = a := by omega
      have := x2 k hk (by omega)
      show gI (sI t 38 a 0 (nI j)) 38 k 0 = -1
      simpa [MM, e] using this
    · intro k e hk he hne
      have E1 : gJ (sI (sP (nw (sI (sI s 4 0 a (nI j)) 4 1 a b) 16 512) 4 4 a (some (cn s 16))) 3 5 j (gI s 3 5 j + 1)) 16 e k = if k = cn s 16 then 0 else gJ s 16 e k := by simp [MM]
      rw [E1]
      show (if k = cn s 16 then 0 else gJ s 16 e k) = (if 40 = 40 ∧ 0 = 0 ∧ 512 * a + 0 ≤ 512 * k + e ∧ 512 * k + e < 512 * a + 0 + 512 then 0 else gJ t 40 (512 * k + e) 0)
      by_cases q : k = a
      · rw [if_pos (by omega), if_pos ⟨rfl, rfl, by omega, by omega⟩]
      · rw [if_neg (by omega), if_neg (by omega)]
        refine x3 k e hk he ?_
        have : ¬ gI (sI t 38 a 0 (nI j)) 38 k 0 = -1 := hne
        simpa [MM, q] using this
    · intro k e hk hc' he hm
      have E1 : gJ (sI (sP (nw (sI (sI s 4 0 a (nI j)) 4 1 a b) 16 512) 4 4 a (some (cn s 16))) 3 5 j (gI s 3 5 j + 1)) 16 e k = if k = cn s 16 then 0 else gJ s 16 e k := by simp [MM]
      rw [E1]
      have hc' : k < cn s 16 + 1 := hc'
      have hm : gI (sI t 38 a 0 (nI j)) 38 k 0 = -1 := hm
      by_cases q : k = a
      · rw [if_pos (by omega)]
      · rw [if_neg (by omega)]
        exact x5 k e hk (by omega) he (by simpa [MM, q] using hm)
  · rw [if_neg hw]
    have hc := x1 a a64
    have hca : a < cn s 16 := by
      rcases Nat.lt_or_ge a (cn s 16) with q | q
      · exact q
      · rw [if_neg (by omega)] at hc; exact absurd hc hw
    have l1' : LC (sI (sI s 4 0 a (nI j)) 4 1 a b) nf := LC_sI (LC_sI l1 (by omega)) (by omega)
    refine ⟨⟨LC_sI l1' (by omega), LR_sI (c := 41) (by omega) (LR_sI (c := 39) (by omega) (LR_sI (c := 38) (by omega) l2)), l3⟩, ⟨j0, hB, hW, ⟨n1, hN⟩, hH⟩, ⟨ff1, ⟨hP1, hP2⟩, ll, mm, sS', qq⟩, ⟨rr, aa, ⟨x1, ?_, ?_, hX4, ?_⟩, tt, uu, yy, cc, dd⟩, oo, kk⟩
    · intro k hk hk2
      have hk2 : cn s 16 ≤ k := hk2
      have e : ¬ k = a := by omega
      have := x2 k hk hk2
      show gI (sI t 38 a 0 (nI j)) 38 k 0 = -1
      simpa [MM, e] using this
    · intro k e hk he hne
      show gJ s 16 e k = (if 40 = 40 ∧ 0 = 0 ∧ 512 * a + 0 ≤ 512 * k + e ∧ 512 * k + e < 512 * a + 0 + 512 then 0 else gJ t 40 (512 * k + e) 0)
      by_cases q : k = a
      · rw [if_pos ⟨rfl, rfl, by omega, by omega⟩, q]
        exact x5 a e a64 hca he a0
      · rw [if_neg (by omega)]
        refine x3 k e hk he ?_
        have : ¬ gI (sI t 38 a 0 (nI j)) 38 k 0 = -1 := hne
        simpa [MM, q] using this
    · intro k e hk hc' he hm
      have hm : gI (sI t 38 a 0 (nI j)) 38 k 0 = -1 := hm
      by_cases q : k = a
      · rw [gI_sI, if_pos ⟨rfl, q, rfl⟩] at hm
        exact absurd hm hjm
      · exact x5 k e hk hc' he (by simpa [MM, q] using hm)
end Rel3
