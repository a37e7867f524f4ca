/-! questions: word, paper, chosen, printed, job -/
section Ask3
variable {g : Nat → Nat → Nat} {s t u : Sg} {X : Sg × Option Av} {nf B n : Nat} {Q : List Nat}
theorem sl_over (h : Rl g s t nf B Q) {j : Nat} {b : Int32} (hj : j < 4) (ho : ¬ gI t 22 j 0 < 3) : slotF t (nI j) b = none := by
  cases e : slotF t (nI j) b with
  | none => rfl
  | some k =>
    obtain ⟨y1, y2, y3, y4⟩ := ff_some e
    rcases h.2.1.2.2.2.1.2 k (by omega) with z | ⟨i, z1, z2, z3⟩
    · exact absurd (z.symm.trans y3.1) (fun q => nI_nm (by omega) q.symm)
    · have : i = j := (nI_eq (by omega) (by omega)).mp (z2.symm.trans y3.1)
      rw [this] at z3
      exact absurd z3 ho
/-- a page's words are there -/
theorem wd_here (h : Rl g s t nf B Q) {j k : Nat} {b : Int32} (hj : j < 4) (e : slotF t (nI j) b = some k) : k < 64 ∧ gP s 4 4 k = some k ∧ k < cn s 16 ∧ ¬ gI t 38 k 0 = -1 ∧ ∀ e, e < 512 → gJ s 16 e k = gJ t 40 (512 * k + e) 0 := by
  obtain ⟨y1, y2, y3, y4⟩ := ff_some e
  obtain ⟨x1, x2, x3, x4⟩ := h.2.2.2.1.2.2.1
  have hk : k < 64 := by omega
  have hne : ¬ gI t 38 k 0 = -1 := by rw [y3.1]; exact nI_nm (by omega)
  have hc : k < cn s 16 := Classical.byContradiction (fun z => hne (x2 k hk (by omega)))
  refine ⟨hk, ?_, hc, hne, fun e he => x3 k e hk he hne⟩
  rw [x1 k hk, if_pos hc]
theorem rel_word (h : Rl g s t nf B Q) (h1 : gI s 10 8 0 = nI n) (h2 : gI t 11 47 0 = nI n) (x a : Int32) : AN g 95 [oC, some (.inl x), some (.inl a), none] 169 [oR, some (.inl x), some (.inl a)] s t nf B n := by
  by_cases c : x < 0 ∨ ¬ x < 4
  · have r1 := fun X => r_in_x (g := g) (t := t) (X := X) (K := 3) c (by decide)
    have r2 := fun X => c_jobOf_n (g := g) (X := X) h.1.1 c
    refine an_same (v := .inr (.inl 0)) h h1 h2 (fun X => ?_) (fun X => ?_)
    · simp [Q95, MM, MK, h.1.1, r2]
    · simp [Q169, MM, MK, h.1.2.1, r1]
  · obtain ⟨j, hj, rfl⟩ := arg_ex (m := 4) (by decide) c
    have r1 := fun X => r_in_y (g := g) (t := t) (X := X) (K := 3) (x := nI j) rfl (show j ≤ 3 by omega) (by omega) (by decide)
    have r2 := fun X => c_jobOf_y (g := g) (X := X) h.1.1 hj
    have r3 := fun X => c_isAddress (g := g) (s := s) (X := X) (a := a)
    by_cases d : a < 0 ∨ ¬ a < 1048576
    · have r4 := fun X => r_in_x (g := g) (t := t) (X := X) (K := 1048575) d (by decide)
      rw [if_pos d] at r3
      refine an_same (v := .inr (.inl 0)) h h1 h2 (fun X => ?_) (fun X => ?_)
      · simp [Q95, MM, MK, h.1.1, r2, r3]
      · simp [Q169, MM, MK, h.1.2.1, r1, r4]
    · rw [if_neg d] at r3
      obtain ⟨A, hA, rfl⟩ := adr_ex d
      have r4 := fun X => r_in_ok (g := g) (t := t) (X := X) hA
      have r5 := fun X => r_isOver (g := g) (X := X) h.1.2.1 hj
      have r6 := fun X => c_find (g := g) (X := X) h.1.1 (nI j) (nI (A / 512))
      rw [lk_pg h] at r6
      have hd5 := d512 (show A < 2 ^ 31 by omega)
      have hm5 := m512' (show A < 2 ^ 31 by omega)
      by_cases o : gI t 22 j 0 < 3
      · have o' : ¬ (3 : Int32) ≤ gI t 22 j 0 := by rw [i32_le]; exact not_not_intro o
        rw [if_neg o'] at r5
        have r7 := fun X => r_at (g := g) (X := X) (j := nI j) h.1.2.1 hA
        refine an_same (v := .inr (.inl (atF t (nI j) A))) h h1 h2 (fun X => ?_) (fun X => ?_)
        · cases e : slotF t (nI j) (nI (A / 512)) with
          | none =>
            rw [e] at r6
            have : atF t (nI j) A = 0 := by unfold atF; rw [e]
            rw [this]
            simp [Q95, MM, MK, h.1.1, r2, r3, hd5, r6]
          | some k =>
            rw [e] at r6
            obtain ⟨b1, b2, b3, b4, b5⟩ := wd_here h hj e
            have : atF t (nI j) A = gJ s 16 (A % 512) k := by unfold atF; rw [e]; exact (b5 _ (by omega)).symm
            rw [this]
            have r8 := fun X => c_wordAt (g := g) (X := X) (e := A % 512) h.1.1 b1 (by omega) b2 b3
            simp [Q95, MM, MK, h.1.1, r2, r3, hd5, hm5, r6, b1, r8]
        · simp [Q169, MM, MK, h.1.2.1, r1, r4, r5, r7]
      · have o' : (3 : Int32) ≤ gI t 22 j 0 := by rw [i32_le]; exact o
        rw [if_pos o'] at r5
        rw [sl_over h hj o] at r6
        refine an_same (v := .inr (.inl 0)) h h1 h2 (fun X => ?_) (fun X => ?_)
        · simp [Q95, MM, MK, h.1.1, r2, r3, hd5, r6]
        · simp [Q169, MM, MK, h.1.2.1, r1, r4, r5]
theorem rel_paper (h : Rl g s t nf B Q) (h1 : gI s 10 8 0 = nI n) (h2 : gI t 11 47 0 = nI n) (x i : Int32) : AN g 96 [oC, some (.inl x), some (.inl i), none] 170 [oR, some (.inl x), some (.inl i)] s t nf B n := by
  by_cases c : x < 0 ∨ ¬ x < 4
  · have r1 := fun X => r_in_x (g := g) (t := t) (X := X) (K := 3) c (by decide)
    have r2 := fun X => c_jobOf_n (g := g) (X := X) h.1.1 c
    refine an_same (v := .inr (.inl 0)) h h1 h2 (fun X => ?_) (fun X => ?_)
    · simp [Q96, MM, MK, h.1.1, r2]
    · simp [Q170, MM, MK, h.1.2.1, r1]
  · obtain ⟨j, hj, rfl⟩ := arg_ex (m := 4) (by decide) c
    have r1 := fun X => r_in_y (g := g) (t := t) (X := X) (K := 3) (x := nI j) rfl (show j ≤ 3 by omega) (by omega) (by decide)
    have r2 := fun X => c_jobOf_y (g := g) (X := X) h.1.1 hj
    obtain ⟨d, f, p, u1, u2, u3, u4, u5⟩ := h.2.2.2.1.2.2.2.2.1 j hj
    have hd : d ≤ 200 := by have := u1.2.2.1; rw [cap_p hj] at this; exact this
    have r3 := fun X => c_at (g := g) (X := X) (x0 := i) h.1.1 (show 4 + 2 * j < 11 by omega) u1
    have hN : (nI d).toInt = (d : Int) := nI_toInt (by omega)
    have e1 : (nI d - 1).toInt64.toInt + 1 = d := by
      rw [t64, Int32.toInt_sub, hN, show (1 : Int32).toInt = 1 by decide]
      simp only [Int.bmod]
      omega
    by_cases q : i < 0 ∨ ¬ i < nI d
    · rw [if_pos q] at r3
      have r4 := fun X => r_in_x (g := g) (t := t) (X := X) (K := (nI d - 1).toInt64) q (by rw [hN]; omega)
      refine an_same (v := .inr (.inl 0)) h h1 h2 (fun X => ?_) (fun X => ?_)
      · simp [Q96, MM, MK, h.1.1, r2, hj, show 4 + 2 * j < 11 by omega, r3]
      · simp only [Q170, MM, MK, h.1.2.1, r1, r4, u2, inN hj (show 4 ≤ 65536 by decide), if_true, if_false, Nat.zero_lt_one, exists_eq_left, List.nil_append, List.cons_append, List.append_nil, show ¬ (1 : Int32) = 0 by decide]
    · rw [if_neg q] at r3
      obtain ⟨e, he, rfl⟩ := arg_ex (m := d) hN q
      rw [nI_clamp (by omega), u5 e he] at r3
      have r4 := fun X => r_in_y (g := g) (t := t) (X := X) (K := (nI d - 1).toInt64) (x := nI e) (k := d - 1) rfl (by omega) (by omega) (by omega)
      refine an_same (v := .inr (.inl (gJ t 36 (200 * j + e) 0))) h h1 h2 (fun X => ?_) (fun X => ?_)
      · simp [Q96, MM, MK, h.1.1, r2, hj, show 4 + 2 * j < 11 by omega, r3]
      · simp only [Q170, MM, MK, h.1.2.1, r1, r4, u2, t200, nI_add, inN hj (show 4 ≤ 65536 by decide), inN (show 200 * j + e < 800 by omega) (show 800 ≤ 65536 by decide), if_true, if_false, Nat.zero_lt_one, exists_eq_left, List.nil_append, List.cons_append, List.append_nil, show ¬ (1 : Int32) = 0 by decide]
theorem rel_chosen (h : Rl g s t nf B Q) (h1 : gI s 10 8 0 = nI n) (h2 : gI t 11 47 0 = nI n) (hB : B < 1900000000) (x : Int32) : AN g 101 [oC, some (.inl x)] 175 [oR, some (.inl x)] s t nf B n := by
  obtain ⟨c, f, m, z1, z2, z3, z4, z5, z6⟩ := h.2.2.2.1.2.2.2.2.2.2.1
  have r1 := fun X => c_size (g := g) (X := X) h.1.1 (show 1 < 11 by omega) z1
  have r2 := fun X => c_fromEnd (g := g) (X := X) (x0 := x) h.1.1 (show 1 < 11 by omega) z1
  have hN : (nI c).toInt = (c : Int) := nI_toInt (by omega)
  by_cases q : x < 0 ∨ ¬ x < nI c
  · refine an_same (v := .inl (-1)) h h1 h2 (fun X => ?_) (fun X => ?_)
    · by_cases a1 : x < 0
      · simp [Q101, MM, MK, h.1.1, a1]
      · have a3 : ¬ x < nI c := q.elim (fun z => absurd z a1) id
        have a2 : nI c ≤ x := by rw [i32_le]; exact a3
        simp only [Q101, MM, MK, h.1.1, a1, r1, a2, a3, if_true, if_false, Nat.zero_lt_one, exists_eq_left, List.nil_append, List.cons_append, List.append_nil, show (1 : Nat) < 11 by omega]
    · by_cases q2 : x < 0 ∨ ¬ x < 64
      · have r3 := fun X => r_in_x (g := g) (t := t) (X := X) (K := 63) q2 (by decide)
        simp [Q175, MM, MK, h.1.2.1, r3]
      · obtain ⟨i, hi, rfl⟩ := arg_ex (m := 64) (by decide) q2
        have r3 := fun X => r_in_y (g := g) (t := t) (X := X) (K := 63) (x := nI i) rfl (show i ≤ 63 by omega) (by omega) (by decide)
        have hci : c ≤ i := by
          rcases q with z | z
          · exact absurd z (nI_pos (by omega))
          · exact Classical.byContradiction (fun y => z (nI_lt (by omega) (by omega)))
        have hle : nI m ≤ nI i := nI_le (by omega) (by omega)
        have hnl : ¬ nI i < nI m := nI_nlt (by omega) (by omega)
        simp only [Q175, MM, MK, h.1.2.1, r3, z2, hle, hnl, if_true, if_false, Nat.zero_lt_one, exists_eq_left, List.nil_append, List.cons_append, List.append_nil, show ¬ (1 : Int32) = 0 by decide]
  · rw [if_neg q] at r2
    obtain ⟨i, hi, rfl⟩ := arg_ex (m := c) hN q
    rw [nI_clamp (by omega), z6 (c - 1 - i) (by omega)] at r2
    have a1 : ¬ nI i < 0 := nI_pos (by omega)
    have a2 : ¬ nI c ≤ nI i := nI_ge (by omega) (by omega)
    have a3 : nI i < nI c := nI_lt (by omega) (by omega)
    have r3 := fun X => r_in_y (g := g) (t := t) (X := X) (K := 63) (x := nI i) rfl (show i ≤ 63 by omega) (by omega) (by decide)
    have hle : ¬ nI m ≤ nI i := nI_ge (by omega) (by omega)
    have hnl : nI i < nI m := nI_lt (by omega) (by omega)
    have e1 : nI m - 1 = nI (m - 1) := nI_sub (b := 1) (by omega)
    have e2 : nI (m - 1) - nI i = nI (m - 1 - i) := nI_sub (by omega)
    have e3 : nI (m - 1 - i) - nI (m - 1 - i) / 64 * 64 = nI ((m - 1 - i) % 64) := nI_rem (b := 64) (by omega) (by decide)
    have e4 : (m - c + (c - 1 - i)) % 64 = (m - 1 - i) % 64 := by congr 1; omega
    rw [e4] at r2
    refine an_same (v := .inl (gI t 53 ((m - 1 - i) % 64) 0)) h h1 h2 (fun X => ?_) (fun X => ?_)
    · simp only [Q101, MM, MK, h.1.1, a1, r1, r2, a2, a3, Int32.toInt32_toInt64, if_true, if_false, Nat.zero_lt_one, exists_eq_left, List.nil_append, List.cons_append, List.append_nil, show (1 : Nat) < 11 by omega]
    · simp only [Q175, MM, MK, h.1.2.1, r3, z2, hle, hnl, e1, e2, e3, inN (show (m - 1 - i) % 64 < 64 by omega) (show 64 ≤ 65536 by decide), if_true, if_false, Nat.zero_lt_one, exists_eq_left, List.nil_append, List.cons_append, List.append_nil, show ¬ (1 : Int32) = 0 by decide, show ¬ (64 : Int32) = 0 by decide, not_false_eq_true]
theorem rel_printed (h : Rl g s t nf B Q) (h1 : gI s 10 8 0 = nI n) (h2 : gI t 11 47 0 = nI n) (hB : B < 1900000000) (x : Int32) : AN g 102 [oC, some (.inl x)] 176 [oR, some (.inl x)] s t nf B n := by
  obtain ⟨c, f, m, z1, z2, z3, z4, z5, z6⟩ := h.2.2.2.1.2.2.2.2.2.2.2
  have r2 := fun X => c_fromEnd (g := g) (X := X) (x0 := x) h.1.1 (show 2 < 11 by omega) z1
  have hN : (nI c).toInt = (c : Int) := nI_toInt (by omega)
  by_cases q : x < 0 ∨ ¬ x < nI c
  · rw [if_pos q] at r2
    refine an_same (v := .inr (.inl 0)) h h1 h2 (fun X => ?_) (fun X => ?_)
    · simp [Q102, MM, MK, h.1.1, r2]
    · by_cases q2 : x < 0 ∨ ¬ x < 400
      · have r3 := fun X => r_in_x (g := g) (t := t) (X := X) (K := 399) q2 (by decide)
        simp [Q176, MM, MK, h.1.2.1, r3]
      · obtain ⟨i, hi, rfl⟩ := arg_ex (m := 400) (by decide) q2
        have r3 := fun X => r_in_y (g := g) (t := t) (X := X) (K := 399) (x := nI i) rfl (show i ≤ 399 by omega) (by omega) (by decide)
        have hci : c ≤ i := by
          rcases q with z | z
          · exact absurd z (nI_pos (by omega))
          · exact Classical.byContradiction (fun y => z (nI_lt (by omega) (by omega)))
        have hle : nI m ≤ nI i := nI_le (by omega) (by omega)
        have hnl : ¬ nI i < nI m := nI_nlt (by omega) (by omega)
        simp only [Q176, MM, MK, h.1.2.1, r3, z2, hle, hnl, if_true, if_false, Nat.zero_lt_one, exists_eq_left, List.nil_append, List.cons_append, List.append_nil, show ¬ (1 : Int32) = 0 by decide]
  · rw [if_neg q] at r2
    obtain ⟨i, hi, rfl⟩ := arg_ex (m := c) hN q
    rw [nI_clamp (by omega), z6 (c - 1 - i) (by omega)] at r2
    have r3 := fun X => r_in_y (g := g) (t := t) (X := X) (K := 399) (x := nI i) rfl (show i ≤ 399 by omega) (by omega) (by decide)
    have hle : ¬ nI m ≤ nI i := nI_ge (by omega) (by omega)
    have hnl : nI i < nI m := nI_lt (by omega) (by omega)
    have e1 : nI m - 1 = nI (m - 1) := nI_sub (b := 1) (by omega)
    have e2 : nI (m - 1) - nI i = nI (m - 1 - i) := nI_sub (by omega)
    have e3 : nI (m - 1 - i) - nI (m - 1 - i) / 400 * 400 = nI ((m - 1 - i) % 400) := nI_rem (b := 400) (by omega) (by decide)
    have e4 : (m - c + (c - 1 - i)) % 400 = (m - 1 - i) % 400 := by congr 1; omega
    rw [e4] at r2
    refine an_same (v := .inr (.inl (gJ t 54 ((m - 1 - i) % 400) 0))) h h1 h2 (fun X => ?_) (fun X => ?_)
    · simp [Q102, MM, MK, h.1.1, r2]
    · simp only [Q176, MM, MK, h.1.2.1, r3, z2, hle, hnl, e1, e2, e3, inN (show (m - 1 - i) % 400 < 400 by omega) (show 400 ≤ 65536 by decide), if_true, if_false, Nat.zero_lt_one, exists_eq_left, List.nil_append, List.cons_append, List.append_nil, show ¬ (1 : Int32) = 0 by decide, show ¬ (400 : Int32) = 0 by decide, not_false_eq_true]
theorem rel_job (h : Rl g s t nf B Q) (h1 : gI s 10 8 0 = nI n) (h2 : gI t 11 47 0 = nI n) (x w : Int32) : AN g 92 [oC, some (.inl x), some (.inl w), none] 166 [oR, some (.inl x), some (.inl w)] s t nf B n := by
  by_cases c : x < 0 ∨ ¬ x < 4
  · have r1 := fun X => r_in_x (g := g) (t := t) (X := X) (K := 3) c (by decide)
    have r2 := fun X => c_jobOf_n (g := g) (X := X) h.1.1 c
    refine an_same (v := .inl (-1)) h h1 h2 (fun X => ?_) (fun X => ?_)
    · simp [Q92, MM, MK, h.1.1, r2]
    · simp [Q166, MM, MK, h.1.2.1, r1]
  · obtain ⟨j, hj, rfl⟩ := arg_ex (m := 4) (by decide) c
    have r1 := fun X => r_in_y (g := g) (t := t) (X := X) (K := 3) (x := nI j) rfl (show j ≤ 3 by omega) (by omega) (by decide)
    have r2 := fun X => c_jobOf_y (g := g) (X := X) h.1.1 hj
    obtain ⟨tc, tf, t1, t2, t3⟩ := h.2.2.2.1.2.2.2.1 j hj
    obtain ⟨d, f, p, u1, u2, u3, u4, u5⟩ := h.2.2.2.1.2.2.2.2.1 j hj
    have r3 := fun X => c_jobTell (g := g) (X := X) (w := w) h.1.1 hj t1 u1 (fun k => (rl_WQ h).1 j k hj)
    obtain ⟨j1, j2, j3, j4, j5, j6, j7, j8⟩ := h.2.1.1
    have bb := h.2.1.2.1 j hj
    have r5 := fun X => r_isOver (g := g) (X := X) h.1.2.1 hj
    have hj4 := inN hj (by omega)
    have e4 : gI s 3 5 j = if 3 ≤ gI t 22 j 0 then 0 else gI t 41 j 0 := by
      by_cases o : gI t 22 j 0 < 3
      · rw [if_neg (by rw [i32_le]; exact not_not_intro o)]
        exact bb.1 o
      · rw [if_pos (by rw [i32_le]; exact o)]
        exact bb.2 o
    have ej : jtF s j w tc d = (if w = 0 then gI t 22 j 0 else if w = 1 then gI t 23 j 0 else if w = 2 then gI t 24 j 0 else if w = 3 then gI t 25 j 0 else if w = 4 then (if 3 ≤ gI t 22 j 0 then 0 else gI t 41 j 0) else if w = 5 then nI tc else if w = 6 then nI d else if w = 7 then gI t 28 j 0 else if w = 8 then gI t 29 j 0 else -1) := by
      unfold jtF
      rw [j1 j hj, j2 j hj, j3 j hj, e4, j6 j hj, j7 j hj]
      rcases h.2.1.2.2.1 j hj with e | ⟨k, a1, a2, a3, a4, a5⟩
      · rw [e.1, e.2.1]
      · rw [a2]
        dsimp only
        rw [h.2.2.1.2.1.2 k a1, a5]
    rw [ej] at r3
    refine an_same (v := .inl (if w = 0 then gI t 22 j 0 else if w = 1 then gI t 23 j 0 else if w = 2 then gI t 24 j 0 else if w = 3 then gI t 25 j 0 else if w = 4 then (if 3 ≤ gI t 22 j 0 then 0 else gI t 41 j 0) else if w = 5 then nI tc else if w = 6 then nI d else if w = 7 then gI t 28 j 0 else if w = 8 then gI t 29 j 0 else -1)) h h1 h2 (fun X => ?_) (fun X => ?_)
    · simp only [Q92, MM, MK, h.1.1, r2, hj, r3, if_true, if_false, Nat.zero_lt_one, exists_eq_left, List.nil_append, List.cons_append, List.append_nil]
      simp
    · by_cases w0 : w = 0
      · subst w0; simp [Q166, MM, MK, h.1.2.1, r1, hj4]
      by_cases w1 : w = 1
      · subst w1; simp [Q166, MM, MK, h.1.2.1, r1, hj4]
      by_cases w2 : w = 2
      · subst w2; simp [Q166, MM, MK, h.1.2.1, r1, hj4]
      by_cases w3 : w = 3
      · subst w3; simp [Q166, MM, MK, h.1.2.1, r1, hj4]
      by_cases w4 : w = 4
      · subst w4
        by_cases o : (3 : Int32) ≤ gI t 22 j 0
        · rw [if_pos o] at r5
          simp [Q166, MM, MK, h.1.2.1, r1, hj4, r5, o]
        · rw [if_neg o] at r5
          simp [Q166, MM, MK, h.1.2.1, r1, hj4, r5, o]
      by_cases w5 : w = 5
      · subst w5; simp [Q166, MM, MK, h.1.2.1, r1, hj4, t2]
      by_cases w6 : w = 6
      · subst w6; simp [Q166, MM, MK, h.1.2.1, r1, hj4, u2]
      by_cases w7 : w = 7
      · subst w7; simp [Q166, MM, MK, h.1.2.1, r1, hj4]
      by_cases w8 : w = 8
      · subst w8; simp [Q166, MM, MK, h.1.2.1, r1, hj4]
      simp [Q166, MM, MK, h.1.2.1, r1, hj4, w0, w1, w2, w3, w4, w5, w6, w7, w8]
end Ask3
