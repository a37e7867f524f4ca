/-! keying; a job starts -/
section Sta1
variable {g : Nat → Nat → Nat} {s t u : Sg} {X : Sg × Option Av} {nf B n : Nat} {Q : List Nat}
theorem cap_0 : cap 0 = 1000 := by decide
theorem rl_key {c f : Nat} {v : Int64} (h : Rl g s t nf B Q) (ho : RO s 0 c f) (hc : c < 1000) (hv : wh v = v) : Rl g (sI (sJ s 19 (rix 0 f c) 0 v) 9 2 0 (nI (c + 1))) (sI (sJ t 21 c 0 v) 11 2 0 (nI (c + 1))) nf B Q := by
  obtain ⟨⟨l1, l2, l3⟩, ⟨j0, bb, ww, nn, hh⟩, ⟨ff1, pp, ll, mm, ss, qq⟩, ⟨rr, aa, xx, tt, uu, yy, cc, dd⟩, oo, kk⟩ := h
  have k9 : rw9 s (sI (sJ s 19 (rix 0 f c) 0 v) 9 2 0 (nI (c + 1))) 0 := rw9_t rw9_J rw9_I
  obtain ⟨c', f', t1, t2, t3⟩ := yy
  obtain ⟨rfl, rfl⟩ := RO_u ho t1
  have hcap := cap_0
  have hf5 : f < 1000 := by have := ho.2.2.2; omega
  refine ⟨⟨LC_sI (LC_sJ l1) (by omega), LR_sI (by omega) (LR_sJ l2), l3⟩, ⟨j0, bb, ww, nn, hh⟩, ⟨ff1, pp, ll, mm, ss, qq⟩, ⟨rr, aa, xx, re_T_9 (fun i hi => by omega) k9 tt, re_U_9 (fun i hi => by omega) k9 uu, ?_, re_C_9 (by omega) k9 rfl cc, re_D_9 (by omega) k9 rfl dd⟩, oo, kk⟩
  refine ⟨c + 1, f, ⟨?_, ?_, by omega, ho.2.2.2⟩, ?_, fun e he => ?_⟩
  · rw [gI_sI, if_pos ⟨rfl, rfl, rfl⟩]
  · rw [gI_sI, if_neg (by omega)]
    exact ho.2.1
  · rw [gI_sI, if_pos ⟨rfl, rfl, rfl⟩]
  · show gJ (sJ s 19 (rix 0 f c) 0 v) 19 (rix 0 f e) 0 = gJ (sJ t 21 c 0 v) 21 e 0 ∧ wh (gJ (sJ t 21 c 0 v) 21 e 0) = gJ (sJ t 21 c 0 v) 21 e 0
    rw [gJ_sJ, gJ_sJ]
    by_cases z : e = c
    · rw [if_pos ⟨rfl, by rw [z], rfl⟩, if_pos ⟨rfl, z, rfl⟩]
      exact ⟨rfl, hv⟩
    · have ne : ¬ rix 0 f e = rix 0 f c := by
        unfold rix
        rw [hcap]
        grind
      rw [if_neg (fun y => ne y.2.1), if_neg (fun y => z y.2.1)]
      exact t3 e (by omega)
theorem rel_key (h : Rl g s t nf B Q) (h1 : gI s 10 8 0 = nI n) (h2 : gI t 11 47 0 = nI n) (w : Int64) : AN g 87 [oC, some (.inr (.inl w)), none] 125 [oR, some (.inr (.inl w)), none] s t nf B n := by
  obtain ⟨c, f, y1, y2, y3⟩ := h.2.2.2.1.2.2.2.2.2.1
  have r1 := fun X => c_cutToWord (g := g) (s := s) (X := X) (v := w)
  have r2 := fun X => c_append (g := g) (X := X) (v := wh w) h.1.1 (show 0 < 11 by omega) y1
  have r3 := fun X => r_whole (g := g) (t := t) (X := X) (x := w)
  have hc : c ≤ 1000 := by have := y1.2.2.1; rw [cap_0] at this; exact this
  rw [cap_0] at r2
  by_cases q : c < 1000
  · rw [if_pos q] at r2
    have k := rl_key h y1 q (wh_wh w)
    have hro : RO (sI (sJ s 19 (rix 0 f c) 0 (wh w)) 9 2 0 (nI (c + 1))) 0 (c + 1) f := by
      refine ⟨rfl, y1.2.1, by rw [cap_0]; omega, y1.2.2.2⟩
    have r4 := fun X => c_size (g := g) (X := X) k.1.1 (show 0 < 11 by omega) hro
    have hne : ¬ nI c = 1000 := fun z => by have := (nI_eq (b := 1000) (by omega) (by omega)).mp z; omega
    refine ⟨_, _, .inl (nI (c + 1)), B, n, Q, fun X => ?_, fun X => ?_, k, h1, h2, by omega, by omega⟩
    · simp [Q87, MM, MK, h.1.1, k.1.1, r1, r2, r4]
    · simp [Q125, MM, MK, h.1.2.1, y2, hne, r3, inN (show c < 1000 by omega), nI_1]
  · rw [if_neg q] at r2
    obtain rfl : c = 1000 := by omega
    refine an_same (v := .inl (-1)) h h1 h2 (fun X => ?_) (fun X => ?_)
    · simp [Q87, MM, MK, h.1.1, r1, r2]
    · simp [Q125, MM, MK, h.1.2.1, y2, show nI 1000 = 1000 from rfl]
/-- the class's sum of what the others may have -/
def bbC (s : Sg) (j : Nat) : Nat → Nat → Int32 → Int32
  | _, 0, a => a
  | i, n + 1, a => bbC s j (i + 1) n (if i = j then a else a + rsvF s i)
theorem c_resB_l (h : LC s nf) {j : Nat} (hj : j < 4) : ∀ n i a, i + n = 4 → (Rn g 106 4 [oC, some (.inr (.inr (some (3, j)))), some (.inl a), some (.inl (nI i))] [] s X ↔ X = (s, some (.inl (bbC s j i n a))))
  | 0, i, a, hi => by
    obtain rfl : i = 4 := by omega
    have h1 : nI 4 ≤ nI 4 := by decide
    simp [Q106, II, MM, MK, h, ofN, h1, bbC]
  | n + 1, i, a, hi => by
    have h1 : ¬ nI 4 ≤ nI i := nI_ge (by omega) (by omega)
    have hi4 : i < 4 := by omega
    have ih := fun a => c_resB_l h hj n (i + 1) a (by omega)
    have r1 := fun X => c_reserved (g := g) (X := X) h hi4
    by_cases a1 : i = j
    · subst a1
      simp [Q106, II, MM, MK, h, ofN, h1, hi4, inN hi4, bbC]
      simp only [e106_38, nI_1, ih]
    · simp [Q106, II, MM, MK, h, ofN, h1, hi4, hj, inN hi4, a1, r1, bbC]
      simp only [e106_38, nI_1, ih]
theorem c_resB (h : LC s nf) {j : Nat} (hj : j < 4) : Rn g 106 0 [oC, some (.inr (.inr (some (3, j)))), none, none] [] s X ↔ X = (s, some (.inl (bbC s j 0 4 0))) := by
  have r := c_resB_l (g := g) (X := X) h hj 4 0 0 (by omega)
  rw [nI_0] at r
  simp only [e106_0, e106_1, e106_2, e106_3, MK]
  exact r
theorem rsv_eq (h : Rl g s t nf B Q) {i : Nat} (hi : i < 4) : rsvF s i = resF t i := by
  have e1 := h.2.1.1.1 i hi
  have e6 := h.2.1.1.2.2.2.2.1 i hi
  have bb := h.2.1.2.1 i hi
  unfold rsvF resF
  rw [e1, e6]
  rcases h.2.1.2.2.2.1.1 i hi with z | z | z | z | z
  · rw [z] at bb ⊢
    rw [if_neg (by decide), if_pos rfl, if_pos rfl]
    exact bb.1 (by decide)
  · rw [z, if_neg (by decide), if_neg (by decide), if_neg (by decide), if_pos (by decide)]
  · rw [z, if_neg (by decide), if_neg (by decide), if_neg (by decide), if_pos (by decide)]
  · rw [z, if_pos (by decide), if_neg (by decide), if_neg (by decide)]
  · rw [z, if_pos (by decide), if_neg (by decide), if_neg (by decide)]
theorem bb_eq (h : Rl g s t nf B Q) {j : Nat} : ∀ n i a, i + n ≤ 4 → bbC s j i n a = bbF t j i n a
  | 0, _, _, _ => rfl
  | n + 1, i, a, hi => by
    rw [bbC, bbF, rsv_eq h (show i < 4 by omega)]
    exact bb_eq h n (i + 1) _ (by omega)
theorem bb_val {r : Nat → Nat} {j : Nat} (hr : ∀ i, i < 4 → resF t i = nI (r i)) (hj : j < 4) : bbF t j 0 4 0 = nI ((if 0 = j then 0 else r 0) + (if 1 = j then 0 else r 1) + (if 2 = j then 0 else r 2) + (if 3 = j then 0 else r 3)) := by
  have e : ∀ (i : Nat) (a : Nat), i < 4 → (if i = j then nI a else nI a + resF t i) = nI (a + if i = j then 0 else r i) := fun i a hi => by
    by_cases c : i = j
    · rw [if_pos c, if_pos c, Nat.add_zero]
    · rw [if_neg c, if_neg c, hr i hi, nI_add]
  simp only [bbF]
  rw [← nI_0, e 0 0 (by omega), e 1 _ (by omega), e 2 _ (by omega), e 3 _ (by omega), Nat.zero_add]
theorem rl_start {j b l : Nat} {a : Int32} (h : Rl g s t nf B Q) (hj : j < 4) (hs : gI t 22 j 0 = 0) (hl : l ≤ 1000000) (hb : b ≤ 64) (hbn : nsl t j ≤ b) (hsum : ∃ r : Nat → Nat, (∀ i, i < 4 → resF t i = nI (r i) ∧ (gI t 22 i 0 < 3 → nsl t i ≤ r i)) ∧ (if 0 = j then b else r 0) + (if 1 = j then b else r 1) + (if 2 = j then b else r 2) + (if 3 = j then b else r 3) ≤ 64) : Rl g (sI (sI (sI (sI s 3 1 j 1) 3 4 j (nI l)) 3 6 j (nI b)) 15 127 j (hf a.toInt64)) (sI (sI (sI (sI t 22 j 0 1) 26 j 0 (nI l)) 27 j 0 (nI b)) 33 (128 * j + 127) 0 (hf a.toInt64)) nf B Q := by
  refine rl_ctl ?_ hj
  obtain ⟨⟨l1, l2, l3⟩, ⟨⟨j1, j2, j3, j4, j5, j6, j7, j8⟩, bb, ww, ⟨n1, n2⟩, ⟨h1, _, h3⟩⟩, ⟨ff1, pp, ll, mm, ss, qq⟩, ⟨rr, aa, xx, tt, uu, yy, cc, dd⟩, ⟨o1, o2, o3, o4, o5, o6⟩, kk⟩ := h
  have r22 : ∀ i, gI (sI (sI (sI t 22 j 0 1) 26 j 0 (nI l)) 27 j 0 (nI b)) 22 i 0 = if i = j then 1 else gI t 22 i 0 := fun i => by simp [MM]
  have r26 : ∀ i, gI (sI (sI (sI t 22 j 0 1) 26 j 0 (nI l)) 27 j 0 (nI b)) 26 i 0 = if i = j then nI l else gI t 26 i 0 := fun i => by simp [MM]
  have r27 : ∀ i, gI (sI (sI (sI t 22 j 0 1) 26 j 0 (nI l)) 27 j 0 (nI b)) 27 i 0 = if i = j then nI b else gI t 27 i 0 := fun i => by simp [MM]
  have lt : ∀ i, (gI (sI (sI (sI t 22 j 0 1) 26 j 0 (nI l)) 27 j 0 (nI b)) 22 i 0 < 3) = (gI t 22 i 0 < 3) := fun i => by
    rw [r22]
    by_cases e : i = j
    · subst e; rw [if_pos rfl, hs]; exact propext ⟨fun _ => by decide, fun _ => by decide⟩
    · rw [if_neg e]
  refine ⟨⟨LC_sI (LC_sI (LC_sI l1 (by omega)) (by omega)) (by omega), LR_sI (by omega) (LR_sI (by omega) (LR_sI (by omega) l2)), l3⟩, ⟨⟨re_E_w (j := j) (v := 1) j1, j2, j3, re_E_w (j := j) (v := nI l) j4, re_E_w (j := j) (v := nI b) j5, j6, j7, j8⟩, ?_, ?_, ⟨?_, ?_⟩, ⟨?_, ?_, ?_⟩⟩, ⟨ff1, pp, ll, mm, ss, qq⟩, ⟨rr, aa, xx, tt, uu, yy, cc, dd⟩, ⟨o1, o2, o3, o4, ?_, o6⟩, kk⟩
  · intro i hi
    rw [lt]
    exact bb i hi
  · intro i hi
    rw [r22]
    by_cases e : i = j
    · subst e
      rcases ww i hi with q | ⟨k, a1, a2, a3, a4⟩
      · exact Or.inl ⟨q.1, q.2.1, by rw [if_pos rfl]; decide⟩
      · rw [hs] at a3
        exact absurd a3 (by decide)
    · rw [if_neg e]
      exact ww i hi
  · intro i hi
    rw [r22]
    by_cases e : i = j
    · rw [if_pos e]; exact Or.inr (Or.inl rfl)
    · rw [if_neg e]; exact n1 i hi
  · intro k hk
    rcases n2 k hk with z | ⟨i, z1, z2, z3⟩
    · exact Or.inl z
    · exact Or.inr ⟨i, z1, z2, by rw [lt]; exact z3⟩
  · intro i hi
    rw [lt]
    exact h1 i hi
  · obtain ⟨r, q1, q2⟩ := hsum
    refine ⟨fun i => if i = j then b else r i, fun i hi => ?_, q2⟩
    rw [lt]
    unfold resF
    rw [r22, r27]
    dsimp only
    by_cases e : i = j
    · subst e
      rw [if_pos rfl, if_pos rfl, if_pos rfl, if_neg (by decide), if_pos (by decide)]
      exact ⟨rfl, fun _ => hbn⟩
    · rw [if_neg e, if_neg e, if_neg e]
      exact q1 i hi
  · intro i hi
    rw [r22, r26]
    obtain ⟨d, l', y1, y2, y3, y4, y5⟩ := h3 i hi
    by_cases e : i = j
    · subst e
      have hd0 := y5 hs
      refine ⟨d, l, y1, by rw [if_pos rfl], by omega, hl, fun _ => hd0⟩
    · rw [if_neg e, if_neg e]
      exact ⟨d, l', y1, y2, y3, y4, y5⟩
  · intro i hi
    obtain ⟨a, b1, b2, b3, b4⟩ := o5 i hi
    exact ⟨a, b1, b2, b3, by rw [lt]; exact b4⟩
end Sta1
