/-! printing; the first ready job -/
section Pri1
variable {g : Nat → Nat → Nat} {s t u : Sg} {X : Sg × Option Av} {nf B : Nat} {Q : List Nat}
theorem rl_pd {j p c2 f2 n : Nat} {v : Int64} (h : Rl g s t nf B Q) (hj : j < 4) (hr : RO s 2 c2 f2) (hn : gI t 11 46 0 = nI n) (hB : n ≤ B) (hnb : B < 2000000000) (hp : gI t 32 j 0 = nI p) (hpc : ∃ c, gI t 31 j 0 = nI c ∧ p < c ∧ c ≤ 200) : Rl g (sI (sI (pshF s 2 c2 f2 v) 3 9 j (nI (p + 1))) 7 1 0 (nI (n + 1))) (sI (sI (sJ t 54 (n % 400) 0 v) 11 46 0 (nI (n + 1))) 32 j 0 (nI (p + 1))) nf (B + 1) Q := by
  have h' := rl_B (B' := B + 1) (by omega) h
  obtain ⟨c, x, n', z1, z2, z3, z4, z5, z6⟩ := h.2.2.2.1.2.2.2.2.2.2.2
  obtain rfl : n = n' := (nI_eq (by omega) (by omega)).mp (hn.symm.trans z2)
  obtain ⟨rfl, rfl⟩ := RO_u hr z1
  have hcap : cap 2 = 400 := by decide
  have hrg : RG s 2 n (fun i => gJ t 54 i 0) c2 f2 := ⟨z1, by rw [hcap]; exact z5, fun e he => by rw [hcap]; exact z6 e he⟩
  obtain ⟨c', x', r1, r2, r3⟩ := ring_push (v := v) hrg
  have k9 : rw9 s (pshF s 2 c2 f2 v) 2 := psh_9
  have hD : re_D (sI (sI (pshF s 2 c2 f2 v) 3 9 j (nI (p + 1))) 7 1 0 (nI (n + 1))) (sI (sI (sJ t 54 (n % 400) 0 v) 11 46 0 (nI (n + 1))) 32 j 0 (nI (p + 1))) (B + 1) := by
    refine ⟨c', x', n + 1, r1, rfl, rfl, by omega, by rw [hcap] at r2; exact r2, fun e he => ?_⟩
    have := r3 e he
    rw [hcap] at this
    dsimp only at this
    show gJ (pshF s 2 c2 f2 v) 19 (rix 2 x' e) 2 = gJ (sJ t 54 (n % 400) 0 v) 54 ((n + 1 - c' + e) % 400) 0
    rw [this, gJ_sJ]
    by_cases q : (n + 1 - c' + e) % 400 = n % 400
    · rw [if_pos q, if_pos ⟨rfl, q, rfl⟩]
    · rw [if_neg q, if_neg (fun z => q z.2.1)]
  obtain ⟨⟨l1, l2, l3⟩, ⟨⟨j1, j2, j3, j4, j5, j6, j7, j8⟩, bb, ww, nn, hh⟩, ⟨ff1, pp, ll, mm, ss, qq⟩, ⟨rr, aa, xx, tt, uu, yy, cc, dd⟩, oo, kk⟩ := h'
  have k9' : rw9 s (sI (sI (pshF s 2 c2 f2 v) 3 9 j (nI (p + 1))) 7 1 0 (nI (n + 1))) 2 := ⟨fun r' c f hr ho => k9.1 r' c f hr ho, fun r' y hr => k9.2 r' y hr⟩
  have hT := re_T_9 (fun j hj => by omega) k9' tt
  have hU0 := re_U_9 (fun j hj => by omega) k9' uu
  have hY := re_Y_9 (by omega) k9' yy
  have hC := re_C_9 (by omega) k9' (show gI (sI (sI (pshF s 2 c2 f2 v) 3 9 j (nI (p + 1))) 7 1 0 (nI (n + 1))) 10 11 0 = gI s 10 11 0 from pshF_gI (by decide)) cc
  have hLC : LC (sI (sI (pshF s 2 c2 f2 v) 3 9 j (nI (p + 1))) 7 1 0 (nI (n + 1))) nf := LC_sI (LC_sI (LC_pshF l1) (by omega)) (by omega)
  have hU : re_U (sI (sI (pshF s 2 c2 f2 v) 3 9 j (nI (p + 1))) 7 1 0 (nI (n + 1))) (sI (sI (sJ t 54 (n % 400) 0 v) 11 46 0 (nI (n + 1))) 32 j 0 (nI (p + 1))) := by
    intro i hi
    obtain ⟨c, f, p', a1, a2, a3, a4, a5⟩ := hU0 i hi
    by_cases q : i = j
    · subst q
      obtain ⟨c0, b1, b2, b3⟩ := hpc
      have hc0 : c = c0 := by
        have := a1.2.2.1
        rw [cap_p hi] at this
        exact (nI_eq (by omega) (by omega)).mp (a2.symm.trans b1)
      refine ⟨c, f, p + 1, a1, a2, ?_, by omega, a5⟩
      rw [gI_sI, if_pos ⟨rfl, rfl, rfl⟩]
    · refine ⟨c, f, p', a1, a2, ?_, a4, a5⟩
      rw [gI_sI, if_neg (fun z => q z.2.1)]
      exact a3
  unfold pshF at hC hT hU hY hD hLC ⊢
  by_cases c0 : c2 < cap 2
  · rw [if_pos c0] at hC hT hU hY hD hLC ⊢
    exact ⟨⟨hLC, LR_sI (by omega) (LR_sI (by omega) (LR_sJ l2)), l3⟩, ⟨⟨j1, j2, j3, j4, j5, j6, j7, re_E_w (j := j) (v := nI (p + 1)) j8⟩, bb, ww, nn, hh⟩, ⟨ff1, pp, ll, mm, ss, qq⟩, ⟨rr, aa, xx, hT, hU, hY, hC, hD⟩, oo, kk⟩
  · rw [if_neg c0] at hC hT hU hY hD hLC ⊢
    exact ⟨⟨hLC, LR_sI (by omega) (LR_sI (by omega) (LR_sJ l2)), l3⟩, ⟨⟨j1, j2, j3, j4, j5, j6, j7, re_E_w (j := j) (v := nI (p + 1)) j8⟩, bb, ww, nn, hh⟩, ⟨ff1, pp, ll, mm, ss, qq⟩, ⟨rr, aa, xx, hT, hU, hY, hC, hD⟩, oo, kk⟩
theorem rl_pn {c2 f2 o : Nat} {pc pf : Nat → Nat} (h : Rl g s t nf B Q) (hB : B < 2000000000) (hr : RO s 2 c2 f2) (hp : ∀ j, j < 4 → RO s (4 + 2 * j) (pc j) (pf j)) (ho : gI t 11 19 0 = nI o) (ho4 : o ≤ 4) : ∀ n i, i + n = o → Rl g (pnF s c2 f2 pc pf i n) (priF t i n) nf (B + 1) Q ∧ gI (pnF s c2 f2 pc pf i n) 10 8 0 = gI s 10 8 0 ∧ gI (priF t i n) 11 47 0 = gI t 11 47 0
  | 0, i, hi => ⟨rl_B (by omega) h, rfl, rfl⟩
  | n + 1, i, hi => by
    obtain ⟨o', p1, p2, p3, p4, p5⟩ := h.2.2.2.2.1
    obtain rfl : o = o' := (nI_eq (by omega) (by omega)).mp (ho.symm.trans p2)
    obtain ⟨j, hj, e18, e37, _⟩ := p4 i (by omega)
    obtain ⟨c, f, p, a1, a2, a3, a4, a5⟩ := h.2.2.2.1.2.2.2.2.1 j hj
    obtain ⟨hc, hf⟩ := RO_u (hp j hj) a1
    have hc200 : c ≤ 200 := by have := a1.2.2.1; rw [cap_p hj] at this; exact this
    have e9 := h.2.1.1.2.2.2.2.2.2.2 j hj
    have ih := rl_pn h hB hr hp ho ho4 n (i + 1) (by omega)
    obtain ⟨c3, f3, nn, y1, y2, y3, y4, y5, y6⟩ := h.2.2.2.1.2.2.2.2.2.2.2
    rw [pnF, priF, e18, e37]
    dsimp only
    rw [nI_clamp (by omega), e9, a3, a2, hc]
    by_cases q : p < c
    · rw [if_pos (nI_lt q (by omega)), if_neg (fun z => by have := (nI_eq (by omega) (by omega)).mp z; omega), nI_clamp (show p < 2 ^ 31 by omega), hf, a5 p q, y2, y3, nI_clamp (by omega), nI_1, nI_1]
      have k := rl_pd (v := gJ t 36 (200 * j + p) 0) h hj hr y2 y4 hB a3 ⟨c, a2, q, hc200⟩
      refine ⟨k, ?_, rfl⟩
      show gI (pshF s 2 c2 f2 (gJ t 36 (200 * j + p) 0)) 10 8 0 = _
      exact pshF_gI (by decide)
    · rw [if_neg (nI_nlt (by omega) (by omega)), if_pos (by rw [show p = c by omega])]
      exact ih
theorem rel_print (h : Rl g s t nf B Q) (hB : B < 2000000000) : ∃ s' t', (∀ X, Rn g 56 0 [some (.inr (.inr (some (7, 0)))), none, none] [] s X ↔ X = (s', none)) ∧ (∀ X, Rn g 149 0 [some (.inr (.inr (some (11, 0)))), none, none] [] t X ↔ X = (t', none)) ∧ Rl g s' t' nf (B + 1) Q ∧ gI s' 10 8 0 = gI s 10 8 0 ∧ gI t' 11 47 0 = gI t 11 47 0 := by
  obtain ⟨o, b1, b2, b3⟩ := rl_of h
  obtain ⟨c2, f2, n, y1, y2, y3, y4, y5, y6⟩ := h.2.2.2.1.2.2.2.2.2.2.2
  have hU := h.2.2.2.1.2.2.2.2.1
  have ch : ∃ pc pf : Nat → Nat, ∀ j, j < 4 → RO s (4 + 2 * j) (pc j) (pf j) := by
    obtain ⟨c0, f0, _, x0, _⟩ := hU 0 (by omega)
    obtain ⟨c1, f1, _, x1, _⟩ := hU 1 (by omega)
    obtain ⟨c2', f2', _, x2, _⟩ := hU 2 (by omega)
    obtain ⟨c3, f3, _, x3, _⟩ := hU 3 (by omega)
    refine ⟨fun j => if j = 0 then c0 else if j = 1 then c1 else if j = 2 then c2' else c3, fun j => if j = 0 then f0 else if j = 1 then f1 else if j = 2 then f2' else f3, fun j hj => ?_⟩
    rcases (show j = 0 ∨ j = 1 ∨ j = 2 ∨ j = 3 by omega) with rfl | rfl | rfl | rfl
    · exact x0
    · exact x1
    · exact x2
    · exact x3
  obtain ⟨pc, pf, hp⟩ := ch
  obtain ⟨k1, k2, k3⟩ := rl_pn h hB y1 hp b1 b2 o 0 (by omega)
  have hn : ∀ j, j < 4 → ¬ gI s 3 9 j < 0 := fun j hj => by
    obtain ⟨c, f, p, a1, a2, a3, a4, a5⟩ := hU j hj
    have : c ≤ 200 := by have := a1.2.2.1; rw [cap_p hj] at this; exact this
    rw [h.2.1.1.2.2.2.2.2.2.2 j hj, a3]
    exact nI_pos (by omega)
  refine ⟨_, _, fun X => c_printNext h.1.1 b3 y1 hp hn, fun X => r_prints h.1.2.1 b1 b2 (fun k hk => ?_) y2 (by omega), k1, k2, k3⟩
  obtain ⟨o', p1, p2, p3, p4, p5⟩ := h.2.2.2.2.1
  obtain rfl : o = o' := (nI_eq (by omega) (by omega)).mp (b1.symm.trans p2)
  obtain ⟨j, hj, e18, e37, _⟩ := p4 k hk
  obtain ⟨c, f, p, a1, a2, a3, a4, a5⟩ := hU j hj
  have : c ≤ 200 := by have := a1.2.2.1; rw [cap_p hj] at this; exact this
  exact ⟨j, p, c, hj, e37, a3, a2, a4, this⟩
/-- the first ready job -/
abbrev rdP (s : Sg) (j : Nat) : Prop := gI s 3 1 j = 1
theorem c_firstReady_l (h : LC s nf) : ∀ n i, i + n = 4 → (Rn g 114 2 [some (.inr (.inr (some (10, 0)))), some (.inl (nI i))] [] s X ↔ X = (s, some (.inr (.inr (mk 3 (ff (rdP s) i n))))))
  | 0, i, hi => by
    obtain rfl : i = 4 := by omega
    have h1 : nI 4 ≤ nI 4 := by decide
    simp [Q114, II, MM, MK, h, ofN, h1, ff]
  | n + 1, i, hi => by
    have h1 : ¬ nI 4 ≤ nI i := nI_ge (by omega) (by omega)
    have hi4 : i < 4 := by omega
    have ih := c_firstReady_l h n (i + 1) (by omega)
    by_cases a1 : gI s 3 1 i = 1
    · rw [show ff (rdP s) i (n + 1) = some i by rw [ff, if_pos a1]]
      simp [Q114, II, MM, MK, h, ofN, h1, hi4, inN hi4, a1]
    · rw [show ff (rdP s) i (n + 1) = ff (rdP s) (i + 1) n by rw [ff, if_neg a1]]
      simp [Q114, II, MM, MK, h, ofN, h1, hi4, inN hi4, a1]
      simp only [e114_34, nI_1, ih]
theorem c_firstReady (h : LC s nf) : Rn g 114 0 [some (.inr (.inr (some (10, 0)))), none] [] s X ↔ X = (s, some (.inr (.inr (mk 3 (ff (rdP s) 0 4))))) := by
  have r := c_firstReady_l (g := g) (X := X) h 4 0 (by omega)
  rw [nI_0] at r
  simp only [e114_0, e114_1, MK]
  exact r
theorem r_ready_l (h : LR t nf) {z : Int32} : ∀ n i, i + n = 4 → (Rn g 139 33 [some (.inr (.inr (some (11, 0)))), some (.inl z), some (.inl (nI i))] [] t X ↔ Rn g 139 54 [some (.inr (.inr (some (11, 0)))), some (.inl z), some (.inl (oa (nI 4) (ff (fun j => gI t 22 j 0 = 1) i n)))] [] t X)
  | 0, i, hi => by
    obtain rfl : i = 4 := by omega
    have h1 : (4 : Int32) ≤ nI 4 := by decide
    simp only [e139_33, e139_34, e139_35, MM, MK, h1, ff, oa_n, if_true]
  | n + 1, i, hi => by
    have h1 : ¬ (4 : Int32) ≤ nI i := nI_ge (b := 4) (by omega) (by decide)
    have hi4 := inN (show i < 4 by omega) (by omega)
    by_cases a1 : gI t 22 i 0 = 1
    · simp only [e139_33, e139_34, e139_35, e139_38, e139_39, e139_42, e139_43, e139_44, e139_45, MM, MK, h, h1, hi4, a1, ff, oa_s, if_true, if_false, Nat.zero_lt_one]
    · have ih := r_ready_l h (z := z) n (i + 1) (by omega)
      simp only [e139_33, e139_34, e139_35, e139_38, e139_39, e139_42, e139_43, e139_44, e139_45, n139_48, MM, MK, h, h1, hi4, a1, ff, if_true, if_false, Nat.zero_lt_one]
      rw [e139_51, nI_1]
      exact ih
end Pri1
