/-! the relation is kept: small writes -/
theorem cf_cg {p q : Nat → Prop} [DecidablePred p] [DecidablePred q] : ∀ {n i : Nat}, (∀ m, i ≤ m → m < i + n → (p m ↔ q m)) → cf p i n = cf q i n
  | 0, _, _ => rfl
  | n + 1, i, h => by
    have := h i (Nat.le_refl i) (by omega)
    simp only [cf, this]
    rw [cf_cg (fun m a b => h m (by omega) (by omega))]
/-- one more -/
theorem cf_up {p q : Nat → Prop} [DecidablePred p] [DecidablePred q] {a : Nat} : ∀ {n i : Nat}, i ≤ a → a < i + n → ¬ p a → q a → (∀ m, i ≤ m → m < i + n → ¬ m = a → (p m ↔ q m)) → cf q i n = cf p i n + 1
  | 0, i, h1, h2, _, _, _ => by omega
  | n + 1, i, h1, h2, h3, h4, h => by
    simp only [cf]
    by_cases e : i = a
    · subst e
      rw [if_pos h4, if_neg h3, cf_cg (p := q) (q := p) (fun m a b => (h m (by omega) (by omega) (by omega)).symm)]
      omega
    · rw [cf_up (p := p) (q := q) (a := a) (by omega) (by omega) h3 h4 (fun m a b => h m (by omega) (by omega))]
      simp only [h i (Nat.le_refl i) (by omega) e]
      omega
theorem cf_pos {p : Nat → Prop} [DecidablePred p] : ∀ {n i : Nat}, (∀ m, i ≤ m → m < i + n → ¬ p m) → cf p i n = 0
  | 0, _, _ => rfl
  | n + 1, i, h => by simp only [cf]; rw [if_neg (h i (Nat.le_refl i) (by omega)), cf_pos (fun m a b => h m (by omega) (by omega))]
section Rel2
variable {g : Nat → Nat → Nat} {s t : Sg} {nf B : Nat} {Q : List Nat}
theorem rl_8I {k i : Nat} {v : Int32} (h : Rl g s t nf B Q) : Rl g (sI s 8 k i v) t nf B Q := by
  obtain ⟨⟨l1, l2, l3⟩, ⟨j0, bb, ww, nn, hh⟩, ⟨ff1, pp, ll, mm, ss, qq⟩, ⟨rr, aa, xx, tt, uu, yy, cc, dd⟩, oo, kk⟩ := h
  exact ⟨⟨LC_sI l1 (by omega), l2, l3⟩, ⟨j0, bb, ww, nn, hh⟩, ⟨ff1, pp, ll, mm, ss, qq⟩, ⟨rr, aa, xx, tt, uu, yy, cc, dd⟩, oo, kk⟩
theorem rl_82 {o : Option Nat} (h : Rl g s t nf B Q) : Rl g (sP s 8 2 0 o) t nf B Q := by
  obtain ⟨⟨l1, l2, l3⟩, ⟨j0, bb, ww, nn, hh⟩, ⟨ff1, pp, ll, mm, ss, qq⟩, ⟨rr, aa, xx, tt, uu, yy, cc, dd⟩, oo, kk⟩ := h
  exact ⟨⟨LC_sP l1 (by unfold dyP; omega), l2, l3⟩, ⟨j0, bb, ww, nn, hh⟩, ⟨ff1, pp, ll, mm, ss, qq⟩, ⟨rr, aa, xx, tt, uu, yy, cc, dd⟩, oo, kk⟩
theorem rl_83 {o : Option Nat} (h : Rl g s t nf B Q) : Rl g (sP s 8 3 0 o) t nf B Q := by
  obtain ⟨⟨l1, l2, l3⟩, ⟨j0, bb, ww, nn, hh⟩, ⟨ff1, pp, ll, mm, ss, qq⟩, ⟨rr, aa, xx, tt, uu, yy, cc, dd⟩, oo, kk⟩ := h
  exact ⟨⟨LC_sP l1 (by unfold dyP; omega), l2, l3⟩, ⟨j0, bb, ww, nn, hh⟩, ⟨ff1, pp, ll, mm, ss, qq⟩, ⟨rr, aa, xx, tt, uu, yy, cc, dd⟩, oo, kk⟩
theorem rl_setB {j a : Nat} {v : Int64} (h : Rl g s t nf B Q) (hj : j < 4) (ha : a < 128) : Rl g (sBF s j a v) (setF t j a v) nf B Q := by
  unfold sBF setF
  by_cases a0 : a = 0
  · rw [if_pos a0, if_pos a0]; exact h
  rw [if_neg a0, if_neg a0]
  obtain ⟨⟨l1, l2, l3⟩, ⟨j0, bb, ww, nn, hh⟩, ⟨ff1, pp, ll, mm, ss, qq⟩, ⟨rr, aa, xx, tt, uu, yy, cc, dd⟩, oo, kk⟩ := h
  refine ⟨⟨LC_sI l1 (by omega), LR_sI (by omega) l2, l3⟩, ⟨j0, bb, ww, nn, hh⟩, ⟨ff1, pp, ll, mm, ss, qq⟩, ⟨?_, aa, xx, tt, uu, yy, cc, dd⟩, oo, kk⟩
  intro j' k hj' hk
  have := rr j' k hj' hk
  rw [gI_sI, gI_sI]
  by_cases e : k = a ∧ j' = j
  · rw [if_pos ⟨rfl, e.1, e.2⟩, if_pos ⟨rfl, by rw [e.1, e.2], rfl⟩]
  · rw [if_neg (fun q => e q.2), if_neg (fun q => e ⟨by omega, by omega⟩)]
    exact this
theorem rl_ctl {j : Nat} {v : Int32} (h : Rl g s t nf B Q) (hj : j < 4) : Rl g (sI s 15 127 j v) (sI t 33 (128 * j + 127) 0 v) nf B Q := by
  obtain ⟨⟨l1, l2, l3⟩, ⟨j0, bb, ww, nn, hh⟩, ⟨ff1, pp, ll, mm, ss, qq⟩, ⟨rr, aa, xx, tt, uu, yy, cc, dd⟩, oo, kk⟩ := h
  refine ⟨⟨LC_sI l1 (by omega), LR_sI (by omega) l2, l3⟩, ⟨j0, bb, ww, nn, hh⟩, ⟨ff1, pp, ll, mm, ss, qq⟩, ⟨?_, aa, xx, tt, uu, yy, cc, dd⟩, oo, kk⟩
  intro j' k hj' hk
  have := rr j' k hj' hk
  rw [gI_sI, gI_sI]
  by_cases e : k = 127 ∧ j' = j
  · rw [if_pos ⟨rfl, e.1, e.2⟩, if_pos ⟨rfl, by rw [e.1, e.2], rfl⟩]
  · rw [if_neg (fun q => e q.2), if_neg (fun q => e ⟨by omega, by omega⟩)]
    exact this
theorem rl_acc {j : Nat} {v : Int64} (h : Rl g s t nf B Q) (hv : wh v = v) : Rl g (sJ s 3 10 j v) (sJ t 34 j 0 v) nf B Q := by
  obtain ⟨⟨l1, l2, l3⟩, ⟨j0, bb, ww, nn, hh⟩, ⟨ff1, pp, ll, mm, ss, qq⟩, ⟨rr, aa, xx, tt, uu, yy, cc, dd⟩, oo, kk⟩ := h
  refine ⟨⟨LC_sJ l1, LR_sJ l2, l3⟩, ⟨j0, bb, ww, nn, hh⟩, ⟨ff1, pp, ll, mm, ss, qq⟩, ⟨rr, ?_, xx, tt, uu, yy, cc, dd⟩, oo, kk⟩
  intro i hi
  have := aa i hi
  rw [gJ_sJ, gJ_sJ]
  by_cases e : i = j
  · rw [if_pos ⟨rfl, rfl, e⟩, if_pos ⟨rfl, e, rfl⟩]; exact ⟨rfl, hv⟩
  · rw [if_neg (fun q => e q.2.2), if_neg (fun q => e q.2.1)]; exact this
theorem rl_put {k e : Nat} {v : Int64} (h : Rl g s t nf B Q) (hk : k < 64) (he : e < 512) (hv : wh v = v) (hu : ¬ gI t 38 k 0 = -1) : Rl g (sJ s 16 e k v) (sJ t 40 (512 * k + e) 0 v) nf B Q := by
  obtain ⟨⟨l1, l2, l3⟩, ⟨j0, bb, ww, nn, hh⟩, ⟨ff1, pp, ll, mm, ss, qq⟩, ⟨rr, aa, ⟨x1, x2, x3, x4, x5⟩, tt, uu, yy, cc, dd⟩, oo, kk⟩ := h
  refine ⟨⟨LC_sJ l1, LR_sJ l2, l3⟩, ⟨j0, bb, ww, nn, hh⟩, ⟨ff1, pp, ll, mm, ss, qq⟩, ⟨rr, aa, ⟨x1, x2, ?_, ?_, ?_⟩, tt, uu, yy, cc, dd⟩, oo, kk⟩
  · intro k' e' hk' he' hn
    have := x3 k' e' hk' he' hn
    rw [gJ_sJ, gJ_sJ]
    by_cases q : e' = e ∧ k' = k
    · rw [if_pos ⟨rfl, q.1, q.2⟩, if_pos ⟨rfl, by rw [q.1, q.2], rfl⟩]
    · rw [if_neg (fun z => q z.2), if_neg (fun z => q ⟨by omega, by omega⟩)]
      exact this
  · intro i hi
    rw [gJ_sJ]
    split
    · exact hv
    · exact x4 i hi
  · intro k' e' hk' hc' he' hn
    have hn : gI t 38 k' 0 = -1 := hn
    rw [gJ_sJ, if_neg (fun z => hu (by rw [← z.2.2]; exact hn))]
    exact x5 k' e' hk' hc' he' hn
theorem rl_touch {f : Nat} (h : Rl g s t nf B Q) : Rl g (sI (sI s 2 7 f 1) 2 8 f 0) (tchF t f) nf B Q := by
  unfold tchF
  obtain ⟨⟨l1, l2, l3⟩, ⟨j0, bb, ww, nn, hh⟩, ⟨⟨f1, f2, f3, f4, f5, f6, f7, f8⟩, pp, ll, mm, ss, qq⟩, ⟨rr, aa, xx, tt, uu, yy, cc, dd⟩, oo, kk⟩ := h
  refine ⟨⟨LC_sI (LC_sI l1 (by omega)) (by omega), LR_sI (by omega) (LR_sI (by omega) l2), l3⟩, ⟨j0, bb, ww, nn, hh⟩, ⟨⟨f1, f2, f3, f4, f5, re_E_w (t := t) f6, re_E_w (s := sI s 2 7 f 1) (t := sI t 47 f 0 1) f7, ?_⟩, pp, ll, mm, ss, qq⟩, ⟨rr, aa, xx, tt, uu, yy, cc, dd⟩, oo, kk⟩
  intro i hi
  have := f8 i hi
  simp only [MM]
  refine ⟨?_, ?_⟩
  · by_cases e : i = f
    · simp [e]
    · simp [e]; exact this.1
  · by_cases e : i = f
    · simp [e]
    · simp [e]; exact this.2
theorem rl_done {j : Nat} (h : Rl g s t nf B Q) (hj : j < 4) (hst : ¬ gI t 22 j 0 = 0) (hd : gI s 3 3 j < gI s 3 4 j) : Rl g (sI s 3 3 j (gI s 3 3 j + 1)) (sI t 24 j 0 (gI t 24 j 0 + 1)) nf B Q := by
  obtain ⟨⟨l1, l2, l3⟩, ⟨⟨j1, j2, j3, j4, j5, j6, j7, j8⟩, bb, ww, nn, ⟨h1, h2, h3⟩⟩, ⟨ff1, pp, ll, mm, ss, qq⟩, ⟨rr, aa, xx, tt, uu, yy, cc, dd⟩, oo, kk⟩ := h
  have e3 := j3 j hj
  have e4 := j4 j hj
  rw [e3]
  refine ⟨⟨LC_sI l1 (by omega), LR_sI (by omega) l2, l3⟩, ⟨⟨j1, j2, re_E_w j3, j4, j5, j6, j7, j8⟩, bb, ww, nn, ⟨h1, h2, ?_⟩⟩, ⟨ff1, pp, ll, mm, ss, qq⟩, ⟨rr, aa, xx, tt, uu, yy, cc, dd⟩, oo, kk⟩
  intro i hi
  obtain ⟨d, l, a1, a2, a3, a4, a5⟩ := h3 i hi
  have r24 : gI (sI t 24 j 0 (gI t 24 j 0 + 1)) 24 i 0 = if i = j then gI t 24 j 0 + 1 else gI t 24 i 0 := by simp [MM]
  have r26 : gI (sI t 24 j 0 (gI t 24 j 0 + 1)) 26 i 0 = gI t 26 i 0 := rfl
  have r22 : gI (sI t 24 j 0 (gI t 24 j 0 + 1)) 22 i 0 = gI t 22 i 0 := rfl
  rw [r24, r26, r22]
  by_cases e : i = j
  · subst e
    rw [e3, e4, a1, a2] at hd
    have : d < l := by
      rcases Nat.lt_or_ge d l with q | q
      · exact q
      · exact absurd hd (nI_nlt q (by omega))
    refine ⟨d + 1, l, ?_, a2, by omega, a4, fun z => absurd z hst⟩
    rw [if_pos rfl, a1, nI_1]
  · refine ⟨d, l, ?_, a2, a3, a4, a5⟩
    rw [if_neg e]
    exact a1
/-- 1 and 2 are states of a job that goes on -/
theorem nn_lt {t : Sg} (h : re_N t) {j : Nat} (hj : j < 4) : gI t 22 j 0 < 3 ↔ ¬ gI t 22 j 0 = 3 ∧ ¬ gI t 22 j 0 = 4 := by
  rcases h.1 j hj with e | e | e | e | e <;> rw [e] <;> decide
end Rel2
