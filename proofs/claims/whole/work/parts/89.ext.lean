/-! extracodes; looks; what is counted -/
theorem sI_self {s : Sg} {c k i : Nat} {v : Int32} (h : gI s c k i = v) : sI s c k i v = s := by
  refine Prod.ext ?_ rfl
  funext a b d
  show (if a = c ∧ b = k ∧ d = i then v else s.1 a b d) = s.1 a b d
  split
  · rename_i q
    rw [q.1, q.2.1, q.2.2, ← h]; rfl
  · rfl
section Ext1
variable {g : Nat → Nat → Nat} {s t : Sg} {X : Sg × Option Av} {nf B : Nat} {Q : List Nat} {j f : Nat} {oe : Option Nat} {dv iv : Int32}
theorem tT_RO {r c x : Nat} (h : RO s r c x) : RO (tT s j f oe dv iv) r c x := by
  unfold RO at *
  rw [tT_9, tT_9]
  exact h
theorem ef_ex (h : Rl g (tT s j f oe dv iv) t nf B Q) (hj : j < 4) {a c x d e o q : Nat} (ha : a < 128) (ht : RO s (3 + 2 * j) c x) (hp : RO s (4 + 2 * j) d e) (hdv : dv = gI s 3 3 j + 1) {F n : Int32} (hF : (F = 552 ∧ 0 < c) ∨ (F = 566 ∧ d < 200) ∨ F = 580 ∨ F = 593 ∨ (F = 704 ∧ ¬ gJ s 3 10 j < 0)) : ∃ s3, exF s j F a c x d e = (s3, 0) ∧ Rl g (tT s3 j f oe dv iv) (extF t nf j F a n c d o q) nf B Q := by
  obtain ⟨ra, rw1⟩ := ef_A h hj
  rcases hF with ⟨rfl, h1⟩ | ⟨rfl, h1⟩ | rfl | rfl | ⟨rfl, h1⟩
  · refine ⟨_, by simp [exF, show ¬ c = 0 by omega]; rfl, ?_⟩
    simp only [extF, if_true]
    rw [tT_sJ, tT_sI (Or.inr (Or.inl rfl)), tT_sI (Or.inr (Or.inl rfl))]
    have := rl_tape h hj (tT_RO ht) h1
    rw [tT_J] at this
    exact this
  · refine ⟨_, by simp [exF, cap_p hj, h1]; rfl, ?_⟩
    simp only [extF]
    rw [tT_sI (Or.inr (Or.inl rfl)), tT_sJ]
    have := rl_paper h hj (tT_RO hp) h1
    rw [tT_J] at this
    exact this
  · refine ⟨_, by simp [exF]; rfl, ?_⟩
    simp only [extF, ra]
    rw [bits_eq]
    exact ef_set h hj ha
  · refine ⟨_, by simp [exF]; rfl, ?_⟩
    have e1 : gI t 24 j 0 = dv := by
      have := h.2.1.1.2.2.1 j hj
      rw [← this]
      cases oe <;> (show (if _ then _ else _) = _) <;> simp
    simp only [extF, e1]
    rw [hdv]
    rw [hdv] at h
    exact ef_set h hj ha
  · obtain ⟨r1, r2⟩ := root_eq h1 rw1
    refine ⟨_, by simp [exF, h1]; rfl, ?_⟩
    simp only [extF, ra]
    rw [r1]
    exact ef_acc h r2
theorem rl_inst {v : Int32} (h : Rl g s t nf B Q) : Rl g (sI s 10 9 0 v) (sI t 11 48 0 v) nf B Q := by
  obtain ⟨⟨l1, l2, l3⟩, ⟨j0, bb, ww, nn, hh⟩, ⟨ff1, pp, ll, mm, ss, qq⟩, ⟨rr, aa, xx, tt, uu, yy, cc, dd⟩, oo, ⟨k1, k2, k3, k4⟩⟩ := h
  exact ⟨⟨LC_sI l1 (by omega), LR_sI (by omega) l2, l3⟩, ⟨j0, bb, ww, nn, hh⟩, ⟨ff1, pp, ll, mm, ss, qq⟩, ⟨rr, aa, xx, tt, uu, yy, cc, dd⟩, oo, ⟨rfl, k2, k3, k4⟩⟩
theorem rl_idle {v : Int32} (h : Rl g s t nf B Q) : Rl g (sI s 10 10 0 v) (sI t 11 49 0 v) nf B Q := by
  obtain ⟨⟨l1, l2, l3⟩, ⟨j0, bb, ww, nn, hh⟩, ⟨ff1, pp, ll, mm, ss, qq⟩, ⟨rr, aa, xx, tt, uu, yy, cc, dd⟩, oo, ⟨k1, k2, k3, k4⟩⟩ := h
  exact ⟨⟨LC_sI l1 (by omega), LR_sI (by omega) l2, l3⟩, ⟨j0, bb, ww, nn, hh⟩, ⟨ff1, pp, ll, mm, ss, qq⟩, ⟨rr, aa, xx, tt, uu, yy, cc, dd⟩, oo, ⟨k1, rfl, k3, k4⟩⟩
theorem rl_looks {v : Int32} (h : Rl g s t nf B Q) : Rl g (sI s 10 12 0 v) (sI t 11 50 0 v) nf B Q := by
  obtain ⟨⟨l1, l2, l3⟩, ⟨j0, bb, ww, nn, hh⟩, ⟨ff1, pp, ll, mm, ss, qq⟩, ⟨rr, aa, xx, tt, uu, yy, cc, dd⟩, oo, ⟨k1, k2, k3, k4⟩⟩ := h
  exact ⟨⟨LC_sI l1 (by omega), LR_sI (by omega) l2, l3⟩, ⟨j0, bb, ww, nn, hh⟩, ⟨ff1, pp, ll, mm, ss, qq⟩, ⟨rr, aa, xx, tt, uu, yy, cc, dd⟩, oo, ⟨k1, k2, rfl, k4⟩⟩
theorem rl_25 {i : Nat} {v : Int32} (h : Rl g s t nf B Q) : Rl g (sI s 2 5 i v) (sI t 45 i 0 v) nf B Q := by
  obtain ⟨⟨l1, l2, l3⟩, ⟨j0, bb, ww, nn, hh⟩, ⟨⟨f1, f2, f3, f5, f6, f7, f8, fb⟩, pp, ll, mm, ss, qq⟩, ⟨rr, aa, xx, tt, uu, yy, cc, dd⟩, oo, kk⟩ := h
  exact ⟨⟨LC_sI l1 (by omega), LR_sI (by omega) l2, l3⟩, ⟨j0, bb, ww, nn, hh⟩, ⟨⟨f1, f2, f3, re_E_w f5, f6, f7, f8, fb⟩, pp, ll, mm, ss, qq⟩, ⟨rr, aa, xx, tt, uu, yy, cc, dd⟩, oo, kk⟩
theorem rl_26 {i : Nat} {v : Int32} (h : Rl g s t nf B Q) : Rl g (sI s 2 6 i v) (sI t 46 i 0 v) nf B Q := by
  obtain ⟨⟨l1, l2, l3⟩, ⟨j0, bb, ww, nn, hh⟩, ⟨⟨f1, f2, f3, f5, f6, f7, f8, fb⟩, pp, ll, mm, ss, qq⟩, ⟨rr, aa, xx, tt, uu, yy, cc, dd⟩, oo, kk⟩ := h
  exact ⟨⟨LC_sI l1 (by omega), LR_sI (by omega) l2, l3⟩, ⟨j0, bb, ww, nn, hh⟩, ⟨⟨f1, f2, f3, f5, re_E_w f6, f7, f8, fb⟩, pp, ll, mm, ss, qq⟩, ⟨rr, aa, xx, tt, uu, yy, cc, dd⟩, oo, kk⟩
theorem rl_27 {i : Nat} (h : Rl g s t nf B Q) : Rl g (sI s 2 7 i 0) (sI t 47 i 0 0) nf B Q := by
  obtain ⟨⟨l1, l2, l3⟩, ⟨j0, bb, ww, nn, hh⟩, ⟨⟨f1, f2, f3, f5, f6, f7, f8, fb⟩, pp, ll, mm, ss, qq⟩, ⟨rr, aa, xx, tt, uu, yy, cc, dd⟩, oo, kk⟩ := h
  refine ⟨⟨LC_sI l1 (by omega), LR_sI (by omega) l2, l3⟩, ⟨j0, bb, ww, nn, hh⟩, ⟨⟨f1, f2, f3, f5, f6, re_E_w f7, f8, fun x hx => ?_⟩, pp, ll, mm, ss, qq⟩, ⟨rr, aa, xx, tt, uu, yy, cc, dd⟩, oo, kk⟩
  have := fb x hx
  refine ⟨?_, this.2⟩
  rw [gI_sI]
  split
  · exact Or.inl rfl
  · exact this.1
theorem rl_lk1 {i : Nat} (h : Rl g s t nf B Q) (hi : i < nf) : Rl g (if gI s 2 1 i = 1 then flkF s i else s) (lk1 t i) nf B Q := by
  have hc := h
  obtain ⟨⟨l1, l2, l3⟩, ⟨j0, bb, ww, nn, hh⟩, ⟨⟨f1, f2, f3, f5, f6, f7, f8, fb⟩, pp, ll, mm, ss, qq⟩, r0⟩ := hc
  have e1 := f1 i hi
  have e5 := f5 i hi
  have e6 := f6 i hi
  have e7 := f7 i hi
  unfold lk1
  rw [e1]
  by_cases c1 : gI t 42 i 0 = 1
  · rw [if_pos c1, if_pos c1]
    unfold flkF
    rw [e7, e5]
    rcases (fb i hi).1 with m0 | m1
    · rw [if_pos m0, if_neg (by rw [m0]; decide)]
      rw [sI_self (s := sI t 45 i 0 (gI t 45 i 0 + 1)) (c := 47) (k := i) (i := 0) (v := 0) m0]
      exact rl_25 h
    · rw [if_neg (by rw [m1]; decide), if_pos m1]
      by_cases c2 : 0 < gI t 45 i 0
      · rw [if_pos c2, if_pos c2]
        exact rl_27 (rl_25 (rl_26 h))
      · rw [if_neg c2, if_neg c2]
        exact rl_27 (rl_25 h)
  · rw [if_neg c1, if_neg c1]
    exact h
theorem rl_look : ∀ (n i : Nat) (s t : Sg), i + n ≤ nf → Rl g s t nf B Q → Rl g (clkF s i n) (lkF t i n) nf B Q
  | 0, _, _, _, _, h => h
  | n + 1, i, s, t, hi, h => by
    rw [clkF, lkF]
    exact rl_look n (i + 1) _ _ (by omega) (rl_lk1 h (by omega))
end Ext1
