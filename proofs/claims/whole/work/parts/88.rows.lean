/-! the rows: one changes, the others stay -/
section Row1
variable {g : Nat → Nat → Nat} {s s' t : Sg} {nf B : Nat} {Q : List Nat}
def rw9 (s s' : Sg) (r : Nat) : Prop := (∀ r' c f, ¬ r' = r → RO s r' c f → RO s' r' c f) ∧ ∀ r' x, ¬ r' = r → gJ s' 19 x r' = gJ s 19 x r'
theorem rw9_I {k r : Nat} {v : Int32} : rw9 s (sI s 9 k r v) r := by
  refine ⟨fun r' c f hr ho => ?_, fun r' x hr => rfl⟩
  unfold RO at *
  rw [gI_sI, if_neg (by omega), gI_sI, if_neg (by omega)]
  exact ho
theorem rw9_J {x r : Nat} {v : Int64} : rw9 s (sJ s 19 x r v) r := by
  refine ⟨fun r' c f hr ho => ho, fun r' y hr => ?_⟩
  rw [gJ_sJ, if_neg (by omega)]
theorem rw9_t {u : Sg} {r : Nat} (h1 : rw9 s s' r) (h2 : rw9 s' u r) : rw9 s u r :=
  ⟨fun r' c f hr ho => h2.1 r' c f hr (h1.1 r' c f hr ho), fun r' x hr => (h2.2 r' x hr).trans (h1.2 r' x hr)⟩
theorem re_T_9 {r : Nat} (hr : ∀ j, j < 4 → ¬ 3 + 2 * j = r) (h : rw9 s s' r) (ht : re_T s t) : re_T s' t := fun j hj => by
  obtain ⟨c, f, a1, a2, a3⟩ := ht j hj
  exact ⟨c, f, h.1 _ _ _ (hr j hj) a1, a2, fun e he => by rw [h.2 _ _ (hr j hj)]; exact a3 e he⟩
theorem re_U_9 {r : Nat} (hr : ∀ j, j < 4 → ¬ 4 + 2 * j = r) (h : rw9 s s' r) (ht : re_U s t) : re_U s' t := fun j hj => by
  obtain ⟨c, f, p, a1, a2, a3, a4, a5⟩ := ht j hj
  exact ⟨c, f, p, h.1 _ _ _ (hr j hj) a1, a2, a3, a4, fun e he => by rw [h.2 _ _ (hr j hj)]; exact a5 e he⟩
theorem re_Y_9 {r : Nat} (hr : ¬ 0 = r) (h : rw9 s s' r) (ht : re_Y s t) : re_Y s' t := by
  obtain ⟨c, f, a1, a2, a3⟩ := ht
  exact ⟨c, f, h.1 _ _ _ hr a1, a2, fun e he => by rw [h.2 _ _ hr]; exact a3 e he⟩
theorem re_C_9 {r : Nat} (hr : ¬ 1 = r) (h : rw9 s s' r) (hk : gI s' 10 11 0 = gI s 10 11 0) (ht : re_C s t B) : re_C s' t B := by
  obtain ⟨c, f, n, a1, a2, a3, a4, a5, a6⟩ := ht
  exact ⟨c, f, n, h.1 _ _ _ hr a1, a2, hk.trans a3, a4, a5, fun e he => by rw [h.2 _ _ hr]; exact a6 e he⟩
theorem re_D_9 {r : Nat} (hr : ¬ 2 = r) (h : rw9 s s' r) (hk : gI s' 7 1 0 = gI s 7 1 0) (ht : re_D s t B) : re_D s' t B := by
  obtain ⟨c, f, n, a1, a2, a3, a4, a5, a6⟩ := ht
  exact ⟨c, f, n, h.1 _ _ _ hr a1, a2, hk.trans a3, a4, a5, fun e he => by rw [h.2 _ _ hr]; exact a6 e he⟩
theorem tapF_eq (j : Nat) : ∀ n i (t : Sg), tapF j t i n = (t.1, (fun c m e => if c = 35 ∧ e = 0 ∧ 500 * j + i ≤ m ∧ m < 500 * j + i + n then gJ t 35 (m + 1) 0 else gJ t c m e), t.2.2)
  | 0, i, t => by
    refine Prod.ext rfl (Prod.ext ?_ rfl)
    funext c m e
    show t.2.1 c m e = if _ then _ else _
    rw [if_neg (by omega)]; rfl
  | n + 1, i, t => by
    rw [tapF, tapF_eq j n (i + 1)]
    refine Prod.ext rfl (Prod.ext ?_ rfl)
    funext c m e
    simp only [gJ_sJ]
    grind
def tpT (t : Sg) (j n : Nat) : Sg := (t.1, (fun c m e => if c = 35 ∧ e = 0 ∧ 500 * j ≤ m ∧ m < 500 * j + n then gJ t 35 (m + 1) 0 else gJ t c m e), t.2.2)
theorem tp_eq {j n : Nat} : tapF j t 0 n = tpT t j n := by rw [tapF_eq]; rfl
theorem tp_35 {j n m : Nat} : gJ (tpT t j n) 35 m 0 = if 500 * j ≤ m ∧ m < 500 * j + n then gJ t 35 (m + 1) 0 else gJ t 35 m 0 := by
  simp [tpT, tup_J]
theorem RO_u {r c f c' f' : Nat} (h : RO s r c f) (h' : RO s r c' f') : c = c' ∧ f = f' := by
  have b := cap_b r
  have e1 := h.1
  have e2 := h.2.1
  have c1 := h.2.2.1
  have c2 := h'.2.2.1
  have c3 := h.2.2.2
  have c4 := h'.2.2.2
  rw [h'.1] at e1
  rw [h'.2.1] at e2
  exact ⟨((nI_eq (by omega) (by omega)).mp e1).symm, ((nI_eq (by omega) (by omega)).mp e2).symm⟩
theorem cap_t {j : Nat} (hj : j < 4) : cap (3 + 2 * j) = 500 := by unfold cap; rw [if_neg (by omega), if_neg (by omega), if_neg (by omega), if_pos (by omega)]
theorem cap_p {j : Nat} (hj : j < 4) : cap (4 + 2 * j) = 200 := by unfold cap; rw [if_neg (by omega), if_neg (by omega), if_neg (by omega), if_neg (by omega)]
theorem rl_tape {j c f : Nat} (h : Rl g s t nf B Q) (hj : j < 4) (ho : RO s (3 + 2 * j) c f) (h0 : 0 < c) : Rl g (sJ (sI (sI s 9 1 (3 + 2 * j) (nI (rix (3 + 2 * j) f 1))) 9 2 (3 + 2 * j) (nI (c - 1))) 3 10 j (gJ s 19 f (3 + 2 * j))) (tapF j (sI (sJ t 34 j 0 (gJ t 35 (500 * j) 0)) 30 j 0 (nI (c - 1))) 0 (c - 1)) nf B Q := by
  rw [tp_eq]
  obtain ⟨⟨l1, l2, l3⟩, ⟨j0, bb, ww, nn, hh⟩, ⟨ff1, pp, ll, mm, ss, qq⟩, ⟨rr, aa, xx, tt, uu, yy, cc, dd⟩, oo, kk⟩ := h
  have k9 : rw9 s (sJ (sI (sI s 9 1 (3 + 2 * j) (nI (rix (3 + 2 * j) f 1))) 9 2 (3 + 2 * j) (nI (c - 1))) 3 10 j (gJ s 19 f (3 + 2 * j))) (3 + 2 * j) := rw9_t rw9_I (rw9_t rw9_I ⟨fun r' c f hr ho => ho, fun r' x hr => rfl⟩)
  obtain ⟨c', f', t1, t2, t3⟩ := tt j hj
  obtain ⟨rfl, rfl⟩ := RO_u ho t1
  have hf0 : rix (3 + 2 * j) f 0 = f := by have := ho.2.2.2; unfold rix; rw [if_pos (by omega)]; omega
  have e0 := t3 0 h0
  rw [hf0, Nat.add_zero] at e0
  have hcap := cap_t hj
  have hc5 : c ≤ 500 := by have := ho.2.2.1; omega
  have hf5 : f < 500 := by have := ho.2.2.2; omega
  refine ⟨⟨LC_sJ (LC_sI (LC_sI l1 (by omega)) (by omega)), LR_gh l2 rfl rfl, l3⟩, ⟨j0, bb, ww, nn, hh⟩, ⟨ff1, pp, ll, mm, ss, qq⟩, ⟨rr, ?_, xx, ?_, re_U_9 (fun i hi => by omega) k9 uu, re_Y_9 (by omega) k9 yy, re_C_9 (by omega) k9 rfl cc, re_D_9 (by omega) k9 rfl dd⟩, oo, kk⟩
  · intro i hi
    have := aa i hi
    have e34 : gJ (tpT (sI (sJ t 34 j 0 (gJ t 35 (500 * j) 0)) 30 j 0 (nI (c - 1))) j (c - 1)) 34 i 0 = if i = j then gJ t 35 (500 * j) 0 else gJ t 34 i 0 := by
      show gJ (sJ t 34 j 0 (gJ t 35 (500 * j) 0)) 34 i 0 = _
      rw [gJ_sJ]
      simp
    rw [e34, gJ_sJ]
    by_cases e : i = j
    · rw [if_pos ⟨rfl, rfl, e⟩, if_pos e]
      exact e0
    · rw [if_neg (fun q => e q.2.2), if_neg e]
      exact this
  · intro i hi
    have e30 : ∀ i, gI (tpT (sI (sJ t 34 j 0 (gJ t 35 (500 * j) 0)) 30 j 0 (nI (c - 1))) j (c - 1)) 30 i 0 = if i = j then nI (c - 1) else gI t 30 i 0 := fun i => by
      show gI (sI (sJ t 34 j 0 (gJ t 35 (500 * j) 0)) 30 j 0 (nI (c - 1))) 30 i 0 = _
      rw [gI_sI]
      simp
      rfl
    have e35 : ∀ m, gJ (sI (sJ t 34 j 0 (gJ t 35 (500 * j) 0)) 30 j 0 (nI (c - 1))) 35 m 0 = gJ t 35 m 0 := fun m => rfl
    by_cases e : i = j
    · subst e
      refine ⟨c - 1, rix (3 + 2 * i) f 1, ⟨?_, ?_, by omega, rix_lt (by omega) (by omega)⟩, ?_, fun e he => ?_⟩
      · show gI (sI (sI s 9 1 (3 + 2 * i) (nI (rix (3 + 2 * i) f 1))) 9 2 (3 + 2 * i) (nI (c - 1))) 9 2 (3 + 2 * i) = _
        rw [gI_sI, if_pos ⟨rfl, rfl, rfl⟩]
      · show gI (sI (sI s 9 1 (3 + 2 * i) (nI (rix (3 + 2 * i) f 1))) 9 2 (3 + 2 * i) (nI (c - 1))) 9 1 (3 + 2 * i) = _
        rw [gI_sI, if_neg (by omega), gI_sI, if_pos ⟨rfl, rfl, rfl⟩]
      · rw [e30, if_pos rfl]
      · have k := t3 (e + 1) (by omega)
        rw [tp_35, if_pos ⟨by omega, by omega⟩, e35]
        have er : rix (3 + 2 * i) (rix (3 + 2 * i) f 1) e = rix (3 + 2 * i) f (e + 1) := by
          unfold rix
          rw [hcap]
          grind
        rw [er]
        exact k
    · obtain ⟨c2, f2, b1, b2, b3⟩ := tt i hi
      have hcap2 := cap_t hi
      have hc2 : c2 ≤ 500 := by have := b1.2.2.1; omega
      refine ⟨c2, f2, k9.1 _ _ _ (by omega) b1, ?_, fun e he => ?_⟩
      · rw [e30, if_neg e]
        exact b2
      · rename_i e'
        rw [k9.2 _ _ (by omega), tp_35, if_neg (by omega), e35]
        exact b3 e he
theorem rl_paper {j d e : Nat} (h : Rl g s t nf B Q) (hj : j < 4) (ho : RO s (4 + 2 * j) d e) (h2 : d < 200) : Rl g (sI (sJ s 19 (rix (4 + 2 * j) e d) (4 + 2 * j) (gJ s 3 10 j)) 9 2 (4 + 2 * j) (nI (d + 1))) (sI (sJ t 36 (200 * j + d) 0 (gJ t 34 j 0)) 31 j 0 (nI (d + 1))) nf B Q := by
  obtain ⟨⟨l1, l2, l3⟩, ⟨j0, bb, ww, nn, hh⟩, ⟨ff1, pp, ll, mm, ss, qq⟩, ⟨rr, aa, xx, tt, uu, yy, cc, dd⟩, oo, kk⟩ := h
  have k9 : rw9 s (sI (sJ s 19 (rix (4 + 2 * j) e d) (4 + 2 * j) (gJ s 3 10 j)) 9 2 (4 + 2 * j) (nI (d + 1))) (4 + 2 * j) := rw9_t rw9_J rw9_I
  obtain ⟨c', f', p, t1, t2, t3, t4, t5⟩ := uu j hj
  obtain ⟨rfl, rfl⟩ := RO_u ho t1
  have hcap := cap_p hj
  have hc5 : d ≤ 200 := by have := ho.2.2.1; omega
  have hf5 : e < 200 := by have := ho.2.2.2; omega
  refine ⟨⟨LC_sI (LC_sJ l1) (by omega), LR_sI (by omega) (LR_sJ l2), l3⟩, ⟨j0, bb, ww, nn, hh⟩, ⟨ff1, pp, ll, mm, ss, qq⟩, ⟨rr, aa, xx, re_T_9 (fun i hi => by omega) k9 tt, ?_, re_Y_9 (by omega) k9 yy, re_C_9 (by omega) k9 rfl cc, re_D_9 (by omega) k9 rfl dd⟩, oo, kk⟩
  intro i hi
  by_cases q : i = j
  · subst q
    refine ⟨d + 1, e, p, ⟨?_, ?_, by omega, ho.2.2.2⟩, ?_, t3, by omega, fun x hx => ?_⟩
    · rw [gI_sI, if_pos ⟨rfl, rfl, rfl⟩]
    · rw [gI_sI, if_neg (by omega)]
      exact ho.2.1
    · rw [gI_sI, if_pos ⟨rfl, rfl, rfl⟩]
    · show gJ (sJ s 19 (rix (4 + 2 * i) e d) (4 + 2 * i) (gJ s 3 10 i)) 19 (rix (4 + 2 * i) e x) (4 + 2 * i) = gJ (sJ t 36 (200 * i + d) 0 (gJ t 34 i 0)) 36 (200 * i + x) 0
      rw [gJ_sJ, gJ_sJ]
      by_cases z : x = d
      · rw [if_pos ⟨rfl, by rw [z], rfl⟩, if_pos ⟨rfl, by rw [z], rfl⟩]
        exact (aa i hi).1
      · have ne : ¬ rix (4 + 2 * i) e x = rix (4 + 2 * i) e d := by
          unfold rix
          rw [hcap]
          grind
        rw [if_neg (fun y => ne y.2.1), if_neg (by omega)]
        exact t5 x (by omega)
  · obtain ⟨c2, f2, p2, b1, b2, b3, b4, b5⟩ := uu i hi
    have hcap2 := cap_p hi
    have hc2 : c2 ≤ 200 := by have := b1.2.2.1; omega
    refine ⟨c2, f2, p2, k9.1 _ _ _ (by omega) b1, ?_, b3, b4, fun x hx => ?_⟩
    · rw [gI_sI, if_neg (by omega)]
      exact b2
    · rw [k9.2 _ _ (by omega)]
      show _ = gJ (sJ t 36 (200 * j + d) 0 (gJ t 34 j 0)) 36 (200 * i + x) 0
      rw [gJ_sJ, if_neg (by omega)]
      exact b5 x hx
end Row1
