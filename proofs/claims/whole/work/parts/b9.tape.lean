/-! a tape gets words -/
section Tap1
variable {g : Nat → Nat → Nat} {s t u : Sg} {X : Sg × Option Av} {nf B n : Nat} {Q : List Nat}
theorem rl_tapp {j c f : Nat} {v : Int64} (h : Rl g s t nf B Q) (hj : j < 4) (ho : RO s (3 + 2 * j) c f) (h2 : c < 500) (hv : wh v = v) : Rl g (sI (sJ s 19 (rix (3 + 2 * j) f c) (3 + 2 * j) v) 9 2 (3 + 2 * j) (nI (c + 1))) (sI (sJ t 35 (500 * j + c) 0 v) 30 j 0 (nI (c + 1))) nf B Q := by
  obtain ⟨⟨l1, l2, l3⟩, ⟨j0, bb, ww, nn, hh⟩, ⟨ff1, pp, ll, mm, ss, qq⟩, ⟨rr, aa, xx, tt, uu, yy, cc, dd⟩, oo, kk⟩ := h
  have k9 : rw9 s (sI (sJ s 19 (rix (3 + 2 * j) f c) (3 + 2 * j) v) 9 2 (3 + 2 * j) (nI (c + 1))) (3 + 2 * j) := rw9_t rw9_J rw9_I
  obtain ⟨c', f', t1, t2, t3⟩ := tt j hj
  obtain ⟨rfl, rfl⟩ := RO_u ho t1
  have hcap := cap_t hj
  have hf5 : f < 500 := by have := ho.2.2.2; omega
  refine ⟨⟨LC_sI (LC_sJ l1) (by omega), LR_sI (by omega) (LR_sJ l2), l3⟩, ⟨j0, bb, ww, nn, hh⟩, ⟨ff1, pp, ll, mm, ss, qq⟩, ⟨rr, aa, xx, ?_, re_U_9 (fun i hi => by omega) k9 uu, re_Y_9 (by omega) k9 yy, re_C_9 (by omega) k9 rfl cc, re_D_9 (by omega) k9 rfl dd⟩, oo, kk⟩
  intro i hi
  by_cases q : i = j
  · subst q
    refine ⟨c + 1, f, ⟨?_, ?_, by omega, ho.2.2.2⟩, ?_, fun x hx => ?_⟩
    · rw [gI_sI, if_pos ⟨rfl, rfl, rfl⟩]
    · rw [gI_sI, if_neg (by omega)]
      exact ho.2.1
    · rw [gI_sI, if_pos ⟨rfl, rfl, rfl⟩]
    · show gJ (sJ s 19 (rix (3 + 2 * i) f c) (3 + 2 * i) v) 19 (rix (3 + 2 * i) f x) (3 + 2 * i) = gJ (sJ t 35 (500 * i + c) 0 v) 35 (500 * i + x) 0 ∧ wh (gJ (sJ t 35 (500 * i + c) 0 v) 35 (500 * i + x) 0) = gJ (sJ t 35 (500 * i + c) 0 v) 35 (500 * i + x) 0
      rw [gJ_sJ, gJ_sJ]
      by_cases z : x = c
      · rw [if_pos ⟨rfl, by rw [z], rfl⟩, if_pos ⟨rfl, by rw [z], rfl⟩]
        exact ⟨rfl, hv⟩
      · have ne : ¬ rix (3 + 2 * i) f x = rix (3 + 2 * i) f c := by
          unfold rix
          rw [hcap]
          grind
        rw [if_neg (fun y => ne y.2.1), if_neg (by omega)]
        exact t3 x (by omega)
  · obtain ⟨c2, f2, b1, b2, b3⟩ := tt i hi
    have hcap2 := cap_t hi
    have hc2 : c2 ≤ 500 := by have := b1.2.2.1; omega
    refine ⟨c2, f2, k9.1 _ _ _ (by omega) b1, ?_, fun x hx => ?_⟩
    · rw [gI_sI, if_neg (by omega)]
      exact b2
    · rw [k9.2 _ _ (by omega)]
      show _ = gJ (sJ t 35 (500 * j + c) 0 v) 35 (500 * i + x) 0 ∧ wh (gJ (sJ t 35 (500 * j + c) 0 v) 35 (500 * i + x) 0) = gJ (sJ t 35 (500 * j + c) 0 v) 35 (500 * i + x) 0
      rw [gJ_sJ, if_neg (by omega)]
      exact b3 x hx
theorem rl_tclr (h : Rl g s t nf B Q) : Rl g (sI (sI s 9 1 0 0) 9 2 0 0) (sI t 11 2 0 0) nf B Q := by
  obtain ⟨⟨l1, l2, l3⟩, ⟨j0, bb, ww, nn, hh⟩, ⟨ff1, pp, ll, mm, ss, qq⟩, ⟨rr, aa, xx, tt, uu, yy, cc, dd⟩, oo, kk⟩ := h
  have k9 : rw9 s (sI (sI s 9 1 0 0) 9 2 0 0) 0 := rw9_t rw9_I rw9_I
  exact ⟨⟨LC_sI (LC_sI l1 (by omega)) (by omega), LR_sI (by omega) l2, l3⟩, ⟨j0, bb, ww, nn, hh⟩, ⟨ff1, pp, ll, mm, ss, qq⟩, ⟨rr, aa, xx, re_T_9 (fun i hi => by omega) k9 tt, re_U_9 (fun i hi => by omega) k9 uu, ⟨0, 0, ⟨rfl, rfl, by rw [cap_0]; omega, by rw [cap_0]; omega⟩, rfl, fun e he => by omega⟩, re_C_9 (by omega) k9 rfl cc, re_D_9 (by omega) k9 rfl dd⟩, oo, kk⟩
theorem tape_l {j c k : Nat} (hj : j < 4) (hk : k ≤ 1000) (hck : c + k ≤ 500) : ∀ m i (s t : Sg), i + m = k → Rl g s (sI t 30 j 0 (nI (c + i))) nf B Q → gI t 30 j 0 = nI c → gI t 11 2 0 = nI k → ∃ s' t', (∀ x X, Rn g 89 47 [oC, x, some (.inr (.inr (some (3, j)))), some (.inl (nI k)), some (.inl (nI i))] [] s X ↔ Rn g 89 76 [oC, x, some (.inr (.inr (some (3, j)))), some (.inl (nI k)), some (.inl (nI k))] [] s' X) ∧ (∀ X, Rn g 136 41 [oR, some (.inl (nI j)), some (.inl (nI i))] [] t X ↔ Rn g 136 80 [oR, some (.inl (nI j)), some (.inl (nI k))] [] t' X) ∧ Rl g s' (sI t' 30 j 0 (nI (c + k))) nf B Q ∧ gI t' 30 j 0 = nI c ∧ gI t' 11 2 0 = nI k ∧ gI s' 10 8 0 = gI s 10 8 0 ∧ gI t' 11 47 0 = gI t 11 47 0 ∧ LR t' nf
  | 0, i, s, t, hi, h, h30, h2 => by
    obtain rfl : i = k := by omega
    have hlr : LR t nf := LR_gh h.1.2.1 rfl rfl
    have hle : nI i ≤ nI i := nI_le (by omega) (by omega)
    refine ⟨s, t, fun x X => ?_, fun X => ?_, h, h30, h2, rfl, rfl, hlr⟩
    · simp only [e89_47, e89_49, e89_50, MM, MK, hle, if_true]
    · simp only [e136_41, e136_42, e136_43, e136_46, MM, MK, hlr, h2, hle, if_true, Nat.zero_lt_one]
  | m + 1, i, s, t, hi, h, h30, h2 => by
    have hlr : LR t nf := LR_gh h.1.2.1 rfl rfl
    have hle : ¬ nI k ≤ nI i := nI_ge (by omega) (by omega)
    obtain ⟨c', f, a1, a2, a3⟩ := h.2.2.2.1.2.2.2.1 j hj
    have e30 : gI (sI t 30 j 0 (nI (c + i))) 30 j 0 = nI (c + i) := by rw [gI_sI, if_pos ⟨rfl, rfl, rfl⟩]
    have hc' : c' = c + i := by
      have := a1.2.2.1
      rw [cap_t hj] at this
      exact (nI_eq (by omega) (by omega)).mp (a2.symm.trans e30)
    subst hc'
    obtain ⟨k', f0, y1, y2, y3⟩ := h.2.2.2.1.2.2.2.2.2.1
    have hk' : k' = k := by
      have := y1.2.2.1
      rw [cap_0] at this
      exact (nI_eq (by omega) (by omega)).mp (y2.symm.trans h2)
    subst hk'
    obtain ⟨z1, z2⟩ := y3 i (by omega)
    have z1' : gJ s 19 (rix 0 f0 i) 0 = gJ t 21 i 0 := z1
    have r1 := fun X => c_at (g := g) (X := X) (x0 := nI i) h.1.1 (show 0 < 11 by omega) y1
    rw [if_neg (fun z => z.elim (nI_pos (by omega)) (fun z => z (nI_lt (by omega) (by omega)))), nI_clamp (by omega), z1'] at r1
    have r2 := fun X => c_append (g := g) (X := X) (v := gJ t 21 i 0) h.1.1 (show 3 + 2 * j < 11 by omega) a1
    rw [cap_t hj, if_pos (by omega)] at r2
    have step := rl_tapp (v := gJ t 21 i 0) h hj a1 (by omega) z2
    have e1 : sI (sJ (sI t 30 j 0 (nI (c + i))) 35 (500 * j + (c + i)) 0 (gJ t 21 i 0)) 30 j 0 (nI (c + i + 1)) = sI (sJ t 35 (500 * j + (c + i)) 0 (gJ t 21 i 0)) 30 j 0 (nI (c + (i + 1))) := by
      show sI (sI (sJ t 35 (500 * j + (c + i)) 0 (gJ t 21 i 0)) 30 j 0 (nI (c + i))) 30 j 0 (nI (c + i + 1)) = _
      rw [sI_sI]; rfl
    rw [e1] at step
    obtain ⟨s', t', b1, b2, b3, b4, b5, b6, b7, b8⟩ := tape_l hj hk hck m (i + 1) _ (sJ t 35 (500 * j + (c + i)) 0 (gJ t 21 i 0)) (by omega) step h30 h2
    refine ⟨s', t', fun x X => ?_, fun X => ?_, b3, b4, b5, b6, b7, b8⟩
    · simp only [e89_47, e89_49, e89_50, e89_53, e89_54, e89_57, e89_58, e89_61, e89_63, e89_66, e89_69, n89_70, MM, MK, h.1.1, hj, hle, r1, r2, if_true, if_false, Nat.zero_lt_one, exists_eq_left, List.nil_append, List.cons_append, List.append_nil, show (0 : Nat) < 11 by omega, show 3 + 2 * j < 11 by omega]
      rw [e89_73, nI_1]
      exact b1 x X
    · simp only [e136_41, e136_42, e136_43, e136_46, e136_49, e136_50, e136_53, e136_56, e136_57, e136_58, e136_59, e136_62, e136_63, e136_64, e136_65, e136_66, e136_67, e136_68, e136_71, e136_72, e136_73, n136_74, MM, MK, hlr, h2, h30, hle, inN hj (show 4 ≤ 65536 by decide), t500, nI_add, Nat.add_assoc, inN (show 500 * j + (c + i) < 2000 by omega) (show 2000 ≤ 65536 by decide), inN (show i < 1000 by omega) (show 1000 ≤ 65536 by decide), if_true, if_false, Nat.zero_lt_one]
      rw [e136_77, nI_1]
      exact b2 X
theorem rel_tape (h : Rl g s t nf B Q) (h1 : gI s 10 8 0 = nI n) (h2 : gI t 11 47 0 = nI n) (x : Int32) : AN g 89 [oC, some (.inl x), none, none, none] 136 [oR, some (.inl x), none] s t nf B n := by
  by_cases c : x < 0 ∨ ¬ x < 4
  · have r1 := fun X => r_in_x (g := g) (t := t) (X := X) (K := 3) c (by decide)
    have r2 := fun X => c_jobOf_n (g := g) (X := X) h.1.1 c
    refine an_same (v := .inl (-1)) h h1 h2 (fun X => ?_) (fun X => ?_)
    · simp [e89_0, e89_1, e89_2, e89_5, e89_6, e89_7, e89_10, e89_11, e89_14, e89_17, e89_18, e89_21, e89_24, e89_25, e89_28, e89_31, e89_34, e89_35, MM, MK, h.1.1, r2]
    · simp [e136_0, e136_1, e136_2, e136_3, e136_6, e136_9, e136_12, e136_13, e136_14, e136_17, e136_20, e136_21, e136_24, e136_25, e136_26, e136_27, e136_30, e136_31, e136_34, e136_37, e136_38, MM, MK, h.1.2.1, r1]
  obtain ⟨j, hj, rfl⟩ := arg_ex (m := 4) (by decide) c
  have r1 := fun X => r_in_y (g := g) (t := t) (X := X) (K := 3) (x := nI j) rfl (show j ≤ 3 by omega) (by omega) (by decide)
  have r2 := fun X => c_jobOf_y (g := g) (X := X) h.1.1 hj
  have hj4 := inN hj (by omega)
  have e1 := h.2.1.1.1 j hj
  have r3 := fun X => c_isOver (g := g) (X := X) h.1.1 hj
  rw [e1] at r3
  have r4 := fun X => r_isOver (g := g) (X := X) h.1.2.1 hj
  have hN := nn_lt h.2.1.2.2.2.1 hj
  by_cases o : gI t 22 j 0 < 3
  · have o1 : ¬ (gI t 22 j 0 = 3 ∨ gI t 22 j 0 = 4) := fun z => by have := hN.mp o; exact z.elim this.1 this.2
    have o2 : ¬ (3 : Int32) ≤ gI t 22 j 0 := by rw [i32_le]; exact not_not_intro o
    rw [if_neg o1] at r3
    rw [if_neg o2] at r4
    obtain ⟨tc, tf, t1, t2, t3⟩ := h.2.2.2.1.2.2.2.1 j hj
    obtain ⟨k, f0, y1, y2, y3⟩ := h.2.2.2.1.2.2.2.2.2.1
    have htc : tc ≤ 500 := by have := t1.2.2.1; rw [cap_t hj] at this; exact this
    have hk : k ≤ 1000 := by have := y1.2.2.1; rw [cap_0] at this; exact this
    have r5 := fun X => c_size (g := g) (X := X) h.1.1 (show 0 < 11 by omega) y1
    have r6 := fun X => c_room (g := g) (X := X) h.1.1 (show 3 + 2 * j < 11 by omega) t1
    rw [cap_t hj] at r6
    by_cases q : tc + k ≤ 500
    · have q1 : nI k ≤ nI (500 - tc) := nI_le (by omega) (by omega)
      have q2 : nI (tc + k) ≤ 500 := nI_le (b := 500) (by omega) (by omega)
      have h' : Rl g s (sI t 30 j 0 (nI (tc + 0))) nf B Q := by rw [Nat.add_zero, sI_self t2]; exact h
      obtain ⟨s', t', b1, b2, b3, b4, b5, b6, b7, b8⟩ := tape_l hj hk q k 0 s t (by omega) h' t2 y2
      have k1 := rl_tclr b3
      obtain ⟨c2, f2, x1, x2, x3⟩ := k1.2.2.2.1.2.2.2.1 j hj
      have e30 : gI (sI (sI t' 30 j 0 (nI (tc + k))) 11 2 0 0) 30 j 0 = nI (tc + k) := by rw [gI_sI, if_neg (by omega), gI_sI, if_pos ⟨rfl, rfl, rfl⟩]
      have hc2 : c2 = tc + k := by
        have := x1.2.2.1
        rw [cap_t hj] at this
        exact (nI_eq (by omega) (by omega)).mp (x2.symm.trans e30)
      subst hc2
      have r7 := fun X => c_clear (g := g) (X := X) b3.1.1 (show 0 < 11 by omega)
      have r8 := fun X => c_size (g := g) (X := X) k1.1.1 (show 3 + 2 * j < 11 by omega) x1
      rw [nI_0] at b1 b2
      refine ⟨_, _, .inl (nI (tc + k)), B, n, Q, fun X => ?_, fun X => ?_, k1, b6.trans h1, b7.trans h2, by omega, by omega⟩
      · have e47 : Rn g 89 0 [oC, some (.inl (nI j)), none, none, none] [] s X ↔ Rn g 89 47 [oC, some (.inl (nI j)), some (.inr (.inr (some (3, j)))), some (.inl (nI k)), some (.inl 0)] [] s X := by
          simp only [e89_0, e89_1, e89_2, e89_5, e89_6, e89_7, e89_10, e89_11, e89_14, e89_17, e89_18, e89_21, e89_24, e89_25, e89_28, e89_31, e89_34, e89_35, e89_36, e89_37, e89_40, e89_43, e89_44, e89_45, MM, MK, h.1.1, r2, hj, r3, r5, r6, q1, if_true, if_false, Nat.zero_lt_one, exists_eq_left, List.nil_append, List.cons_append, List.append_nil, reduceCtorEq, show (0 : Nat) < 11 by omega, show 3 + 2 * j < 11 by omega]
        rw [e47, b1]
        simp only [e89_76, e89_77, e89_80, e89_83, e89_84, e89_87, e89_90, MM, MK, b3.1.1, k1.1.1, hj, r7, r8, if_true, if_false, Nat.zero_lt_one, exists_eq_left, List.nil_append, List.cons_append, List.append_nil, show (0 : Nat) < 11 by omega, show 3 + 2 * j < 11 by omega]
      · have e41 : Rn g 136 0 [oR, some (.inl (nI j)), none] [] t X ↔ Rn g 136 41 [oR, some (.inl (nI j)), some (.inl 0)] [] t X := by
          simp only [e136_0, e136_1, e136_2, e136_3, e136_6, e136_9, e136_12, e136_13, e136_14, e136_17, e136_20, e136_21, e136_24, e136_25, e136_26, e136_27, e136_30, e136_31, e136_34, e136_37, e136_38, e136_39, e136_40, MM, MK, h.1.2.1, r1, r4, hj4, t2, y2, nI_add, q2, if_true, if_false, Nat.zero_lt_one, exists_eq_left, List.nil_append, List.cons_append, List.append_nil, show ¬ (1 : Int32) = 0 by decide]
        rw [e41, b2]
        simp only [e136_80, e136_81, e136_84, e136_85, e136_86, e136_87, e136_88, e136_91, e136_92, e136_93, e136_94, e136_95, e136_98, e136_99, e136_102, e136_103, e136_104, MM, MK, b8, hj4, b4, b5, nI_add, if_true, if_false, Nat.zero_lt_one]
        simp
    · have q1 : ¬ nI k ≤ nI (500 - tc) := nI_ge (by omega) (by omega)
      have q2 : ¬ nI (tc + k) ≤ 500 := nI_ge (a := 500) (by omega) (by omega)
      refine an_same (v := .inl (-1)) h h1 h2 (fun X => ?_) (fun X => ?_)
      · simp only [e89_0, e89_1, e89_2, e89_5, e89_6, e89_7, e89_10, e89_11, e89_14, e89_17, e89_18, e89_21, e89_24, e89_25, e89_28, e89_31, e89_34, e89_35, MM, MK, h.1.1, r2, hj, r3, r5, r6, q1, if_true, if_false, Nat.zero_lt_one, exists_eq_left, List.nil_append, List.cons_append, List.append_nil, reduceCtorEq, show (0 : Nat) < 11 by omega, show 3 + 2 * j < 11 by omega]
      · simp only [e136_0, e136_1, e136_2, e136_3, e136_6, e136_9, e136_12, e136_13, e136_14, e136_17, e136_20, e136_21, e136_24, e136_25, e136_26, e136_27, e136_30, e136_31, e136_34, e136_37, e136_38, MM, MK, h.1.2.1, r1, r4, hj4, t2, y2, nI_add, q2, if_true, if_false, Nat.zero_lt_one, exists_eq_left, List.nil_append, List.cons_append, List.append_nil, show ¬ (1 : Int32) = 0 by decide]
  · have o1 : gI t 22 j 0 = 3 ∨ gI t 22 j 0 = 4 := Classical.byContradiction (fun z => o (hN.mpr ⟨fun y => z (Or.inl y), fun y => z (Or.inr y)⟩))
    have o2 : (3 : Int32) ≤ gI t 22 j 0 := by rw [i32_le]; exact o
    rw [if_pos o1] at r3
    rw [if_pos o2] at r4
    refine an_same (v := .inl (-1)) h h1 h2 (fun X => ?_) (fun X => ?_)
    · simp [e89_0, e89_1, e89_2, e89_5, e89_6, e89_7, e89_10, e89_11, e89_14, e89_17, e89_18, e89_21, e89_24, e89_25, e89_28, e89_31, e89_34, e89_35, MM, MK, h.1.1, r2, hj, r3]
    · simp [e136_0, e136_1, e136_2, e136_3, e136_6, e136_9, e136_12, e136_13, e136_14, e136_17, e136_20, e136_21, e136_24, e136_25, e136_26, e136_27, e136_30, e136_31, e136_34, e136_37, e136_38, MM, MK, h.1.2.1, r1, r4]
end Tap1
