/-! one instruction in both programs: orders with s; all together -/
section Go4
variable {g : Nat → Nat → Nat} {s t u : Sg} {X : Sg × Option Av} {nf B : Nat} {Q : List Nat} {j A f k a m : Nat} {n F N : Int32} {w : Int64}
theorem LR_faiF {o q : Nat} {num : Int32} (h : LR t nf) : LR (faiF t nf j num n o q) nf := by
  unfold faiF endF
  dsimp only
  have h1 : LR (e1F j q (e0F (sI t 23 j 0 num) j 4 n o)) nf := LR_e1F j q _ (LR_sI (by omega) (LR_sI (by omega) (LR_sI (by omega) (LR_sI (by omega) (LR_sI (by omega) (LR_sI (by omega) h))))))
  have h3 := LR_e3F j 64 0 _ (LR_e2F j nf 0 _ h1)
  exact LR_e4F j 64 0 _ (LR_if (LR_sI (by omega) h3) h3)
theorem end_47 {how : Int32} {o q : Nat} : gI (endF t nf j how n o q) 11 47 0 = gI t 11 47 0 := by
  unfold endF
  dsimp only
  have h1 : gI (e1F j q (e0F t j how n o)) 11 47 0 = gI t 11 47 0 := by rw [e1F_gI _ _ _ _ _ _ (by omega) (by omega) (by omega) (by omega)]; rfl
  generalize e1F j q (e0F t j how n o) = t1 at *
  rw [e4F_eq, e3F_eq, e2F_eq]
  split
  · exact h1
  · exact h1
theorem fai_47 {num : Int32} {o q : Nat} : gI (faiF t nf j num n o q) 11 47 0 = gI t 11 47 0 := end_47.trans rfl
theorem wn2_47 {b : Int32} : gI (wn2 t nf j b).1 11 47 0 = gI t 11 47 0 := by
  unfold wn2
  split
  · rfl
  · split <;> rfl
theorem wan_47 {b : Int32} {o q a : Nat} : gI (wanF t nf j b n o q a).1 11 47 0 = gI t 11 47 0 := by
  unfold wanF
  split
  · split
    · rw [wn2_47, nslF_I (by decide) (by decide) (by decide)]
    · dsimp only
      exact fai_47
  · exact wn2_47
theorem mis_k {b : Int32} {a : Nat} : (∀ k i, gI (misF s j b a).1 10 k i = gI s 10 k i) ∧ gP (misF s j b a).1 8 3 0 = gP s 8 3 0 := by
  unfold misF
  split
  · exact ⟨fun _ _ => rfl, rfl⟩
  · split
    · refine ⟨fun k i => ?_, ?_⟩
      · show gI (hldF s a (nI j) b) 10 k i = _
        exact hldF_gI (by decide) (by decide)
      · show gP (hldF s a (nI j) b) 8 3 0 = _
        exact hldF_gP (by decide) (by decide)
    · exact ⟨fun _ _ => rfl, rfl⟩
theorem sl_tch {x b : Int32} {f : Nat} : slotF (tchF t f) x b = slotF t x b := by
  unfold slotF
  exact ff_cg (fun m _ _ => Iff.rfl)
theorem sl_w5 {x b : Int32} {j : Nat} : slotF (w5F t j) x b = slotF t x b := by
  unfold slotF
  exact ff_cg (fun m _ _ => Iff.rfl)
theorem at_cg {t' : Sg} {x : Int32} {q : Nat} (h : slotF t' x (nI (q / 512)) = slotF t x (nI (q / 512))) (h2 : ∀ m, gJ t' 40 m 0 = gJ t 40 m 0) : atF t' x q = atF t x q := by
  unfold atF
  rw [h]
  split
  · rfl
  · exact h2 _
theorem st_kn (hs : stB F = 1) : knB F = 1 := by unfold knB; rw [if_pos (Or.inl hs)]
theorem go_sbad (G : GO g s t nf B Q j A f k a m n F N w) (hs : stB F = 1) (hS : efF (st1F s j A k) j F a m N < 0 ∨ ¬ efF (st1F s j A k) j F a m N < 1048576) : WK g s t nf B j n := by
  obtain ⟨o, ho, ho4⟩ := go_o G
  obtain ⟨c1, c2⟩ := go_ctl G
  have G' := G
  obtain ⟨⟨hj, hst, hn, hd, hA2, hf1, ha, hm, hfr⟩, ⟨h, H1, hpr, hct, hoe⟩, hc, hrr⟩ := G
  have hY := fun X => c_perform_1 (g := g) (X := X) H1.1.1 hpr hs (st1F s j A k, 2) (fun X => c_withOperand_bad H1.1.1 hpr hj ha hm hS)
  obtain ⟨a1, a2, a3, a4, a5, a6, a7, a8, a9, a10, a11⟩ := rl_qf h
  have rf := fun X => r_fails (g := g) (X := X) (num := 2) (n := n) h.1.2.1 hj ho ho4 a3 (by omega) a4 a5
  have hSe := ef_eq (F := F) (N := N) H1 hj ha hm
  refine go_fail G' c1 c2 (fun e he => by rw [hoe] at he; cases he) (show (0 : Int32) < 2 by decide) ho ho4 hY H1.1.1 (fun X => ?_)
  rw [r_w2 h.1.2.1 hj ha hm (st_kn hs)]
  show Rn g 157 197 [_, _, _, _, _, _, _, _, _, _, some (.inl (seF (ct1 t j A) j F a m N)), _] [] (ct1 t j A) X ↔ _
  rw [← hSe]
  refine r_w3_bad H1.1.2.1 hj hs hS (fun X => ?_)
  rw [hct]
  exact rf X
theorem go_smiss (hg : ∀ i, g 16 (i + 1) = g 16 i + 1) (G : GO g s t nf B Q j A f k a m n F N w) (hs : stB F = 1) {q : Nat} (hq : q < 1048576) (hS : efF (st1F s j A k) j F a m N = nI q) (hho : hoF (st1F s j A k) nf (nI j) (nI (q / 512)) = none) : WK g s t nf B j n := by
  obtain ⟨o, ho, ho4⟩ := go_o G
  obtain ⟨c1, c2⟩ := go_ctl G
  obtain ⟨⟨hj, hst, hn, hd, hA2, hf1, ha, hm, hfr⟩, ⟨h, H1, hpr, hct, hoe⟩, hc, hrr⟩ := G
  obtain ⟨a1, a2, a3, a4, a5, a6, a7, a8, a9, a10, a11⟩ := rl_qf H1
  have ho' : gI (ct1 t j A) 11 19 0 = nI o := ho
  have hst' : gI (ct1 t j A) 22 j 0 = 1 := hst
  obtain ⟨x, m1, m2, m3⟩ := rl_miss (n := n) (q := Q.length) (o := o) hg H1 hj hst' hho
  have hcw := fun X => c_withOperand_miss (g := g) (X := X) H1.1.1 hpr hj ha hm hS hq hho m1
  have hrw := fun X => r_wants (g := g) (X := X) (n := n) H1.1.2.1 hj hq ho' ho4 a3 (by omega) a4 a5 m2
  have hSe := ef_eq (F := F) (N := N) H1 hj ha hm
  have start : ∀ (v : Sg) (hv : LR v nf) (e : wanF (ct1 t j A) nf j (nI (q / 512)) n o Q.length x = (v, 1)) (X : Sg × Option Av), Rn g 157 0 [some (.inr (.inr (some (11, 0)))), some (.inl (nI j)), some (.inl n), none, none, none, none, none, none, none, none, none] [] t X ↔ X = (sI v 33 (128 * j + 127) 0 (nI A), some (.inl 0)) := fun v hv e X => by
    rw [hrr X, r_w2 h.1.2.1 hj ha hm (st_kn hs)]
    show Rn g 157 197 [_, _, _, _, _, _, _, _, _, _, some (.inl (seF (ct1 t j A) j F a m N)), _] [] (ct1 t j A) X ↔ _
    rw [← hSe, hS]
    rw [e] at hrw
    exact r_w3_miss H1.1.2.1 hv hj hs hq hrw
  rcases m3 with ⟨e1, e2⟩ | ⟨s', t', e1, e2, e3, e4⟩
  · rw [e1] at hcw
    have hY := fun X => c_perform_1 (g := g) (X := X) H1.1.1 hpr hs (st1F s j A k, 3) hcw
    have cc := hc (st1F s j A k, 3) hY H1.1.1 (fun e he => by rw [hoe] at he; cases he)
    rw [st2_no (show ¬ ((3 : Int32) = 0 ∨ (3 : Int32) = -2) by decide) hA2] at cc
    exact wk_fail_c H1 hj hst' c2 ho' ho4 (show (0 : Int32) < 3 by decide) cc (start _ (LR_faiF H1.1.2.1) e2) rfl
  · rw [e1] at hcw
    have hY := fun X => c_perform_1 (g := g) (X := X) H1.1.1 hpr hs (s', -1) hcw
    have mk1 := mis_k (s := st1F s j A k) (j := j) (b := nI (q / 512)) (a := x)
    rw [e1] at mk1
    have w47 := wan_47 (t := ct1 t j A) (nf := nf) (j := j) (b := nI (q / 512)) (n := n) (o := o) (q := Q.length) (a := x)
    rw [e2] at w47
    have cc := hc (s', -1) hY e3.1.1 (fun e he => by rw [mk1.2, hoe] at he; cases he)
    rw [st2_no (show ¬ ((-1 : Int32) = 0 ∨ (-1 : Int32) = -2) by decide) hA2] at cc
    have h5 := rl_ctl (v := nI A) e3 hj
    exact wk_held h5 ((mk1.1 8 0).trans c2) cc (start t' e3.1.2.1 e2) w47
end Go4
