/-! one instruction in both programs: extracodes, orders with s -/
section Go3
variable {g : Nat → Nat → Nat} {s t u : Sg} {X : Sg × Option Av} {nf B : Nat} {Q : List Nat} {j A f k a m : Nat} {n F N : Int32} {w : Int64}
theorem go_wrong (G : GO g s t nf B Q j A f k a m n F N w) {c x d e : Nat} (ht : RO (st1F s j A k) (3 + 2 * j) c x) (hq : RO (st1F s j A k) (4 + 2 * j) d e) (hk : knB F = 1) (hs0 : stB F = 0) {num : Int32} (h0 : 0 < num) (hwr : wroF (ct1 t j A) j F 0 = num) (hp : pfG (st1F s j A k) j F a m N c x d e = (st1F s j A k, num)) : WK g s t nf B j n := by
  obtain ⟨o, ho, ho4⟩ := go_o G
  obtain ⟨c1, c2⟩ := go_ctl G
  have G' := G
  obtain ⟨⟨hj, hst, hn, hd, hA2, hf1, ha, hm, hfr⟩, ⟨h, H1, hpr, hct, hoe⟩, hc, hrr⟩ := G
  have hY := fun X => c_perform_0 (g := g) (X := X) H1.1.1 hpr hj ha hm ht hq hs0
  rw [hp] at hY
  obtain ⟨a1, a2, a3, a4, a5, a6, a7, a8, a9, a10, a11⟩ := rl_qf h
  have rf := fun X => r_fails (g := g) (X := X) (num := num) (n := n) h.1.2.1 hj ho ho4 a3 (by omega) a4 a5
  have hS := ef_eq (F := F) (N := N) H1 hj ha hm
  have rwr := fun X => r_wrong (g := g) (X := X) (f := F) (s := efF (st1F s j A k) j F a m N) (v := 0) (w := 0) (a := 0) H1.1.2.1 hj (fun e => by rw [e] at hs0; exact absurd hs0 (by decide))
  rw [hwr] at rwr
  refine go_fail G' c1 c2 (fun e he => by rw [hoe] at he; cases he) h0 ho ho4 hY H1.1.1 (fun X => ?_)
  rw [r_w2 h.1.2.1 hj ha hm hk]
  show Rn g 157 197 [_, _, _, _, _, _, _, _, _, _, some (.inl (seF (ct1 t j A) j F a m N)), _] [] (ct1 t j A) X ↔ _
  rw [← hS, r_w3_no hs0]
  refine r_w4_bad H1.1.2.1 hj rwr (by rw [i32_le]; exact not_not_intro h0) (fun X => ?_)
  rw [hct]
  exact rf X
theorem tap_47 {c : Nat} : gI (tapF j t 0 c) 11 47 0 = gI t 11 47 0 := by rw [tp_eq]; rfl
theorem go_ex (G : GO g s t nf B Q j A f k a m n F N w) (hF : exP F) : WK g s t nf B j n := by
  obtain ⟨c, x, d, e, ht, hq, hc30, hd31⟩ := go_RO G
  have hb := go_base2 G
  have hj := G.1.1
  have ha := G.1.2.2.2.2.2.2.1
  have H1 := G.2.1.2.1
  have hs0 : stB F = 0 := by rcases hF with rfl | rfl | rfl | rfl | rfl | rfl <;> decide
  have hl1 : ¬ F < 128 := by rcases hF with rfl | rfl | rfl | rfl | rfl | rfl <;> decide
  have hl2 : ¬ F < 192 := by rcases hF with rfl | rfl | rfl | rfl | rfl | rfl <;> decide
  have hl3 : ¬ F < 256 := by rcases hF with rfl | rfl | rfl | rfl | rfl | rfl <;> decide
  have hl4 : ¬ F < 512 := by rcases hF with rfl | rfl | rfl | rfl | rfl | rfl <;> decide
  have hk : knB F = 1 := by rcases hF with rfl | rfl | rfl | rfl | rfl | rfl <;> decide
  have hpf : pfG (st1F s j A k) j F a m N c x d e = exF (st1F s j A k) j F a c x d e := by unfold pfG; rw [if_neg hl1, if_neg hl2, if_neg hl4]
  have hc5 : c ≤ 500 := by have := ht.2.2.1; rw [cap_t hj] at this; exact this
  have hd2 : d ≤ 200 := by have := hq.2.2.1; rw [cap_p hj] at this; exact this
  obtain ⟨racc, _⟩ := ef_A hb hj
  have racc1 : gJ (ct1 t j A) 34 j 0 = gJ (st1F s j A k) 3 10 j := (H1.2.2.2.1.2.1 j hj).1.symm
  have done : ∀ (hF2 : (F = 552 ∧ 0 < c) ∨ (F = 566 ∧ d < 200) ∨ F = 580 ∨ F = 593 ∨ (F = 704 ∧ ¬ gJ (st1F s j A k) 3 10 j < 0)) (hwr : wroF (ct1 t j A) j F 0 = 0), WK g s t nf B j n := fun hF2 hwr => by
    obtain ⟨s3, p1, p2⟩ := ef_ex (n := n) (o := 0) (q := 0) hb hj ha ht hq rfl hF2
    refine go_pl G ht hq hk hs0 hwr (by rw [hpf]; exact p1) p2 (fun X => ?_) ?_
    · refine r_w6_ext hb.1.2.1 hl1 hl2 hl3 (fun X => ?_)
      refine r_extra hb.1.2.1 hj ha hF (fun z => ?_) (fun z => ?_) (fun z => ?_)
      · refine ⟨hc30, ?_, hc5⟩
        rcases hF2 with q | q | q | q | q
        · exact q.2
        all_goals (rw [z] at q; first | exact absurd q.1 (by decide) | exact absurd q (by decide))
      · refine ⟨hd31, ?_⟩
        rcases hF2 with q | q | q | q | q
        · rw [z] at q; exact absurd q.1 (by decide)
        · exact q.2
        all_goals (rw [z] at q; first | exact absurd q.1 (by decide) | exact absurd q (by decide))
      · rcases hF2 with q | q | q | q | q <;> (rw [z] at q; first | exact absurd q.1 (by decide) | exact absurd q (by decide))
    · unfold extF
      rcases hF2 with ⟨rfl, _⟩ | ⟨rfl, _⟩ | rfl | rfl | ⟨rfl, _⟩
      · exact tap_47.trans rfl
      · rfl
      · exact set_47.trans rfl
      · exact set_47.trans rfl
      · rfl
  rcases hF with rfl | rfl | rfl | rfl | rfl | rfl
  · by_cases c0 : c = 0
    · subst c0
      refine go_wrong G ht hq hk hs0 (num := 4) (by decide) ?_ (by rw [hpf]; simp [exF])
      simp [wroF, hc30, nI_0]
    · refine done (Or.inl ⟨rfl, by omega⟩) ?_
      have : ¬ nI c = 0 := fun z => c0 ((nI_eq (by omega) (by omega)).mp (z.trans nI_0.symm))
      simp [wroF, hc30, this]
  · by_cases d0 : d = 200
    · subst d0
      refine go_wrong G ht hq hk hs0 (num := 6) (by decide) ?_ (by rw [hpf]; simp [exF, cap_p hj])
      simp [wroF, hd31, show nI 200 = 200 from rfl]
    · refine done (Or.inr (Or.inl ⟨rfl, by omega⟩)) ?_
      have : ¬ nI d = 200 := fun z => d0 ((nI_eq (b := 200) (by omega) (by omega)).mp z)
      simp [wroF, hd31, this]
  · exact done (Or.inr (Or.inr (Or.inl rfl))) (by simp [wroF])
  · obtain ⟨c1, c2⟩ := go_ctl G
    obtain ⟨o, ho, ho4⟩ := go_o G
    obtain ⟨⟨hj, hst, hn, hd, hA2, hf1, ha, hm, hfr⟩, ⟨h, H1, hpr, hct, hoe⟩, hc, hrr⟩ := G
    have hp : pfG (st1F s j A k) j 591 a m N c x d e = (st1F s j A k, -2) := by rw [hpf]; simp [exF]
    have hY := fun X => c_perform_0 (g := g) (X := X) H1.1.1 hpr hj ha hm ht hq hs0
    rw [hp] at hY
    have cc := hc (st1F s j A k, -2) hY H1.1.1 (fun e he => by rw [hoe] at he; cases he)
    have hS := ef_eq (F := 591) (N := N) H1 hj ha hm
    have rwr := fun X => r_wrong (g := g) (X := X) (f := 591) (s := efF (st1F s j A k) j 591 a m N) (v := 0) (w := 0) (a := 0) H1.1.2.1 hj (fun e => absurd e (by decide))
    rw [show wroF (ct1 t j A) j 591 0 = 0 by simp [wroF]] at rwr
    obtain ⟨a1, a2, a3, a4, a5, a6, a7, a8, a9, a10, a11⟩ := rl_qf hb
    have e48 : gI (ct1 t j A) 11 48 0 = gI (st1F s j A k) 10 9 0 := H1.2.2.2.2.2.1.symm
    have eT : sI (tchF (sI (ct1 t j A) 24 j 0 (gI (ct1 t j A) 24 j 0 + 1)) f) 11 48 0 (gI (st1F s j A k) 10 9 0 + 1) = tchF (w5F (ct1 t j A) j) f := by
      unfold tchF w5F
      rw [e48, sI_cm (c := 48) (c' := 11) (by omega), sI_cm (c := 47) (c' := 11) (by omega)]
    refine wk_last (T := tchF (sI (ct1 t j A) 24 j 0 (gI (ct1 t j A) 24 j 0 + 1)) f) (o := o) (LC_st2 (Or.inr rfl) H1.1.1) hj hoe (Q := Q) ?_ hst c2 ho ho4 cc (fun X => ?_) rfl
    · rw [eT]; exact hb
    · rw [hrr X, r_w2 h.1.2.1 hj ha hm hk]
      show Rn g 157 197 [_, _, _, _, _, _, _, _, _, _, some (.inl (seF (ct1 t j A) j 591 a m N)), _] [] (ct1 t j A) X ↔ _
      rw [← hS, r_w3_no hs0, r_w4_ok H1.1.2.1 rwr, r_w5_no H1.1.2.1 hj hA2 (f := f) hfr hs0, eT]
      have ho' : gI (tchF (w5F (ct1 t j A) j) f) 11 19 0 = nI o := ho
      have hlr := hb.1.2.1
      generalize tchF (w5F (ct1 t j A) j) f = t2 at hlr ho' a3 a4 a5
      have rx := fun X => r_extra (g := g) (X := X) (n := n) (c := 0) (d := 0) (a := a) (f := 591) hlr hj ha (Or.inr (Or.inr (Or.inr (Or.inl rfl)))) (fun z => absurd z (by decide)) (fun z => absurd z (by decide)) (fun _ => ⟨ho', ho4, a3, by omega, a4, a5⟩)
      have ex : extF t2 nf j 591 a n 0 0 o Q.length = endF t2 nf j 3 n o Q.length := by unfold extF; rw [if_neg (by decide), if_neg (by decide), if_neg (by decide), if_pos rfl]
      rw [ex] at rx
      exact r_w6_ext hlr hl1 hl2 hl3 rx
  · exact done (Or.inr (Or.inr (Or.inr (Or.inl rfl)))) (by simp [wroF])
  · by_cases c0 : gJ (st1F s j A k) 3 10 j < 0
    · refine go_wrong G ht hq hk hs0 (num := 5) (by decide) ?_ (by rw [hpf]; simp [exF, c0])
      simp [wroF, racc1, c0]
    · exact done (Or.inr (Or.inr (Or.inr (Or.inr ⟨rfl, c0⟩)))) (by simp [wroF, racc1, c0])
end Go3
