/-! one instruction in both programs: orders with s, the block being there; all together -/
section Go5
variable {g : Nat → Nat → Nat} {s t u : Sg} {X : Sg × Option Av} {nf B : Nat} {Q : List Nat} {j A f k a m : Nat} {n F N : Int32} {w : Int64}
theorem rl_83c {S : Sg} {v : Int32} {oe : Option Nat} (h : Rl g (sI S 15 127 j v) t nf B Q) : Rl g (sI (sP S 8 3 0 oe) 15 127 j v) t nf B Q := rl_83 h
/-- a division by 0 -/
theorem go_s5 (G : GO g s t nf B Q j A f k a m n 252 N w) {q e o : Nat} (ho : gI t 11 19 0 = nI o) (ho4 : o < 4) (he1 : e < nf) (hY : ∀ X, Rn g 61 0 [some (.inr (.inr (some (8, 0))))] [] (st1F s j A k) X ↔ X = (sP (st1F s j A k) 8 3 0 (some e), some (.inl 5))) (start : ∀ X, Rn g 157 116 [some (.inr (.inr (some (11, 0)))), some (.inl (nI j)), some (.inl n), some (.inl (nI A)), some (.inr (.inl w)), none, some (.inl 252), some (.inl (nI a)), some (.inl (nI m)), some (.inl N), none, none] [] t X ↔ Rn g 157 265 [some (.inr (.inr (some (11, 0)))), some (.inl (nI j)), some (.inl n), some (.inl (nI A)), some (.inr (.inl w)), none, some (.inl 252), some (.inl (nI a)), some (.inl (nI m)), some (.inl N), some (.inl (nI q)), some (.inl 1)] [] (ct1 t j A) X) (rwr : ∀ X, Rn g 159 0 [some (.inr (.inr (some (11, 0)))), some (.inl (nI j)), some (.inl 252), some (.inl (nI q))] [] (ct1 t j A) X ↔ X = (ct1 t j A, some (.inl 5))) : WK g s t nf B j n := by
  obtain ⟨c1, c2⟩ := go_ctl G
  have G' := G
  obtain ⟨⟨hj, hst, hn, hd, hA2, hf1, ha, hm, hfr⟩, ⟨h, H1, hpr, hct, hoe⟩, hc, hrr⟩ := G
  have b := rl_qf h
  have rf := fun X => r_fails (g := g) (X := X) (num := 5) (n := n) h.1.2.1 hj ho ho4 b.2.2.1 (by omega) b.2.2.2.1 b.2.2.2.2.1
  have H2 : Rl g (sP (st1F s j A k) 8 3 0 (some e)) (ct1 t j A) nf B Q := rl_83 H1
  have c1' : Rl g (sI (sP (st1F s j A k) 8 3 0 (some e)) 15 127 j (nI A)) t nf B Q := rl_83c c1
  have c2' : gI (sP (st1F s j A k) 8 3 0 (some e)) 10 8 0 = n := by rw [gI_sP]; exact c2
  refine go_fail (num := 5) G' c1' c2' (fun e' he' => ?_) (by decide) ho ho4 hY H2.1.1 (fun X => ?_)
  · rw [gP_sP, if_pos ⟨rfl, rfl, rfl⟩] at he'
    cases he'
    exact he1
  · rw [start X]
    refine r_w4_bad H1.1.2.1 hj rwr (by decide) (fun X => ?_)
    rw [hct]
    exact rf X
theorem go_shit (G : GO g s t nf B Q j A f k a m n F N w) (hs : stB F = 1) {q e : Nat} (hq : q < 1048576) (hS : efF (st1F s j A k) j F a m N = nI q) (hho : hoF (st1F s j A k) nf (nI j) (nI (q / 512)) = some e) : WK g s t nf B j n := by
  obtain ⟨o, ho, ho4⟩ := go_o G
  obtain ⟨c1, c2⟩ := go_ctl G
  have G' := G
  obtain ⟨⟨hj, hst, hn, hd, hA2, hf1, ha, hm, hfr⟩, ⟨h, H1, hpr, hct, hoe⟩, hc, hrr⟩ := G
  obtain ⟨he1, hfr2, h42, k2, hk64, hsl, hgp, hw, hcn, h38⟩ := lk_hit H1 hj hho
  obtain ⟨a1, a2, a3, a4, a5, a6, a7, a8, a9, a10, a11⟩ := rl_qf H1
  have ho' : gI (ct1 t j A) 11 19 0 = nI o := ho
  have H2 : Rl g (sP (st1F s j A k) 8 3 0 (some e)) (ct1 t j A) nf B Q := rl_83 H1
  have hd2 : gI (sP (st1F s j A k) 8 3 0 (some e)) 3 3 j < gI (sP (st1F s j A k) 8 3 0 (some e)) 3 4 j := by rw [st1_sI]; exact hd
  have hb := tT_base2 (f := f) (e := e) H2 hj (fun z : gI t 22 j 0 = 0 => by rw [hst] at z; exact absurd z (by decide)) hd2
  have hcw := fun X => c_withOperand_hit (g := g) (X := X) H1.1.1 hpr hj ha hm hS hq hho hgp hk64 hw hcn
  have hSe := ef_eq (F := F) (N := N) H1 hj ha hm
  have hx := H1.2.2.2.1.2.2.1
  have hat : atF (ct1 t j A) (nI j) q = gJ (st1F s j A k) 16 (q % 512) k2 := by
    unfold atF
    rw [hsl]
    exact (hx.2.2.1 k2 (q % 512) hk64 (by omega) h38).symm
  have hww : wh (gJ (st1F s j A k) 16 (q % 512) k2) = gJ (st1F s j A k) 16 (q % 512) k2 := by
    rw [hx.2.2.1 k2 (q % 512) hk64 (by omega) h38]
    exact hx.2.2.2.1 _ (by omega)
  have hwn2 : wanF (ct1 t j A) nf j (nI (q / 512)) n o Q.length 0 = (ct1 t j A, 0) := by
    unfold wanF
    rw [hsl]
    show wn2 (ct1 t j A) nf j (nI (q / 512)) = _
    unfold wn2
    rw [hfr2]
    show (if gI (ct1 t j A) 42 e 0 = 1 then _ else _) = _
    rw [if_pos h42]
  have hrw := fun X => r_wants (g := g) (X := X) (n := n) (s := 0) H1.1.2.1 hj hq ho' ho4 a3 (by omega) a4 a5 (fun z => by rw [hsl] at z; cases z)
  rw [hwn2] at hrw
  have rwr := fun X => r_wrong (g := g) (X := X) (f := F) (s := nI q) (v := 0) (w := gJ (st1F s j A k) 16 (q % 512) k2) (a := q) H1.1.2.1 hj (fun _ => ⟨rfl, hq, hat.symm⟩)
  have hn552 : ¬ F = 552 := fun z => by rw [z] at hs; exact absurd hs (by decide)
  have hn566 : ¬ F = 566 := fun z => by rw [z] at hs; exact absurd hs (by decide)
  have hn704 : ¬ F = 704 := fun z => by rw [z] at hs; exact absurd hs (by decide)
  have start : ∀ X, Rn g 157 0 [some (.inr (.inr (some (11, 0)))), some (.inl (nI j)), some (.inl n), none, none, none, none, none, none, none, none, none] [] t X ↔ Rn g 157 265 [some (.inr (.inr (some (11, 0)))), some (.inl (nI j)), some (.inl n), some (.inl (nI A)), some (.inr (.inl w)), none, some (.inl F), some (.inl (nI a)), some (.inl (nI m)), some (.inl N), some (.inl (nI q)), some (.inl 1)] [] (ct1 t j A) X := fun X => by
    rw [hrr X, r_w2 h.1.2.1 hj ha hm (st_kn hs)]
    show Rn g 157 197 [_, _, _, _, _, _, _, _, _, _, some (.inl (seF (ct1 t j A) j F a m N)), _] [] (ct1 t j A) X ↔ _
    rw [← hSe, hS]
    exact r_w3_hit H1.1.2.1 hs hq hrw
  by_cases hz : F = 252 ∧ gJ (st1F s j A k) 16 (q % 512) k2 = 0
  · obtain ⟨rfl, hz0⟩ := hz
    have e1 : woF (st1F s j A k) j 252 a k2 (q % 512) e = (sP (st1F s j A k) 8 3 0 (some e), 5) := by
      unfold woF
      rw [if_neg (by decide)]
      have : gJ (sP (st1F s j A k) 8 3 0 (some e)) 16 (q % 512) k2 = 0 := hz0
      simp [awF, this]
    rw [e1] at hcw
    dsimp only at hcw
    have ewr : wroF (ct1 t j A) j 252 (gJ (st1F s j A k) 16 (q % 512) k2) = 5 := by unfold wroF; rw [if_pos ⟨rfl, hz0⟩]
    rw [ewr] at rwr
    exact go_s5 G' ho ho4 he1 (fun X => c_perform_1 H1.1.1 hpr hs (sP (st1F s j A k) 8 3 0 (some e), 5) hcw) (fun X => (hrr X).symm.trans (start X)) rwr
  generalize st1F s j A k = S at *
  · have ewr : wroF (ct1 t j A) j F (gJ (S) 16 (q % 512) k2) = 0 := by
      unfold wroF
      rw [if_neg hz, if_neg (fun z => hn552 z.1), if_neg (fun z => hn566 z.1), if_neg (fun z => hn704 z.1)]
    rw [ewr] at rwr
    have fin : ∀ (s3 t3 : Sg), woF (S) j F a k2 (q % 512) e = (s3, 0) → kp (sP (S) 8 3 0 (some e)) s3 → Rl g (tT s3 j f (some e) (gI (sP (S) 8 3 0 (some e)) 3 3 j + 1) (gI (sP (S) 8 3 0 (some e)) 10 9 0 + 1)) t3 nf B Q → (∀ X, Rn g 157 345 [some (.inr (.inr (some (11, 0)))), some (.inl (nI j)), some (.inl n), some (.inl (nI A)), some (.inr (.inl w)), none, some (.inl F), some (.inl (nI a)), some (.inl (nI m)), some (.inl N), some (.inl (nI q)), some (.inl 0)] [] (tchF (tchF (w5F (ct1 t j A) j) f) e) X ↔ X = (t3, some (.inl 1))) → gI t3 11 47 0 = gI t 11 47 0 → WK g s t nf B j n := fun s3 t3 e1 hkp hrel h6 h47 => by
      rw [e1] at hcw
      have hY := fun X => c_perform_1 (g := g) (X := X) H1.1.1 hpr hs (s3, 0) hcw
      have hl3 : LC s3 nf := kp_LC hkp H2.1.1
      have e83 : gP s3 8 3 0 = some e := by unfold gP; rw [hkp.2.2.2]; rfl
      have cc := hc (s3, 0) hY hl3 (fun e' he' => by rw [e83] at he'; cases he'; exact he1)
      refine wk_done (s1 := sP (S) 8 3 0 (some e)) H2.1.1 hkp rfl hrel c2 cc (LC_st2 (Or.inl rfl) hl3) (fun X => ?_) h47
      rw [start X, r_w4_ok H1.1.2.1 rwr, r_w5_st H1.1.2.1 hj hA2 hq (f := f) hfr hfr2 hs]
      exact h6 X
    have hslT : slotF (tchF (tchF (w5F (ct1 t j A) j) f) e) (nI j) (nI (q / 512)) = some k2 := by rw [sl_tch, sl_tch, sl_w5]; exact hsl
    have hatT : gJ (S) 16 (q % 512) k2 = atF (tchF (tchF (w5F (ct1 t j A) j) f) e) (nI j) q := by rw [hat.symm]; exact (at_cg (t' := tchF (tchF (w5F (ct1 t j A) j) f) e) (t := ct1 t j A) (by rw [sl_tch, sl_tch, sl_w5]) (fun m => rfl)).symm
    rcases st_cases hs with hF | hF
    · obtain ⟨s3, p1, p2⟩ := ef_rw hb hj ha hk64 hslT hF
      have hlt : F < 128 := by rcases hF with rfl | rfl | rfl | rfl | rfl | rfl | rfl | rfl <;> decide
      have hlt2 : F < 192 := by rcases hF with rfl | rfl | rfl | rfl | rfl | rfl | rfl | rfl <;> decide
      have hrg : rgP F := by rcases hF with rfl | rfl | rfl | rfl | rfl | rfl | rfl | rfl <;> simp [rgP]
      have hkp := kp_rw (s := sP (S) 8 3 0 (some e)) (j := j) (F := F) (a := a) (k := k2) (e := q % 512)
      rw [p1] at hkp
      refine fin s3 _ (by unfold woF; rw [if_pos hlt2]; exact p1) hkp p2 (fun X => ?_) (reg_47.trans rfl)
      refine r_w6_reg hb.1.2.1 hlt (fun X => ?_)
      exact r_registers hb.1.2.1 hj ha hrg (fun _ => ⟨rfl, hq, ⟨k2, hslT⟩, hatT⟩) (fun z => by rw [hs] at z; exact absurd z (by decide))
    · obtain ⟨s3, p1, p2⟩ := ef_aw hb hj hk64 hslT hww hF (fun z y => hz ⟨z, y⟩)
      have hl1 : ¬ F < 128 := by rcases hF with rfl | rfl | rfl | rfl | rfl | rfl | rfl | rfl | rfl <;> decide
      have hl2 : ¬ F < 192 := by rcases hF with rfl | rfl | rfl | rfl | rfl | rfl | rfl | rfl | rfl <;> decide
      have hl3 : F < 256 := by rcases hF with rfl | rfl | rfl | rfl | rfl | rfl | rfl | rfl | rfl <;> decide
      have hsm : smP F := by rcases hF with rfl | rfl | rfl | rfl | rfl | rfl | rfl | rfl | rfl <;> simp [smP]
      have hkp := kp_aw (s := sP (S) 8 3 0 (some e)) (j := j) (F := F) (k := k2) (e := q % 512)
      rw [p1] at hkp
      refine fin s3 _ (by unfold woF; rw [if_neg hl2]; exact p1) hkp p2 (fun X => ?_) (sum_47.trans rfl)
      refine r_w6_sum hb.1.2.1 hl2 hl3 (fun X => ?_) hl1
      exact r_sums hb.1.2.1 hj hsm (fun _ => ⟨rfl, hq, ⟨k2, hslT⟩, hatT⟩) (fun z y => hz ⟨z, y⟩)
theorem rel_work (hg : ∀ i, g 16 (i + 1) = g 16 i + 1) (h : Rl g s t nf B Q) (hj : j < 4) (hst : gI t 22 j 0 = 1) (hn : gI s 10 8 0 = n) : WK g s t nf B j n := by
  have e3 := h.2.1.1.2.2.1 j hj
  have e4 := h.2.1.1.2.2.2.1 j hj
  obtain ⟨dd, ll, y1, y2, y3, y4, y5⟩ := h.2.1.2.2.2.2.2.2 j hj
  have e33 := h.2.2.2.1.1 j 127 hj (by omega)
  obtain ⟨a1, a2, a3, a4, a5, a6, a7, a8, a9, a10, a11⟩ := rl_qf h
  obtain ⟨o, b1, b2, b3⟩ := rl_of h
  have ho4 := rl_o4 h hj (by rw [hst]; decide) b1 b2
  have h0 : Rl g (st0 s j) t nf B Q := rl_83 (rl_82 h)
  by_cases hd : gI s 3 3 j < gI s 3 4 j
  · have hne : ¬ gI t 24 j 0 = gI t 26 j 0 := fun e => by
      rw [e3, e4, e, Int32.lt_iff_toInt_lt] at hd
      omega
    by_cases hb : gI s 15 127 j < 0 ∨ ¬ gI s 15 127 j < 1048576
    · have hb' := hb
      rw [e33] at hb'
      exact wk_fail (num := 2) h0 hj hst hn b1 ho4 (by decide) (fun X => c_step_addr h.1.1 hj hd hb) (fun X => r_w0_addr h.1.2.1 hj hne hb' (fun X => r_fails h.1.2.1 hj b1 ho4 a3 (by omega) a4 a5)) rfl
    · obtain ⟨A, hA2, hA⟩ := adr_ex hb
      have hA' : gI t 33 (128 * j + 127) 0 = nI A := by rw [← e33]; exact hA
      cases hho : hoF s nf (nI j) (nI (A / 512)) with
      | none =>
        obtain ⟨x, m1, m2, m3⟩ := rl_miss (n := n) (q := Q.length) (o := o) hg h0 hj hst hho
        have hcw := fun X => c_step_miss (g := g) (X := X) h.1.1 hj hd hA hA2 hho m1
        have hrw := fun X => r_wants (g := g) (X := X) (n := n) h.1.2.1 hj hA2 b1 ho4 a3 (by omega) a4 a5 m2
        rcases m3 with ⟨e1, e2⟩ | ⟨s', t', e1, e2, e5, e6⟩
        · rw [e1] at hcw
          rw [e2] at hrw
          dsimp only at hrw hcw
          exact wk_fail (num := 3) h0 hj hst hn b1 ho4 (by decide) hcw (fun X => r_w0_miss h.1.2.1 hj hne hA' hA2 hrw) rfl
        · rw [e1] at hcw
          have mk1 := mis_k (s := st0 s j) (j := j) (b := nI (A / 512)) (a := x)
          rw [e1] at mk1
          have w47 := wan_47 (t := t) (nf := nf) (j := j) (b := nI (A / 512)) (n := n) (o := o) (q := Q.length) (a := x)
          rw [e2] at hrw w47
          dsimp only at hrw hcw mk1 w47
          exact wk_held e5 ((mk1.1 8 0).trans hn) hcw (fun X => r_w0_miss h.1.2.1 hj hne hA' hA2 hrw) w47
      | some f =>
        obtain ⟨k, a, m, F, N, w, G⟩ := go_base h hj hst hn hd hA hA2 hho
        by_cases hk : knB F = 0
        · exact go_unknown G hk
        · by_cases hs : stB F = 1
          · by_cases hS : efF (st1F s j A k) j F a m N < 0 ∨ ¬ efF (st1F s j A k) j F a m N < 1048576
            · exact go_sbad G hs hS
            · obtain ⟨q, hq, hSq⟩ := adr_ex hS
              cases hh : hoF (st1F s j A k) nf (nI j) (nI (q / 512)) with
              | none => exact go_smiss hg G hs hq hSq hh
              | some e => exact go_shit G hs hq hSq hh
          · rcases kn_cases hk hs with c | c | c | c
            · exact go_ro G c
            · exact go_jo G c
            · exact go_sh G c
            · exact go_ex G c
  · have hle : gI t 24 j 0 = gI t 26 j 0 := by
      rw [e3, e4, y1, y2] at hd
      have : ¬ dd < ll := fun z => hd (nI_lt z (by omega))
      rw [y1, y2, show dd = ll by omega]
    exact wk_fail (num := 7) h0 hj hst hn b1 ho4 (by decide) (fun X => c_step_time h.1.1 hj hd) (fun X => r_w0_time h.1.2.1 hj hle (fun X => r_fails h.1.2.1 hj b1 ho4 a3 (by omega) a4 a5)) rfl
end Go5
