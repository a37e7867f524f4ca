/-! one instruction in both programs: orders without s -/
section Go2
variable {g : Nat → Nat → Nat} {s t u : Sg} {X : Sg × Option Av} {nf B : Nat} {Q : List Nat} {j A f k a m : Nat} {n F N : Int32} {w : Int64}
theorem set_47 {i b : Nat} {v : Int64} : gI (setF t i b v) 11 47 0 = gI t 11 47 0 := by unfold setF; split <;> rfl
theorem put_47 {i : Int32} {q : Nat} {v : Int64} : gI (putF t i q v) 11 47 0 = gI t 11 47 0 := by unfold putF; split <;> rfl
theorem ite_47 {P : Prop} [Decidable P] {x y z : Sg} (h1 : gI x 11 47 0 = gI z 11 47 0) (h2 : gI y 11 47 0 = gI z 11 47 0) : gI (if P then x else y) 11 47 0 = gI z 11 47 0 := by split <;> assumption
theorem reg_47 {v : Int64} {q : Nat} : gI (regF t j F a v q) 11 47 0 = gI t 11 47 0 := by
  unfold regF
  dsimp only
  exact ite_47 set_47 (ite_47 set_47 (ite_47 set_47 (ite_47 set_47 (ite_47 set_47 (ite_47 put_47 (ite_47 put_47 (ite_47 set_47 (ite_47 set_47 (ite_47 set_47 (ite_47 set_47 (ite_47 set_47 (ite_47 set_47 rfl))))))))))))
theorem sum_47 {v : Int64} {q : Nat} : gI (sumF t j F v q) 11 47 0 = gI t 11 47 0 := by
  unfold sumF
  dsimp only
  exact ite_47 rfl (ite_47 rfl (ite_47 rfl (ite_47 rfl (ite_47 rfl (ite_47 (put_47 (t := t)) (ite_47 (put_47 (t := t)) (ite_47 rfl (ite_47 rfl (ite_47 rfl rfl)))))))))
theorem jmp_47 {x y : Int32} : gI (jmpF t j F a m x y) 11 47 0 = gI t 11 47 0 := by
  unfold jmpF
  dsimp only
  exact ite_47 (ite_47 rfl (set_47.trans set_47)) (ite_47 (ite_47 rfl (set_47.trans set_47)) (ite_47 (ite_47 set_47 rfl) (ite_47 (ite_47 set_47 rfl) (ite_47 (ite_47 set_47 rfl) (ite_47 (ite_47 set_47 rfl) (ite_47 (ite_47 set_47 rfl) (ite_47 (ite_47 set_47 rfl) (ite_47 (ite_47 set_47 rfl) (ite_47 (ite_47 set_47 rfl) (ite_47 (ite_47 set_47 rfl) (ite_47 (ite_47 set_47 rfl) (ite_47 (ite_47 set_47 rfl) (ite_47 (ite_47 set_47 rfl) rfl)))))))))))))
theorem tch_47 : gI (tchF t f) 11 47 0 = gI t 11 47 0 := rfl
/-- an order without s that is done -/
theorem go_pl (G : GO g s t nf B Q j A f k a m n F N w) {c x d e : Nat} (ht : RO (st1F s j A k) (3 + 2 * j) c x) (hq : RO (st1F s j A k) (4 + 2 * j) d e) (hk : knB F = 1) (hs0 : stB F = 0) (hwr : wroF (ct1 t j A) j F 0 = 0) {s3 t3 : Sg} (hp : pfG (st1F s j A k) j F a m N c x d e = (s3, 0)) (hrel : Rl g (tT s3 j f none (gI (st1F s j A k) 3 3 j + 1) (gI (st1F s j A k) 10 9 0 + 1)) t3 nf B Q) (h6 : ∀ X, Rn g 157 345 [some (.inr (.inr (some (11, 0)))), some (.inl (nI j)), some (.inl n), some (.inl (nI A)), some (.inr (.inl w)), none, some (.inl F), some (.inl (nI a)), some (.inl (nI m)), some (.inl N), some (.inl (efF (st1F s j A k) j F a m N)), some (.inl 0)] [] (tchF (w5F (ct1 t j A) j) f) X ↔ X = (t3, some (.inl 1))) (h47 : gI t3 11 47 0 = gI t 11 47 0) : WK g s t nf B j n := by
  obtain ⟨c1, c2⟩ := go_ctl G
  obtain ⟨⟨hj, hst, hn, hd, hA2, hf1, ha, hm, hfr⟩, ⟨h, H1, hpr, hct, hoe⟩, hc, hrr⟩ := G
  have hY := fun X => c_perform_0 (g := g) (X := X) H1.1.1 hpr hj ha hm ht hq hs0
  have kpf : kp (st1F s j A k) s3 := by have := kp_pf (s := st1F s j A k) (j := j) (F := F) (N := N) (a := a) (m := m) (c := c) (f := x) (d := d) (e := e); rw [hp] at this; exact this
  rw [hp] at hY
  have hl3 : LC s3 nf := kp_LC kpf H1.1.1
  have e83 : gP s3 8 3 0 = none := by unfold gP; rw [kpf.2.2.2]; exact hoe
  have cc := hc (s3, 0) hY hl3 (fun e he => by rw [e83] at he; cases he)
  have hS := ef_eq (F := F) (N := N) H1 hj ha hm
  have rwr := fun X => r_wrong (g := g) (X := X) (f := F) (s := efF (st1F s j A k) j F a m N) (v := 0) (w := 0) (a := 0) H1.1.2.1 hj (fun e => by rw [e] at hs0; exact absurd hs0 (by decide))
  rw [hwr] at rwr
  refine wk_done (s1 := st1F s j A k) H1.1.1 kpf hoe hrel c2 cc (LC_st2 (Or.inl rfl) hl3) (fun X => ?_) h47
  rw [hrr X, r_w2 h.1.2.1 hj ha hm hk]
  show Rn g 157 197 [_, _, _, _, _, _, _, _, _, _, some (.inl (seF (ct1 t j A) j F a m N)), _] [] (ct1 t j A) X ↔ _
  rw [← hS, r_w3_no hs0, r_w4_ok H1.1.2.1 rwr, r_w5_no H1.1.2.1 hj hA2 (f := f) hfr hs0]
  exact h6 X
theorem kn1 (hk : ¬ knB F = 0) : knB F = 1 := by
  unfold knB at *
  split
  · rfl
  · rename_i z
    rw [if_neg z] at hk
    exact absurd rfl hk
theorem go_base2 (G : GO g s t nf B Q j A f k a m n F N w) : Rl g (tT (st1F s j A k) j f none (gI (st1F s j A k) 3 3 j + 1) (gI (st1F s j A k) 10 9 0 + 1)) (tchF (w5F (ct1 t j A) j) f) nf B Q := by
  obtain ⟨⟨hj, hst, hn, hd, hA2, hf1, ha, hm, hfr⟩, ⟨h, H1, hpr, hct, hoe⟩, hc, hrr⟩ := G
  refine tT_base H1 hj (fun z : gI t 22 j 0 = 0 => by rw [hst] at z; exact absurd z (by decide)) ?_
  rw [st1_sI]
  exact hd
theorem go_ro (G : GO g s t nf B Q j A f k a m n F N w) (hF : F = 80 ∨ F = 81 ∨ F = 82 ∨ F = 84 ∨ F = 86 ∨ F = 87 ∨ F = 122) : WK g s t nf B j n := by
  obtain ⟨c, x, d, e, ht, hq, _⟩ := go_RO G
  have hb := go_base2 G
  have hj := G.1.1
  have ha := G.1.2.2.2.2.2.2.1
  obtain ⟨s3, p1, p2⟩ := ef_ro (q := 0) (m := m) (N := N) hb hj ha hF
  have hs0 : stB F = 0 := by rcases hF with rfl | rfl | rfl | rfl | rfl | rfl | rfl <;> decide
  have hlt : F < 128 := by rcases hF with rfl | rfl | rfl | rfl | rfl | rfl | rfl <;> decide
  have hrg : rgP F := by rcases hF with rfl | rfl | rfl | rfl | rfl | rfl | rfl <;> simp [rgP]
  have hk : knB F = 1 := by rcases hF with rfl | rfl | rfl | rfl | rfl | rfl | rfl <;> decide
  have hwr : wroF (ct1 t j A) j F 0 = 0 := by rcases hF with rfl | rfl | rfl | rfl | rfl | rfl | rfl <;> simp [wroF]
  refine go_pl G ht hq hk hs0 hwr (by unfold pfG; rw [if_pos hlt]; exact p1) p2 (fun X => ?_) (reg_47.trans rfl)
  refine r_w6_reg hb.1.2.1 hlt (fun X => ?_)
  exact r_registers hb.1.2.1 hj ha hrg (fun z => by rw [hs0] at z; exact absurd z (by decide)) (fun _ => rfl)
theorem go_jo (G : GO g s t nf B Q j A f k a m n F N w) (hF : jmP F) : WK g s t nf B j n := by
  obtain ⟨c, x, d, e, ht, hq, _⟩ := go_RO G
  have hb := go_base2 G
  have hj := G.1.1
  have ha := G.1.2.2.2.2.2.2.1
  have hm := G.1.2.2.2.2.2.2.2.1
  obtain ⟨s3, p1, p2⟩ := ef_jo (N := N) hb hj ha hm hF
  have hs0 : stB F = 0 := by rcases hF with rfl | rfl | rfl | rfl | rfl | rfl | rfl | rfl | rfl | rfl | rfl | rfl | rfl | rfl <;> decide
  have hl1 : ¬ F < 128 := by rcases hF with rfl | rfl | rfl | rfl | rfl | rfl | rfl | rfl | rfl | rfl | rfl | rfl | rfl | rfl <;> decide
  have hl2 : F < 192 := by rcases hF with rfl | rfl | rfl | rfl | rfl | rfl | rfl | rfl | rfl | rfl | rfl | rfl | rfl | rfl <;> decide
  have hk : knB F = 1 := by rcases hF with rfl | rfl | rfl | rfl | rfl | rfl | rfl | rfl | rfl | rfl | rfl | rfl | rfl | rfl <;> decide
  have hwr : wroF (ct1 t j A) j F 0 = 0 := by rcases hF with rfl | rfl | rfl | rfl | rfl | rfl | rfl | rfl | rfl | rfl | rfl | rfl | rfl | rfl <;> simp [wroF]
  refine go_pl G ht hq hk hs0 hwr (by unfold pfG; rw [if_neg hl1, if_pos hl2]; exact p1) p2 (fun X => ?_) (jmp_47.trans rfl)
  exact r_w6_jmp hb.1.2.1 hl1 hl2 (fun X => r_jumps hb.1.2.1 hj ha hm hF)
theorem go_sh (G : GO g s t nf B Q j A f k a m n F N w) (hF : F = 244 ∨ F = 245) : WK g s t nf B j n := by
  obtain ⟨c, x, d, e, ht, hq, _⟩ := go_RO G
  have hb := go_base2 G
  have hj := G.1.1
  obtain ⟨s3, p1, p2⟩ := ef_sh (q := 0) (w := 0) hb hj hF
  have hs0 : stB F = 0 := by rcases hF with rfl | rfl <;> decide
  have hl1 : ¬ F < 128 := by rcases hF with rfl | rfl <;> decide
  have hl2 : ¬ F < 192 := by rcases hF with rfl | rfl <;> decide
  have hl3 : F < 256 := by rcases hF with rfl | rfl <;> decide
  have hl4 : F < 512 := by rcases hF with rfl | rfl <;> decide
  have hk : knB F = 1 := by rcases hF with rfl | rfl <;> decide
  have hsm : smP F := by rcases hF with rfl | rfl <;> simp [smP]
  have hwr : wroF (ct1 t j A) j F 0 = 0 := by rcases hF with rfl | rfl <;> simp [wroF]
  refine go_pl G ht hq hk hs0 hwr (by unfold pfG; rw [if_neg hl1, if_neg hl2, if_pos hl4]; exact p1) p2 (fun X => ?_) (sum_47.trans rfl)
  exact r_w6_sum hb.1.2.1 hl2 hl3 (fun X => r_sums hb.1.2.1 hj hsm (fun z => by rw [hs0] at z; exact absurd z (by decide)) (fun z => by rw [z] at hs0; exact absurd hs0 (by decide))) hl1
end Go2
