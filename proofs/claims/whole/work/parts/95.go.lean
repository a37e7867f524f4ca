/-! one instruction in both programs: from the decoding on -/
section Go1
variable {g : Nat → Nat → Nat} {s t : Sg} {X : Sg × Option Av} {nf B : Nat} {Q : List Nat} {j A f k a m : Nat} {n F N : Int32} {w : Int64}
/-- the reference's memory when the control is one further -/
def ct1 (t : Sg) (j A : Nat) : Sg := sI t 33 (128 * j + 127) 0 (hf ((nI A).toInt64 + 1))
def GO (g : Nat → Nat → Nat) (s t : Sg) (nf B : Nat) (Q : List Nat) (j A f k a m : Nat) (n F N : Int32) (w : Int64) : Prop :=
  (j < 4 ∧ gI t 22 j 0 = 1 ∧ gI s 10 8 0 = n ∧ gI s 3 3 j < gI s 3 4 j ∧ A < 1048576 ∧ f < nf ∧ a < 128 ∧ m < 128 ∧ frmF t nf (nI j) (nI (A / 512)) = some f) ∧
  (Rl g s t nf B Q ∧ Rl g (st1F s j A k) (ct1 t j A) nf B Q ∧ PR (st1F s j A k) j F a m N ∧ sI (ct1 t j A) 33 (128 * j + 127) 0 (nI A) = t ∧ gP (st1F s j A k) 8 3 0 = none) ∧
  (∀ Y : Sg × Int32, (∀ X, Rn g 61 0 [some (.inr (.inr (some (8, 0))))] [] (st1F s j A k) X ↔ X = (Y.1, some (.inl Y.2))) → LC Y.1 nf → (∀ e, gP Y.1 8 3 0 = some e → e < nf) → ∀ X, Rn g 58 0 [some (.inr (.inr (some (8, 0)))), some (.inr (.inr (some (3, j)))), none, none, none] [] s X ↔ X = (st2F Y j A f, some (.inl Y.2))) ∧
  (∀ X, Rn g 157 0 [some (.inr (.inr (some (11, 0)))), some (.inl (nI j)), some (.inl n), none, none, none, none, none, none, none, none, none] [] t X ↔ Rn g 157 116 [some (.inr (.inr (some (11, 0)))), some (.inl (nI j)), some (.inl n), some (.inl (nI A)), some (.inr (.inl w)), none, some (.inl F), some (.inl (nI a)), some (.inl (nI m)), some (.inl N), none, none] [] t X)
theorem st1_sI : st1F s j A k = sI (decF (st0 s j) (gJ s 16 (A % 512) k)) 15 127 j (hf (nI A + 1).toInt64) := by
  unfold st1F sBF
  rw [if_neg (by decide)]
theorem go_base (h : Rl g s t nf B Q) (hj : j < 4) (hst : gI t 22 j 0 = 1) (hn : gI s 10 8 0 = n) (hd : gI s 3 3 j < gI s 3 4 j) (hA : gI s 15 127 j = nI A) (hA2 : A < 1048576) (hho : hoF s nf (nI j) (nI (A / 512)) = some f) : ∃ k a m F N w, GO g s t nf B Q j A f k a m n F N w := by
  obtain ⟨hf1, hfr, h42, k, hk64, hsl, hgp, hw, hc, h38⟩ := lk_hit h hj hho
  obtain ⟨a, ha, ea⟩ := ra_k (gJ s 16 (A % 512) k)
  obtain ⟨m, hm, em⟩ := rm_k (gJ s 16 (A % 512) k)
  have e33 : gI t 33 (128 * j + 127) 0 = nI A := by rw [← h.2.2.2.1.1 j 127 hj (by omega)]; exact hA
  have hat : atF t (nI j) A = gJ s 16 (A % 512) k := by
    unfold atF
    rw [hsl]
    exact (h.2.2.2.1.2.2.1.2.2.1 k (A % 512) hk64 (by omega) h38).symm
  have hne : ¬ gI t 24 j 0 = gI t 26 j 0 := fun e => by
    have e3 := h.2.1.1.2.2.1 j hj
    have e4 := h.2.1.1.2.2.2.1 j hj
    rw [e3, e4, e, Int32.lt_iff_toInt_lt] at hd
    omega
  have H1 : Rl g (st1F s j A k) (ct1 t j A) nf B Q := by
    have h0 : Rl g (decF (st0 s j) (gJ s 16 (A % 512) k)) t nf B Q := rl_8I (rl_8I (rl_8I (rl_8I (rl_83 (rl_82 h)))))
    have h1 := rl_ctl (v := hf (nI A + 1).toInt64) h0 hj
    rw [st1_sI]
    unfold ct1
    rw [hf_add, show (1 : Int32).toInt64 = 1 by decide] at h1
    rw [hf_add, show (1 : Int32).toInt64 = 1 by decide]
    exact h1
  refine ⟨k, a, m, fnF (gJ s 16 (A % 512) k), hf (gJ s 16 (A % 512) k), gJ s 16 (A % 512) k, ⟨hj, hst, hn, hd, hA2, hf1, ha, hm, hfr⟩, ⟨h, H1, ⟨?_, ?_, ?_, ?_, ?_⟩, ?_, ?_⟩, fun Y hY hL hop X => c_step_go h.1.1 hj hd hA hA2 hho hgp hk64 hw hc Y hY hL hop, fun X => ?_⟩
  · rw [st1_sI]; rfl
  · rw [st1_sI]; rfl
  · rw [st1_sI, ← ea]; rfl
  · rw [st1_sI, ← em]; rfl
  · rw [st1_sI]; rfl
  · unfold ct1
    rw [sI_sI, sI_self e33]
  · rw [st1_sI]; rfl
  · have hwn : wanF t nf j (nI (A / 512)) n 0 0 0 = (t, 0) := by
      unfold wanF
      rw [hsl]
      show wn2 t nf j (nI (A / 512)) = _
      unfold wn2
      rw [hfr]
      show (if gI t 42 f 0 = 1 then _ else _) = _
      rw [if_pos h42]
    obtain ⟨a1, a2, a3, a4, a5, a6, a7, a8, a9, a10, a11⟩ := rl_qf h
    obtain ⟨o, b1, b2, b3⟩ := rl_of h
    have ho4 := rl_o4 h hj (by rw [hst]; decide) b1 b2
    have hwn2 : wanF t nf j (nI (A / 512)) n o Q.length 0 = (t, 0) := by
      unfold wanF
      rw [hsl]
      show wn2 t nf j (nI (A / 512)) = _
      unfold wn2
      rw [hfr]
      show (if gI t 42 f 0 = 1 then _ else _) = _
      rw [if_pos h42]
    have rwn := fun X => r_wants (g := g) (X := X) (n := n) (s := 0) h.1.2.1 hj hA2 b1 ho4 a3 (by omega) a4 a5 (fun z => by rw [hsl] at z; cases z)
    rw [hwn2] at rwn
    rw [r_w0_hit h.1.2.1 hj hne e33 hA2 rwn, r_w1 h.1.2.1 hA2 hat, ea, em]
theorem st2_no {u : Sg × Int32} (h : ¬ (u.2 = 0 ∨ u.2 = -2)) (hA : A < 1048576) : st2F u j A f = sI u.1 15 127 j (nI A) := by
  unfold st2F sBF
  rw [if_neg h, if_neg (by decide), hf_nI hA]
theorem LC_st2 {u : Sg} {x : Int32} (hx : x = 0 ∨ x = -2) (h : LC u nf) : LC (st2F (u, x) j A f) nf := by
  unfold st2F
  rw [if_pos hx]
  dsimp only
  split
  · exact LC_sI (LC_sI (LC_sI h (by omega)) (by omega)) (by omega)
  · exact LC_sI (LC_sI (LC_sI (LC_sI (LC_sI h (by omega)) (by omega)) (by omega)) (by omega)) (by omega)
/-- an order that fails with the control laid back -/
theorem go_fail (G : GO g s t nf B Q j A f k a m n F N w) {num : Int32} {o : Nat} {u : Sg} (hu : Rl g (sI u 15 127 j (nI A)) t nf B Q) (hnu : gI u 10 8 0 = n) (hop : ∀ e, gP u 8 3 0 = some e → e < nf) (hnum : 0 < num) (ho : gI t 11 19 0 = nI o) (ho4 : o < 4) (hY : ∀ X, Rn g 61 0 [some (.inr (.inr (some (8, 0))))] [] (st1F s j A k) X ↔ X = (u, some (.inl num))) (hlu : LC u nf) (hr : ∀ X, Rn g 157 116 [some (.inr (.inr (some (11, 0)))), some (.inl (nI j)), some (.inl n), some (.inl (nI A)), some (.inr (.inl w)), none, some (.inl F), some (.inl (nI a)), some (.inl (nI m)), some (.inl N), none, none] [] t X ↔ X = (faiF t nf j num n o Q.length, some (.inl 0))) : WK g s t nf B j n := by
  obtain ⟨⟨hj, hst, hn, hd, hA2, hf1, ha, hm, hfr⟩, ⟨h, H1, hp, hct, hoe⟩, hc, hrr⟩ := G
  have hne : ¬ (num = 0 ∨ num = -2) := fun z => by rcases z with z | z <;> rw [z] at hnum <;> exact absurd hnum (by decide)
  have c1 := hc (u, num) hY hlu hop
  rw [st2_no hne hA2] at c1
  exact wk_fail hu hj hst hnu ho ho4 hnum c1 (fun X => (hrr X).trans (hr X)) rfl
theorem go_ctl (G : GO g s t nf B Q j A f k a m n F N w) : Rl g (sI (st1F s j A k) 15 127 j (nI A)) t nf B Q ∧ gI (st1F s j A k) 10 8 0 = n := by
  obtain ⟨⟨hj, hst, hn, hd, hA2, hf1, ha, hm, hfr⟩, ⟨h, H1, hp, hct, hoe⟩, hc, hrr⟩ := G
  have := rl_ctl (v := nI A) H1 hj
  rw [hct] at this
  refine ⟨this, ?_⟩
  rw [st1_sI]
  exact hn
theorem go_o (G : GO g s t nf B Q j A f k a m n F N w) : ∃ o, gI t 11 19 0 = nI o ∧ o < 4 := by
  obtain ⟨⟨hj, hst, hn, hd, hA2, hf1, ha, hm, hfr⟩, ⟨h, H1, hp, hct, hoe⟩, hc, hrr⟩ := G
  obtain ⟨o, b1, b2, b3⟩ := rl_of h
  exact ⟨o, b1, rl_o4 h hj (by rw [hst]; decide) b1 b2⟩
theorem go_RO (G : GO g s t nf B Q j A f k a m n F N w) : ∃ c x d e, RO (st1F s j A k) (3 + 2 * j) c x ∧ RO (st1F s j A k) (4 + 2 * j) d e ∧ gI (ct1 t j A) 30 j 0 = nI c ∧ gI (ct1 t j A) 31 j 0 = nI d := by
  obtain ⟨⟨hj, hst, hn, hd, hA2, hf1, ha, hm, hfr⟩, ⟨h, H1, hp, hct, hoe⟩, hc, hrr⟩ := G
  obtain ⟨c, x, t1, t2, t3⟩ := H1.2.2.2.1.2.2.2.1 j hj
  obtain ⟨d, e, p, u1, u2, u3⟩ := H1.2.2.2.1.2.2.2.2.1 j hj
  exact ⟨c, x, d, e, t1, u1, t2, u2⟩
theorem go_unknown (G : GO g s t nf B Q j A f k a m n F N w) (hk : knB F = 0) : WK g s t nf B j n := by
  obtain ⟨o, ho, ho4⟩ := go_o G
  obtain ⟨c, x, d, e, ht, hq, _⟩ := go_RO G
  obtain ⟨c1, c2⟩ := go_ctl G
  have G' := G
  obtain ⟨⟨hj, hst, hn, hd, hA2, hf1, ha, hm, hfr⟩, ⟨h, H1, hp, hct, hoe⟩, hc, hrr⟩ := G
  obtain ⟨p1, p2⟩ := pf_no (s := st1F s j A k) (j := j) (N := N) (a := a) (m := m) (c := c) (x := x) (d := d) (e := e) hk
  have hY := fun X => c_perform_0 (g := g) (X := X) H1.1.1 hp hj ha hm ht hq p2
  rw [p1] at hY
  obtain ⟨a1, a2, a3, a4, a5, a6, a7, a8, a9, a10, a11⟩ := rl_qf h
  have rf := fun X => r_fails (g := g) (X := X) (num := 1) (n := n) h.1.2.1 hj ho ho4 a3 (by omega) a4 a5
  exact go_fail G' c1 c2 (fun e he => by rw [hoe] at he; cases he) (show (0 : Int32) < 1 by decide) ho ho4 hY H1.1.1 (fun X => r_w1_no h.1.2.1 hk rf)
end Go1
