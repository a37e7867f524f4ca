/-! one instruction in both programs: how it may end -/
theorem sI_sI {s : Sg} {c k i : Nat} {v w : Int32} : sI (sI s c k i v) c k i w = sI s c k i w := by
  refine Prod.ext ?_ rfl
  funext a b d
  show (if a = c ∧ b = k ∧ d = i then w else if a = c ∧ b = k ∧ d = i then v else s.1 a b d) = (if a = c ∧ b = k ∧ d = i then w else s.1 a b d)
  by_cases q : a = c ∧ b = k ∧ d = i
  · rw [if_pos q, if_pos q]
  · rw [if_neg q, if_neg q, if_neg q]
theorem lk1_gI {t : Sg} {f c k i : Nat} (h : ¬ (c = 45 ∨ c = 46 ∨ c = 47)) : gI (lk1 t f) c k i = gI t c k i := by
  unfold lk1
  split
  · rw [gI_sI, if_neg (by omega)]
    split
    · rw [gI_sI, if_neg (by omega)]
      split
      · rw [gI_sI, if_neg (by omega)]
      · rfl
    · rw [gI_sI, if_neg (by omega)]
  · rfl
theorem lkF_gI {c k e : Nat} (h : ¬ (c = 45 ∨ c = 46 ∨ c = 47)) : ∀ n i (t : Sg), gI (lkF t i n) c k e = gI t c k e
  | 0, _, _ => rfl
  | n + 1, i, t => by rw [lkF, lkF_gI h n (i + 1), lk1_gI h]
/-- what an order of the processor does not touch -/
def kp (s s' : Sg) : Prop := (∀ k i, gI s' 10 k i = gI s 10 k i) ∧ (∀ i, gI s' 3 3 i = gI s 3 3 i) ∧ (∀ c i, (c = 2 ∨ c = 3 ∨ c = 6) → gI s' c 0 i = gI s c 0 i) ∧ s'.2.2 = s.2.2
section Wk1
variable {g : Nat → Nat → Nat} {s s' t : Sg} {X : Sg × Option Av} {nf B : Nat} {Q : List Nat} {j : Nat}
theorem kp_id : kp s s := ⟨fun _ _ => rfl, fun _ => rfl, fun _ _ _ => rfl, rfl⟩
theorem kp_t {u : Sg} (h1 : kp s s') (h2 : kp s' u) : kp s u := ⟨fun k i => (h2.1 k i).trans (h1.1 k i), fun i => (h2.2.1 i).trans (h1.2.1 i), fun c i hc => (h2.2.2.1 c i hc).trans (h1.2.2.1 c i hc), h2.2.2.2.trans h1.2.2.2⟩
theorem kp_sI {c k i : Nat} {v : Int32} (h : c = 15 ∨ c = 9 ∨ (c = 3 ∧ k = 7)) : kp s (sI s c k i v) := by
  refine ⟨fun k' i' => ?_, fun i' => ?_, fun c' i' hc => ?_, rfl⟩
  · rw [gI_sI, if_neg (by omega)]
  · rw [gI_sI, if_neg (by omega)]
  · rw [gI_sI, if_neg (by omega)]
theorem kp_sJ {c k i : Nat} {v : Int64} : kp s (sJ s c k i v) := ⟨fun _ _ => rfl, fun _ => rfl, fun _ _ _ => rfl, rfl⟩
theorem kp_sBF {i k : Nat} {v : Int64} : kp s (sBF s i k v) := by
  unfold sBF
  split
  · exact kp_id
  · exact kp_sI (Or.inl rfl)
theorem kp_LC (h : kp s s') (hl : LC s nf) : LC s' nf := by
  refine LC_cg hl (fun c k i hc => ?_) (fun c k i _ => ?_) ?_
  · rcases hc with ⟨rfl, rfl⟩ | ⟨rfl, rfl⟩ | ⟨rfl, rfl⟩
    · exact h.2.2.1 2 i (Or.inl rfl)
    · exact h.2.2.1 3 i (Or.inr (Or.inl rfl))
    · exact h.2.2.1 6 i (Or.inr (Or.inr rfl))
  · unfold gP; rw [h.2.2.2]
  · rw [h.2.2.2]
theorem kp_ro {F N : Int32} {a m : Nat} : kp s (roF s j F a m N).1 := by
  unfold roF
  dsimp only
  repeat' split
  all_goals first | exact kp_sBF | exact kp_sI (Or.inr (Or.inr ⟨rfl, rfl⟩)) | exact kp_id
theorem kp_rw {F : Int32} {a k e : Nat} : kp s (rwF s j F a k e).1 := by
  unfold rwF
  dsimp only
  repeat' split
  all_goals first | exact kp_sBF | exact kp_sI (Or.inr (Or.inr ⟨rfl, rfl⟩)) | exact kp_sJ | exact kp_id
theorem kp_aw {F : Int32} {k e : Nat} : kp s (awF s j F k e).1 := by
  unfold awF
  dsimp only
  repeat' split
  all_goals first | exact kp_sJ | exact kp_t kp_sJ kp_sJ | exact kp_id
theorem kp_cnt {a m : Nat} {N d : Int32} : kp s (cntF s j a m N d) := by
  unfold cntF
  split
  · exact kp_id
  · exact kp_t kp_sBF kp_sBF
theorem kp_if {P : Prop} [Decidable P] {a : Nat} {v : Int64} : kp s (if P then sBF s j a v else s) := by
  split
  · exact kp_sBF
  · exact kp_id
theorem kp_i {P : Prop} [Decidable P] {x y : Sg × Int32} (h1 : kp s x.1) (h2 : kp s y.1) : kp s (if P then x else y).1 := by
  split
  · exact h1
  · exact h2
theorem kp_jo {F N : Int32} {a m : Nat} : kp s (joF s j F a m N).1 :=
  kp_i kp_cnt (kp_i kp_cnt (kp_i kp_if (kp_i kp_if (kp_i kp_if (kp_i kp_if (kp_i kp_if (kp_i kp_if (kp_i kp_if (kp_i kp_if (kp_i kp_if (kp_i kp_if (kp_i kp_if (kp_i kp_if kp_id)))))))))))))
theorem kp_sh {F : Int32} : kp s (shG s j F).1 := by
  unfold shG
  repeat' split
  all_goals first | exact kp_sJ | exact kp_id
theorem kp_ex {F : Int32} {a c f d e : Nat} : kp s (exF s j F a c f d e).1 := by
  unfold exF
  repeat' split
  all_goals first | exact kp_id | exact kp_sBF | exact kp_t (kp_sI (Or.inr (Or.inl rfl))) (kp_t (kp_sI (Or.inr (Or.inl rfl))) kp_sJ) | exact kp_t kp_sJ (kp_sI (Or.inr (Or.inl rfl))) | exact kp_sJ
theorem kp_pf {F N : Int32} {a m c f d e : Nat} : kp s (pfG s j F a m N c f d e).1 := by
  unfold pfG
  repeat' split
  · exact kp_ro
  · exact kp_jo
  · exact kp_sh
  · exact kp_ex
/-- how one instruction ends -/
def WK (g : Nat → Nat → Nat) (s t : Sg) (nf B j : Nat) (n : Int32) : Prop := ∃ s1 out s' t1 r Q', (∀ X, Rn g 58 0 [some (.inr (.inr (some (8, 0)))), some (.inr (.inr (some (3, j)))), none, none, none] [] s X ↔ X = (s1, some (.inl out))) ∧ LC s1 nf ∧ (∀ X, Rn g 115 0 [some (.inr (.inr (some (10, 0)))), some (.inr (.inr (some (3, j)))), some (.inl out)] [] s1 X ↔ X = (s', none)) ∧ (∀ X, Rn g 157 0 [some (.inr (.inr (some (11, 0)))), some (.inl (nI j)), some (.inl n), none, none, none, none, none, none, none, none, none] [] t X ↔ X = (t1, some (.inl r))) ∧ (r = 0 ∨ r = 1) ∧ LR t1 nf ∧ Rl g s' (if r = 1 then (if gI t1 11 48 0 - gI t1 11 48 0 / 64 * 64 = 0 then lkF (sI t1 11 50 0 (gI t1 11 50 0 + 1)) 0 nf else t1) else t1) nf B Q' ∧ gI s' 10 8 0 = n ∧ gI t1 11 47 0 = gI t 11 47 0
variable {s1 t1 : Sg} {n num : Int32} {o : Nat}
theorem wk_fail (h1 : Rl g s1 t1 nf B Q) (hj : j < 4) (hst : gI t1 22 j 0 = 1) (hn : gI s1 10 8 0 = n) (ho : gI t1 11 19 0 = nI o) (ho4 : o < 4) (hnum : 0 < num) (hc : ∀ X, Rn g 58 0 [some (.inr (.inr (some (8, 0)))), some (.inr (.inr (some (3, j)))), none, none, none] [] s X ↔ X = (s1, some (.inl num))) (hr : ∀ X, Rn g 157 0 [some (.inr (.inr (some (11, 0)))), some (.inl (nI j)), some (.inl n), none, none, none, none, none, none, none, none, none] [] t X ↔ X = (faiF t1 nf j num n o Q.length, some (.inl 0))) (ht : gI t1 11 47 0 = gI t 11 47 0) : WK g s t nf B j n := by
  have h2 := rl_fail (j := j) (v := num) h1
  obtain ⟨a1, a2, a3, a4, a5, a6, a7, a8, a9, a10, a11⟩ := rl_qf h2
  obtain ⟨o', b1, b2, b3⟩ := rl_of h2
  obtain rfl : o = o' := (nI_eq (by omega) (by omega)).mp (ho.symm.trans b1)
  obtain ⟨Q', k1, k2, k3⟩ := rl_end (how := 4) (n := n) h2 hj hst (Or.inr rfl) ho ho4 hn
  have rc := fun X => c_close (g := g) (X := X) (st := 4) h2.1.1 (rl_WI h2) hj a10 a6 a7 a8 b3 ho4
  refine ⟨s1, num, _, _, 0, Q', hc, h1.1.1, fun X => c_settle_fail h1.1.1 hj hnum rc, hr, Or.inl rfl, k1.1.2.1, ?_, (k3 8).trans hn, k2.trans ht⟩
  rw [if_neg (by decide)]
  exact k1
/-- a block that is wanted and may not be had, at a stored order -/
theorem wk_fail_c (h1 : Rl g s1 t1 nf B Q) (hj : j < 4) {v : Int32} (hst : gI t1 22 j 0 = 1) (hn : gI s1 10 8 0 = n) (ho : gI t1 11 19 0 = nI o) (ho4 : o < 4) (hnum : 0 < num) (hc : ∀ X, Rn g 58 0 [some (.inr (.inr (some (8, 0)))), some (.inr (.inr (some (3, j)))), none, none, none] [] s X ↔ X = (sI s1 15 127 j v, some (.inl num))) (hr : ∀ X, Rn g 157 0 [some (.inr (.inr (some (11, 0)))), some (.inl (nI j)), some (.inl n), none, none, none, none, none, none, none, none, none] [] t X ↔ X = (sI (faiF t1 nf j num n o Q.length) 33 (128 * j + 127) 0 v, some (.inl 0))) (ht : gI t1 11 47 0 = gI t 11 47 0) : WK g s t nf B j n := by
  have h2 := rl_ctl (v := v) (rl_fail (j := j) (v := num) h1) hj
  obtain ⟨a1, a2, a3, a4, a5, a6, a7, a8, a9, a10, a11⟩ := rl_qf h2
  obtain ⟨o', b1, b2, b3⟩ := rl_of h2
  obtain rfl : o = o' := (nI_eq (by omega) (by omega)).mp (ho.symm.trans b1)
  obtain ⟨Q', k1, k2, k3⟩ := rl_end_c (how := 4) (n := n) h2 hj hst (Or.inr rfl) ho ho4 hn
  have h3 := rl_ctl (v := v) h1 hj
  have rc := fun X => c_close (g := g) (X := X) (st := 4) h2.1.1 (rl_WI h2) hj a10 a6 a7 a8 b3 ho4
  rw [sI_cm (c := 3) (k := 2) (c' := 15) (k' := 127) (by omega)] at rc k1 k3
  refine ⟨_, num, _, _, 0, Q', hc, h3.1.1, fun X => c_settle_fail h3.1.1 hj hnum rc, hr, Or.inl rfl, k1.1.2.1, ?_, (k3 8).trans hn, k2.trans ht⟩
  rw [if_neg (by decide)]
  exact k1
theorem wk_held (h1 : Rl g s1 t1 nf B Q) (hn : gI s1 10 8 0 = n) (hc : ∀ X, Rn g 58 0 [some (.inr (.inr (some (8, 0)))), some (.inr (.inr (some (3, j)))), none, none, none] [] s X ↔ X = (s1, some (.inl (-1)))) (hr : ∀ X, Rn g 157 0 [some (.inr (.inr (some (11, 0)))), some (.inl (nI j)), some (.inl n), none, none, none, none, none, none, none, none, none] [] t X ↔ X = (t1, some (.inl 0))) (ht : gI t1 11 47 0 = gI t 11 47 0) : WK g s t nf B j n := by
  refine ⟨_, _, _, _, 0, Q, hc, h1.1.1, fun X => c_settle_held h1.1.1, hr, Or.inl rfl, h1.1.2.1, ?_, hn, ht⟩
  rw [if_neg (by decide)]
  exact h1
/-- behind an order that was done: the class's memory -/
theorem st2_tT {f A : Nat} {oe : Option Nat} {u : Sg} (hu : kp s1 u) (hoe : gP s1 8 3 0 = oe) {x : Int32} (hx : x = 0 ∨ x = -2) : sI (st2F (u, x) j A f) 10 9 0 (gI (st2F (u, x) j A f) 10 9 0 + 1) = tT u j f oe (gI s1 3 3 j + 1) (gI s1 10 9 0 + 1) ∧ gI (st2F (u, x) j A f) 10 8 0 = gI s1 10 8 0 := by
  have e1 : gP u 8 3 0 = oe := by unfold gP; rw [hu.2.2.2]; exact hoe
  have e2 := hu.2.1 j
  have e3 := hu.1 9 0
  have e4 := hu.1 8 0
  unfold st2F
  rw [if_pos hx]
  dsimp only
  rw [e1, e2]
  unfold tT
  cases oe with
  | none =>
    refine ⟨?_, e4⟩
    show sI _ 10 9 0 (gI u 10 9 0 + 1) = _
    rw [e3]
  | some e =>
    refine ⟨?_, e4⟩
    show sI _ 10 9 0 (gI u 10 9 0 + 1) = _
    rw [e3]
theorem wk_done {f A : Nat} {oe : Option Nat} {u t3 : Sg} (hl1 : LC s1 nf) (hu : kp s1 u) (hoe : gP s1 8 3 0 = oe) (h1 : Rl g (tT u j f oe (gI s1 3 3 j + 1) (gI s1 10 9 0 + 1)) t3 nf B Q) (hn : gI s1 10 8 0 = n) (hc : ∀ X, Rn g 58 0 [some (.inr (.inr (some (8, 0)))), some (.inr (.inr (some (3, j)))), none, none, none] [] s X ↔ X = (st2F (u, 0) j A f, some (.inl 0))) (hl2 : LC (st2F (u, 0) j A f) nf) (hr : ∀ X, Rn g 157 0 [some (.inr (.inr (some (11, 0)))), some (.inl (nI j)), some (.inl n), none, none, none, none, none, none, none, none, none] [] t X ↔ X = (t3, some (.inl 1))) (ht : gI t3 11 47 0 = gI t 11 47 0) : WK g s t nf B j n := by
  obtain ⟨e1, e2⟩ := st2_tT (j := j) (f := f) (A := A) hu hoe (x := 0) (Or.inl rfl)
  rw [← e1] at h1
  have h2 := rl_ins h1
  refine ⟨_, _, _, _, 1, Q, hc, hl2, fun X => c_settle_done hl2, hr, Or.inr rfl, h1.1.2.1, ?_, ?_, ht⟩
  · rw [if_pos rfl]
    exact h2
  · rw [← hn, ← e2]
    unfold insF
    split
    · rw [gI_sI, if_neg (by decide), clk_gI (by decide)]
      rfl
    · rfl
end Wk1
