/-! the end of a job: both programs -/
section Clo3
variable {g : Nat → Nat → Nat} {s t : Sg} {X : Sg × Option Av} {nf B : Nat} {Q : List Nat}
theorem LC_cclF {o : Int32} {mv : Option Nat} {n i : Nat} (h : LC s nf) : LC (cclF o mv s i n) nf := by
  rw [cclF_eq]
  refine LC_cg h (fun c k e hc => ?_) (fun c k e hc => ?_) rfl
  · rw [tup_I, if_neg (by omega)]
  · unfold dyP at hc
    rw [tup_P, if_neg (by omega)]
theorem LC_dclF {o : Int32} {mp : Option Nat} {n i : Nat} (h : LC s nf) : LC (dclF o mp s i n) nf := by
  rw [dclF_eq]
  refine LC_cg h (fun c k e hc => ?_) (fun c k e hc => rfl) rfl
  rw [tup_I, if_neg (by omega)]
theorem LC_rlsF {o : Int32} {n i : Nat} (ho : ¬ o = -1) (h : LC s nf) : LC (rlsF o s i n) nf := by
  rw [rlsF_eq _ ho]
  refine LC_cg h (fun c k e hc => ?_) (fun c k e hc => ?_) rfl
  · rw [tup_I, if_neg (by omega)]
  · unfold dyP at hc
    rw [tup_P, if_neg (by omega)]
theorem LC_qfr {H : Nat → Option Nat} (h : LC s nf) : LC (qfr s H) nf := by
  refine LC_cg h (fun c k e hc => rfl) (fun c k e hc => ?_) rfl
  unfold dyP at hc
  show (if _ then _ else _) = _
  rw [if_neg (by omega)]
theorem c_close (h : LC s nf) (hw : WI s) {j o : Nat} {st : Int32} (hj : j < 4) (hQ : ∀ m f, Q[m]? = some f → gP s 14 m 0 = some f) (hq : QC s nf Q.length) (hm : ∀ f, gP s 1 3 0 = some f → f < nf) (hp : ∀ p, gP s 1 4 0 = some p → p < 64) (ho : OC s o) (ho4 : o < 4) : Rn g 116 0 [some (.inr (.inr (some (10, 0)))), some (.inr (.inr (some (3, j)))), some (.inl st)] [] s X ↔ X = (clsF s nf j st Q.length o, none) := by
  have hnj : ¬ nI j = -1 := nI_nm (by omega)
  have h0 : LC (sI (sI (sI s 3 1 j st) 3 8 j (gI s 10 8 0)) 3 5 j 0) nf := LC_sI (LC_sI (LC_sI h (by omega)) (by omega)) (by omega)
  have r1 := fun X => c_dropQueued (g := g) (X := X) (o := nI j) h0 (q := Q.length) hq
  obtain ⟨H, e1, e2⟩ := dq_eq (o := nI j) (s := sI (sI (sI s 3 1 j st) 3 8 j (gI s 10 8 0)) 3 5 j 0) (Q := Q) hQ
  obtain ⟨u1, hu1⟩ : ∃ u1, u1 = sI (dqF (nI j) 0 Q.length (sI (sI (sI s 3 1 j st) 3 8 j (gI s 10 8 0)) 3 5 j 0, 0)).1 1 2 0 (nI (dqF (nI j) 0 Q.length (sI (sI (sI s 3 1 j st) 3 8 j (gI s 10 8 0)) 3 5 j 0, 0)).2) := ⟨_, rfl⟩
  have h1 : LC u1 nf := by rw [hu1, e1]; exact LC_sI (LC_qfr h0) (by omega)
  have m1 : gP u1 1 3 0 = gP s 1 3 0 := by rw [hu1, e1]; rfl
  have m2 : gP u1 1 4 0 = gP s 1 4 0 := by rw [hu1, e1]; rfl
  have o1 : OC u1 o := by rw [hu1, e1]; exact ho
  have w1 : WI u1 := by rw [hu1, e1]; exact hw
  have r2 := fun X => c_coreClear (g := g) (X := X) (o := nI j) (mv := gP s 1 3 0) h1 hm
  obtain ⟨u2, hu2⟩ : ∃ u2, u2 = cclF (nI j) (gP s 1 3 0) u1 0 nf := ⟨_, rfl⟩
  have h2 : LC u2 nf := by rw [hu2]; exact LC_cclF h1
  have m3 : gP u2 1 4 0 = gP s 1 4 0 := by rw [hu2, cclF_eq]; exact m2
  have o2 : OC u2 o := by rw [hu2, cclF_eq]; exact o1
  have w2 : WI u2 := by rw [hu2, cclF_eq]; exact w1
  have r3 := fun X => c_drumClear (g := g) (X := X) (o := nI j) h2 m3 hp
  obtain ⟨u3, hu3⟩ : ∃ u3, u3 = dclF (nI j) (gP s 1 4 0) u2 0 64 := ⟨_, rfl⟩
  have h3 : LC u3 nf := by rw [hu3]; exact LC_dclF h2
  have o3 : OC u3 o := by rw [hu3, dclF_eq]; exact o2
  have w3 : WI u3 := by rw [hu3, dclF_eq]; exact w2
  have r4 := fun X => c_pagesRelease (g := g) (X := X) (o := nI j) h3 w3
  obtain ⟨u4, hu4⟩ : ∃ u4, u4 = rlsF (nI j) u3 0 64 := ⟨_, rfl⟩
  have h4 : LC u4 nf := by rw [hu4]; exact LC_rlsF hnj h3
  have o4 : OC u4 o := by rw [hu4, rlsF_eq _ hnj]; exact o3
  have r5 := fun X => c_add (g := g) (X := X) h4 o4 ho4 hj
  unfold clsF
  dsimp only
  rw [← hu1] at r1 ⊢
  rw [← hu2] at r2 ⊢
  rw [← hu3] at r3 ⊢
  rw [← hu4] at r4 ⊢
  clear hu1 hu2 hu3 hu4 e1 e2
  simp [Q116, MM, MK, h, h1, h2, h3, h4, hj, m1, r1, r2, r3, r4, r5]
theorem rl_qf (h : Rl g s t nf B Q) : Q.length ≤ nf ∧ nf ≤ 16 ∧ gI t 11 42 0 = nI Q.length ∧ QI t nf ∧ MI t nf ∧ QC s nf Q.length ∧ (∀ f, gP s 1 3 0 = some f → f < nf) ∧ (∀ p, gP s 1 4 0 = some p → p < 64) ∧ QW t (fun f => if gI t 42 f 0 = 3 then 1 else 0) Q ∧ (∀ m f, Q[m]? = some f → gP s 14 m 0 = some f) ∧ ∀ f, f ∈ Q → f < 16 := by
  obtain ⟨⟨l1, l2, l3⟩, ⟨j0, bb, ww, nn, hh⟩, ⟨ff1, pp, ll, ⟨m1, m2, m3⟩, ss, ⟨q1, q2, q3⟩⟩, ⟨rr, aa, xx, tt, uu, yy, cc, dd⟩, oo, kk⟩ := h
  unfold re_S SS at ss
  obtain ⟨h1, h2, h3, h4, h5, h6, h7, h8, h9, h10, h11, h12, h13, h14⟩ := ss
  have hl := nd_len nf Q h13 (fun f hf => (h12 f hf).1)
  have hnf : nf ≤ 16 := l1.1.2
  have hg : ∀ k, k < Q.length → ∃ f, f < nf ∧ Q[k]? = some f := fun k hk => ⟨Q[k], (h12 _ (List.getElem_mem hk)).1, List.getElem?_eq_getElem hk⟩
  have hmf : ∀ f, gP s 1 3 0 = some f → f < nf := fun f e => by
    obtain ⟨p, b1, b2, b3, b4⟩ := h10 f e
    exact b3
  refine ⟨hl, hnf, q2, ⟨Q.length, by omega, q2, fun k hk => ?_⟩, fun hc => ?_, ⟨q1, by omega, fun k hk => ?_⟩, hmf, fun p e => ?_, ⟨q2, fun i f e => (q3 i f e).2⟩, fun m f e => (q3 m f e).1, fun f hf => ?_⟩
  · obtain ⟨f, a, b⟩ := hg k hk
    exact ⟨f, a, (q3 k f b).2.1⟩
  · cases e : gP s 1 3 0 with
    | none => rw [m1, e] at hc; exact absurd (by decide) hc
    | some f => exact ⟨f, hmf f e, by rw [m1, e]; rfl⟩
  · obtain ⟨f, a, b⟩ := hg k hk
    exact ⟨f, a, (q3 k f b).1⟩
  · cases e2 : gP s 1 3 0 with
    | none => rw [h9 e2] at e; cases e
    | some f =>
      obtain ⟨p', b1, b2, b3, b4⟩ := h10 f e2
      rw [e] at b1
      cases b1
      exact b2
  · have := (h12 f hf).1
    omega
theorem rl_WI (h : Rl g s t nf B Q) : WI s := by
  intro k hk
  rw [h.2.2.2.1.2.2.1.1 k hk]
  by_cases q : k < cn s 16
  · rw [if_pos q]; exact Or.inr ⟨rfl, q⟩
  · rw [if_neg q]; exact Or.inl rfl
theorem rl_of (h : Rl g s t nf B Q) : ∃ o, gI t 11 19 0 = nI o ∧ o ≤ 4 ∧ OC s o := by
  obtain ⟨⟨l1, l2, l3⟩, ⟨j0, bb, ww, nn, hh⟩, ⟨ff1, pp, ll, mm, ss, qq⟩, ⟨rr, aa, xx, tt, uu, yy, cc, dd⟩, ⟨o, p1, p2, p3, p4, p5⟩, kk⟩ := h
  exact ⟨o, p2, p3, p1, p3, fun k hk => by obtain ⟨j, a, b, c⟩ := p4 k hk; exact ⟨j, a, b⟩⟩
theorem cl_109 {j o ql : Nat} {how n v : Int32} {H : Nat → Option Nat} : sI (clT s nf j how n o ql H) 10 9 0 v = clT (sI s 10 9 0 v) nf j how n o ql H := by
  refine Prod.ext ?_ (Prod.ext rfl (Prod.ext rfl rfl))
  funext c k e
  by_cases q : c = 10 ∧ k = 9 ∧ e = 0
  · obtain ⟨rfl, rfl, rfl⟩ := q
    rfl
  · have e1 : gI (sI s 10 9 0 v) c k e = gI s c k e := by rw [gI_sI, if_neg q]
    show (if c = 10 ∧ k = 9 ∧ e = 0 then v else (clT s nf j how n o ql H).1 c k e) = _
    rw [if_neg q]
    unfold clT
    dsimp only
    rw [e1]
    rfl
theorem en_33 {j o k : Nat} {how n v : Int32} {G : Nat → Nat → Nat → Int32} : sI (enT t nf j how n o Q G) 33 k 0 v = enT (sI t 33 k 0 v) nf j how n o Q G := by
  refine Prod.ext ?_ rfl
  funext c k' e
  by_cases q : c = 33 ∧ k' = k ∧ e = 0
  · obtain ⟨rfl, rfl, rfl⟩ := q
    show (if 33 = 33 ∧ k' = k' ∧ 0 = 0 then v else _) = (if 33 = 33 ∧ k' = k' ∧ 0 = 0 then v else _)
    rw [if_pos ⟨rfl, rfl, rfl⟩, if_pos ⟨rfl, rfl, rfl⟩]
  · have e1 : gI (sI t 33 k 0 v) c k' e = gI t c k' e := by rw [gI_sI, if_neg q]
    show (if c = 33 ∧ k' = k ∧ e = 0 then v else (enT t nf j how n o Q G).1 c k' e) = _
    rw [if_neg q]
    unfold enT
    dsimp only
    rw [e1]
    rfl
theorem rl_fq {j : Nat} (h : Rl g s t nf B Q) : Q.filter (fun f => !decide (gI s 2 2 f = nI j)) = Q.filter (fun f => !decide (gI t 43 f 0 = nI j)) := by
  refine List.filter_congr (fun f hf => ?_)
  obtain ⟨⟨l1, l2, l3⟩, j0, ⟨⟨f1, f2, f3⟩, pp, ll, mm, ss, qq⟩, r0⟩ := h
  unfold re_S SS at ss
  obtain ⟨h1, h2, h3, h4, h5, h6, h7, h8, h9, h10, h11, h12, h13, h14⟩ := ss
  rw [f2 f (h12 f hf).1]
theorem rl_end {j o : Nat} {how n : Int32} (h : Rl g s t nf B Q) (hj : j < 4) (hst : gI t 22 j 0 = 1) (hhow : how = 3 ∨ how = 4) (ho : gI t 11 19 0 = nI o) (ho4 : o < 4) (hn : gI s 10 8 0 = n) : ∃ Q', Rl g (clsF s nf j how Q.length o) (endF t nf j how n o Q.length) nf B Q' ∧ gI (endF t nf j how n o Q.length) 11 47 0 = gI t 11 47 0 ∧ (∀ k, gI (clsF s nf j how Q.length o) 10 k 0 = gI s 10 k 0) := by
  obtain ⟨a1, a2, a3, a4, a5, a6, a7, a8, a9, a10, a11⟩ := rl_qf h
  obtain ⟨H, e1, e2⟩ := cls_eq (nf := nf) (st := how) (o := o) hj a10
  obtain ⟨G, e3, e4⟩ := end_eq (nf := nf) (j := j) (o := o) (how := how) (n := n) (by omega) a11 a9
  rw [rl_fq h] at e1 e2
  rw [e1, e3, hn]
  exact ⟨_, rl_close (ql := 0) h hj hst hhow ho ho4 rfl e2 e4, rfl, fun _ => rfl⟩
/-- the end of a job by its last order: the instructions are counted before, or behind -/
theorem rl_end_i {j o : Nat} {how n v : Int32} (h : Rl g (sI s 10 9 0 v) (sI t 11 48 0 v) nf B Q) (hj : j < 4) (hst : gI t 22 j 0 = 1) (hhow : how = 3 ∨ how = 4) (ho : gI t 11 19 0 = nI o) (ho4 : o < 4) (hn : gI s 10 8 0 = n) : ∃ Q', Rl g (sI (clsF s nf j how Q.length o) 10 9 0 v) (endF (sI t 11 48 0 v) nf j how n o Q.length) nf B Q' ∧ gI (endF (sI t 11 48 0 v) nf j how n o Q.length) 11 47 0 = gI t 11 47 0 ∧ (∀ k, gI (clsF s nf j how Q.length o) 10 k 0 = gI s 10 k 0) ∧ gI (endF (sI t 11 48 0 v) nf j how n o Q.length) 11 48 0 = v := by
  obtain ⟨a1, a2, a3, a4, a5, a6, a7, a8, a9, a10, a11⟩ := rl_qf h
  obtain ⟨H, e1, e2⟩ := cls_eq (s := s) (nf := nf) (st := how) (o := o) hj a10
  obtain ⟨G, e3, e4⟩ := end_eq (nf := nf) (j := j) (o := o) (how := how) (n := n) (by omega) a11 a9
  have fq := rl_fq (j := j) h
  have fq' : Q.filter (fun f => !decide (gI s 2 2 f = nI j)) = Q.filter (fun f => !decide (gI (sI t 11 48 0 v) 43 f 0 = nI j)) := fq
  rw [fq'] at e1 e2
  rw [e1, e3, hn, cl_109]
  exact ⟨_, rl_close (ql := 0) h hj hst hhow ho ho4 rfl e2 e4, rfl, fun _ => rfl, rfl⟩
/-- the end of a job whose control is laid back before, or behind -/
theorem rl_end_c {j o : Nat} {how n v : Int32} (h : Rl g (sI s 15 127 j v) (sI t 33 (128 * j + 127) 0 v) nf B Q) (hj : j < 4) (hst : gI t 22 j 0 = 1) (hhow : how = 3 ∨ how = 4) (ho : gI t 11 19 0 = nI o) (ho4 : o < 4) (hn : gI s 10 8 0 = n) : ∃ Q', Rl g (clsF (sI s 15 127 j v) nf j how Q.length o) (sI (endF t nf j how n o Q.length) 33 (128 * j + 127) 0 v) nf B Q' ∧ gI (sI (endF t nf j how n o Q.length) 33 (128 * j + 127) 0 v) 11 47 0 = gI t 11 47 0 ∧ (∀ k, gI (clsF (sI s 15 127 j v) nf j how Q.length o) 10 k 0 = gI s 10 k 0) := by
  obtain ⟨a1, a2, a3, a4, a5, a6, a7, a8, a9, a10, a11⟩ := rl_qf h
  obtain ⟨H, e1, e2⟩ := cls_eq (nf := nf) (st := how) (o := o) hj a10
  obtain ⟨G, e3, e4⟩ := end_eq (t := t) (nf := nf) (j := j) (o := o) (how := how) (n := n) (by omega) a11 a9
  have hn' : gI (sI s 15 127 j v) 10 8 0 = n := hn
  rw [rl_fq h] at e1 e2
  rw [e1, e3, hn', en_33]
  exact ⟨_, rl_close (ql := 0) h hj hst hhow ho ho4 rfl e2 e4, rfl, fun _ => rfl⟩
end Clo3
