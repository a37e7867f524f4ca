/-! the end of a job keeps the relation -/
theorem SS_cg {nf : Nat} {pj pb : Nat → Int32} {pf pp : Nat → Option Nat} {fs fj fb : Nat → Int32} {fp : Nat → Option Nat} {lj lb : Nat → Int32} {mf mp : Option Nat} {lo : Int32} {Q : List Nat} {pj' pb' : Nat → Int32} {pf' pp' : Nat → Option Nat} {fs' fj' fb' : Nat → Int32} {fp' : Nat → Option Nat} {lj' lb' : Nat → Int32} (h : SS nf pj pb pf pp fs fj fb fp lj lb mf mp lo Q) (e1 : ∀ k, k < 64 → pj' k = pj k) (e2 : ∀ k, k < 64 → pb' k = pb k) (e3 : ∀ k, k < 64 → pf' k = pf k) (e4 : ∀ k, k < 64 → pp' k = pp k) (e5 : ∀ k, k < nf → fs' k = fs k) (e6 : ∀ k, k < nf → fj' k = fj k) (e7 : ∀ k, k < nf → fb' k = fb k) (e8 : ∀ k, k < nf → fp' k = fp k) (e9 : ∀ k, k < 64 → lj' k = lj k) (e10 : ∀ k, k < 64 → lb' k = lb k) : SS nf pj' pb' pf' pp' fs' fj' fb' fp' lj' lb' mf mp lo Q := by
  obtain ⟨h1, h2, h3, h4, h5, h6, h7, h8, h9, h10, h11, h12, h13, h14⟩ := h
  refine ⟨?_, ?_, ?_, ?_, ?_, ?_, ?_, ?_, ?_, ?_, ?_, ?_, ?_, ?_⟩
  all_goals first | assumption | grind | skip
section Clo2
variable {g : Nat → Nat → Nat} {s t : Sg} {X : Sg × Option Av} {nf B : Nat} {Q : List Nat}
theorem rl_o4 (h : Rl g s t nf B Q) {j o : Nat} (hj : j < 4) (hs : gI t 22 j 0 < 3) (ho : gI t 11 19 0 = nI o) (ho4 : o ≤ 4) : o < 4 := by
  obtain ⟨⟨l1, l2, l3⟩, ⟨⟨j1, j2, j3, j4, j5, j6, j7, j8⟩, bb, ww, nn, hh⟩, ⟨ff1, pp, ll, mm, ss, qq⟩, ⟨rr, aa, xx, tt, uu, yy, cc, dd⟩, oo, kk⟩ := h
  obtain ⟨o', p1, p2, p3, p4, p5⟩ := oo
  obtain rfl : o = o' := (nI_eq (by omega) (by omega)).mp (ho.symm.trans p2)
  refine Classical.byContradiction (fun hc => ?_)
  obtain ⟨a0, b0, c0, d0, e0⟩ := p4 0 (by omega)
  obtain ⟨a1, b1, c1, d1, e1⟩ := p4 1 (by omega)
  obtain ⟨a2, b2, c2, d2, e2⟩ := p4 2 (by omega)
  obtain ⟨a3, b3, c3, d3, e3⟩ := p4 3 (by omega)
  have n01 : ¬ a0 = a1 := fun q => absurd (p5 0 1 (by omega) (by omega) (by rw [d0, d1, q])) (by decide)
  have n02 : ¬ a0 = a2 := fun q => absurd (p5 0 2 (by omega) (by omega) (by rw [d0, d2, q])) (by decide)
  have n03 : ¬ a0 = a3 := fun q => absurd (p5 0 3 (by omega) (by omega) (by rw [d0, d3, q])) (by decide)
  have n12 : ¬ a1 = a2 := fun q => absurd (p5 1 2 (by omega) (by omega) (by rw [d1, d2, q])) (by decide)
  have n13 : ¬ a1 = a3 := fun q => absurd (p5 1 3 (by omega) (by omega) (by rw [d1, d3, q])) (by decide)
  have n23 : ¬ a2 = a3 := fun q => absurd (p5 2 3 (by omega) (by omega) (by rw [d2, d3, q])) (by decide)
  have m0 : ¬ a0 = j := fun q => e0 (by rw [q]; exact hs)
  have m1 : ¬ a1 = j := fun q => e1 (by rw [q]; exact hs)
  have m2 : ¬ a2 = j := fun q => e2 (by rw [q]; exact hs)
  have m3 : ¬ a3 = j := fun q => e3 (by rw [q]; exact hs)
  clear e0 e1 e2 e3 d0 d1 d2 d3 c0 c1 c2 c3
  omega
theorem rl_fail {j : Nat} {v : Int32} (h : Rl g s t nf B Q) : Rl g (sI s 3 2 j v) (sI t 23 j 0 v) nf B Q := by
  obtain ⟨⟨l1, l2, l3⟩, ⟨⟨j1, j2, j3, j4, j5, j6, j7, j8⟩, bb, ww, nn, hh⟩, ⟨ff1, pp, ll, mm, ss, qq⟩, ⟨rr, aa, xx, tt, uu, yy, cc, dd⟩, oo, kk⟩ := h
  exact ⟨⟨LC_sI l1 (by omega), LR_sI (by omega) l2, l3⟩, ⟨⟨j1, re_E_w j2, j3, j4, j5, j6, j7, j8⟩, bb, ww, nn, hh⟩, ⟨ff1, pp, ll, mm, ss, qq⟩, ⟨rr, aa, xx, tt, uu, yy, cc, dd⟩, oo, kk⟩
section Rd
variable {j o ql : Nat} {how n : Int32} {H : Nat → Option Nat} {G : Nat → Nat → Nat → Int32} {k : Nat}
theorem en_22 : gI (enT t nf j how n o Q G) 22 k 0 = if k = j then how else gI t 22 k 0 := by simp [enT, tup_I]
theorem en_29 : gI (enT t nf j how n o Q G) 29 k 0 = if k = j then n else gI t 29 k 0 := by simp [enT, tup_I]
theorem en_25 : gI (enT t nf j how n o Q G) 25 k 0 = if k = j then -1 else gI t 25 k 0 := by simp [enT, tup_I]
theorem en_37 : gI (enT t nf j how n o Q G) 37 k 0 = if k = o then nI j else gI t 37 k 0 := by simp [enT, tup_I]
theorem en_19 : gI (enT t nf j how n o Q G) 11 19 0 = nI (o + 1) := by simp [enT, tup_I]
theorem en_42 : gI (enT t nf j how n o Q G) 42 k 0 = if (k ∈ Q ∧ gI t 43 k 0 = nI j) ∨ (k < nf ∧ gI t 42 k 0 = 1 ∧ gI t 43 k 0 = nI j) then 0 else gI t 42 k 0 := by simp [enT, tup_I]
theorem en_49 : gI (enT t nf j how n o Q G) 49 k 0 = if k < 64 ∧ gI t 49 k 0 = nI j ∧ ¬ (¬ gI t 11 33 0 < 0 ∧ nI k = gI t 11 34 0) then -1 else gI t 49 k 0 := by simp [enT, tup_I]
theorem en_38 : gI (enT t nf j how n o Q G) 38 k 0 = if k < 64 ∧ gI t 38 k 0 = nI j then -1 else gI t 38 k 0 := by simp [enT, tup_I]
theorem en_36 : gI (enT t nf j how n o Q G) 11 36 0 = if itsP t j then 1 else gI t 11 36 0 := by simp [enT, tup_I]
theorem cl_31 : gI (clT s nf j how n o ql H) 3 1 k = if k = j then how else gI s 3 1 k := by simp [clT, tup_I]
theorem cl_38 : gI (clT s nf j how n o ql H) 3 8 k = if k = j then n else gI s 3 8 k := by simp [clT, tup_I]
theorem cl_35 : gI (clT s nf j how n o ql H) 3 5 k = if k = j then 0 else gI s 3 5 k := by simp [clT, tup_I]
theorem cl_21 : gI (clT s nf j how n o ql H) 2 1 k = if k < nf ∧ gI s 2 2 k = nI j ∧ ¬ some k = gP s 1 3 0 then 0 else gI s 2 1 k := by simp [clT, tup_I]
theorem cl_61 : gI (clT s nf j how n o ql H) 6 1 k = if k < 64 ∧ gI s 6 2 k = nI j ∧ ¬ some k = gP s 1 4 0 then 0 else gI s 6 1 k := by simp [clT, tup_I]
theorem cl_40 : gI (clT s nf j how n o ql H) 4 0 k = if k < 64 ∧ gI s 4 0 k = nI j then -1 else gI s 4 0 k := by simp [clT, tup_I]
theorem cl_73 : gI (clT s nf j how n o ql H) 7 3 0 = nI (o + 1) := by simp [clT, tup_I]
theorem cl_12 : gI (clT s nf j how n o ql H) 1 2 0 = nI ql := by simp [clT, tup_I]
theorem cl_14 : gP (clT s nf j how n o ql H) 14 k 0 = H k := by simp [clT, tup_P]
theorem cl_24 : gP (clT s nf j how n o ql H) 2 4 k = if k < nf ∧ gI s 2 2 k = nI j then none else gP s 2 4 k := by simp [clT, tup_P]
theorem cl_42 : gP (clT s nf j how n o ql H) 4 2 k = if k < 64 ∧ gI s 4 0 k = nI j then none else gP s 4 2 k := by simp [clT, tup_P]
theorem cl_43 : gP (clT s nf j how n o ql H) 4 3 k = if k < 64 ∧ gI s 4 0 k = nI j then none else gP s 4 3 k := by simp [clT, tup_P]
theorem cl_16 {e : Nat} : gJ (clT s nf j how n o ql H) 16 e k = if k < 64 ∧ e < 512 ∧ gI s 4 0 k = nI j ∧ ¬ gP s 4 4 k = none then 0 else gJ s 16 e k := by simp [clT, tup_J]
theorem cl_18 : gP (clT s nf j how n o ql H) 18 k 0 = if k = o then some j else gP s 18 k 0 := by simp [clT, tup_P]
end Rd
theorem rl_close {j o ql : Nat} {how n : Int32} {H : Nat → Option Nat} {G : Nat → Nat → Nat → Int32} {Q' : List Nat} (h : Rl g s t nf B Q) (hj : j < 4) (hst : gI t 22 j 0 = 1) (hhow : how = 3 ∨ how = 4) (ho : gI t 11 19 0 = nI o) (ho4 : o < 4) (hQ' : Q' = Q.filter (fun f => !decide (gI t 43 f 0 = nI j))) (hH : ∀ m f, Q'[m]? = some f → H m = some f) (hG : G 11 42 0 = nI Q'.length ∧ ∀ i f, Q'[i]? = some f → G 51 i 0 = nI f ∧ G 52 i 0 = (if gI t 42 f 0 = 3 then 1 else 0)) : Rl g (clT s nf j how n o Q'.length H) (enT t nf j how n o Q G) nf B Q' := by
  obtain ⟨⟨l1, l2, l3⟩, ⟨⟨j1, j2, j3, j4, j5, j6, j7, j8⟩, bb, ww, nn, hh⟩, ⟨⟨f1, f2, f3, f5, f6, f7, f8, fb⟩, ⟨pp0, pp1⟩, ll, ⟨m1, m2, m3⟩, ss, qq⟩, ⟨rr, aa, xx, tt, uu, yy, cc, dd⟩, oo, kk⟩ := h
  have hh3 : ¬ how < 3 := by rcases hhow with r | r <;> rw [r] <;> decide
  have hh2 : ¬ how = 2 := by rcases hhow with r | r <;> rw [r] <;> decide
  have hst3 : gI t 22 j 0 < 3 := by rw [hst]; decide
  have hnj : ¬ nI j = -1 := nI_nm (by omega)
  have hne : ∀ i, i < 4 → ¬ i = j → ¬ nI i = nI j := fun i hi q z => q ((nI_eq (by omega) (by omega)).mp z)
  have ssd := ss
  unfold re_S SS at ssd
  obtain ⟨h1, h2, h3, h4, h5, h6, h7, h8, h9, h10, h11, h12, h13, h14⟩ := ssd
  have hnf16 : nf ≤ 16 := l1.1.2
  -- a frame of the job
  have hmf : ∀ f, gP s 1 3 0 = some f → f < nf ∧ (gI t 42 f 0 = 2 ∨ gI t 42 f 0 = 3) ∧ ¬ f ∈ Q := fun f e => by
    obtain ⟨p, b1, b2, b3, b4, b5⟩ := h10 f e
    exact ⟨b3, b4, fun z => (h12 f z).2.2 e⟩
  have hmp : ∀ p, p < 64 → ((¬ gI t 11 33 0 < 0 ∧ nI p = gI t 11 34 0) ↔ some p = gP s 1 4 0) := fun p hp => by
    cases hm : gP s 1 3 0 with
    | none =>
      rw [m1, hm, h9 hm]
      exact ⟨fun z => absurd (by decide) z.1, fun z => by cases z⟩
    | some f =>
      obtain ⟨p', b1, b2, b3, b4, b5⟩ := h10 f hm
      rw [m1, hm, b1, m2 p' b1]
      exact ⟨fun z => by rw [(nI_eq (by omega) (by omega)).mp z.2], fun z => ⟨nI_pos (by omega), by cases z; rfl⟩⟩
  have hfs : ∀ f, f < nf → ((f ∈ Q ∧ gI t 43 f 0 = nI j) ∨ (f < nf ∧ gI t 42 f 0 = 1 ∧ gI t 43 f 0 = nI j) ↔ gI t 43 f 0 = nI j ∧ ¬ some f = gP s 1 3 0 ∧ ¬ gI t 42 f 0 = 0) := fun f hf => by
    have a1 := sn01
    have a2 := sn02
    have a3 := sn03
    have a4 := sn12
    have a5 := sn13
    have z1 := h11 f hf
    have z2 := h14 f hf
    have z3 := hmf f
    have z4 := h12 f
    grind
  refine ⟨⟨?_, ?_, l3⟩, ⟨⟨?_, j2, j3, j4, j5, j6, ?_, j8⟩, ?_, ?_, ?_, ?_⟩, ⟨⟨?_, f2, f3, f5, f6, f7, f8, fb⟩, ⟨?_, pp1⟩, ?_, ⟨m1, m2, ?_⟩, ?_, ?_⟩, ⟨rr, aa, ?_, tt, uu, yy, cc, dd⟩, ?_, kk⟩
  · exact LC_cg l1 (fun c k i hc => by rcases hc with ⟨rfl, rfl⟩ | ⟨rfl, rfl⟩ | ⟨rfl, rfl⟩ <;> rfl) (fun c k i hc => by
      unfold dyP at hc
      show (if _ then _ else if _ then _ else if _ then _ else if _ then _ else _) = _
      rw [if_neg (by omega), if_neg (by omega), if_neg (by omega), if_neg (by omega)]) rfl
  · exact LR_gh l2 rfl rfl
  · intro i hi
    rw [cl_31, en_22, j1 i hi]
  · intro i hi
    rw [cl_38, en_29, j7 i hi]
  · intro i hi
    rw [cl_35, en_22]
    by_cases q : i = j
    · rw [if_pos q, if_pos q]
      exact ⟨fun z => absurd z hh3, fun _ => rfl⟩
    · rw [if_neg q, if_neg q]
      exact bb i hi
  · intro i hi
    have e3 : gP (clT s nf j how n o Q'.length H) 3 11 i = gP s 3 11 i := rfl
    have e5 : ∀ k, gI (enT t nf j how n o Q G) 39 k 0 = gI t 39 k 0 := fun _ => rfl
    simp only [e3, en_22, en_25, en_38, e5]
    by_cases q : i = j
    · subst q
      rw [if_pos rfl, if_pos rfl]
      rcases ww i hi with b | ⟨k, b1, b2, b3, b4⟩
      · exact Or.inl ⟨b.1, rfl, hh2⟩
      · rw [hst] at b3
        exact absurd b3 (by decide)
    · rw [if_neg q, if_neg q]
      rcases ww i hi with b | ⟨k, b1, b2, b3, b4, b5⟩
      · exact Or.inl b
      · refine Or.inr ⟨k, b1, b2, b3, ?_, b5⟩
        rw [if_neg (fun z => hne i hi q (b4.symm.trans z.2))]
        exact b4
  · refine ⟨fun i hi => ?_, fun k hk => ?_⟩
    · rw [en_22]
      by_cases q : i = j
      · rw [if_pos q]
        rcases hhow with r | r
        · exact Or.inr (Or.inr (Or.inr (Or.inl r)))
        · exact Or.inr (Or.inr (Or.inr (Or.inr r)))
      · rw [if_neg q]
        exact nn.1 i hi
    · rw [en_38]
      by_cases q : gI t 38 k 0 = nI j
      · rw [if_pos ⟨hk, q⟩]
        exact Or.inl rfl
      · rw [if_neg (fun z => q z.2)]
        rcases nn.2 k hk with z | ⟨i, z1, z2, z3⟩
        · exact Or.inl z
        · refine Or.inr ⟨i, z1, z2, ?_⟩
          rw [en_22, if_neg (fun e => q (by rw [z2, e]))]
          exact z3
  · obtain ⟨a1, ⟨r, a2, a3⟩, a4⟩ := hh
    have en : ∀ i, i < 4 → ¬ i = j → nsl (enT t nf j how n o Q G) i = nsl t i := fun i hi q => by
      unfold nsl
      refine cf_cg (fun m _ hm => ?_)
      rw [en_38]
      by_cases z : gI t 38 m 0 = nI j
      · rw [if_pos ⟨by omega, z⟩, z]
        exact ⟨fun y => absurd y.symm (nI_nm (by omega)), fun y => absurd y.symm (hne i hi q)⟩
      · rw [if_neg (fun y => z y.2)]
    refine ⟨fun i hi => ?_, ⟨fun i => if i = j then 0 else r i, fun i hi => ?_, ?_⟩, fun i hi => ?_⟩
    · rw [en_22]
      by_cases q : i = j
      · rw [if_pos q]
        exact fun z => absurd z hh3
      · rw [if_neg q, en i hi q]
        exact a1 i hi
    · have e1 : resF (enT t nf j how n o Q G) i = if i = j then 0 else resF t i := by
        unfold resF
        rw [en_22]
        by_cases q : i = j
        · rw [if_pos q, if_pos q, if_neg (fun z => hh3 (by rw [z]; decide)), if_neg hh3]
        · rw [if_neg q, if_neg q]
          rfl
      rw [e1, en_22]
      dsimp only
      by_cases q : i = j
      · rw [if_pos q, if_pos q, if_pos q]
        exact ⟨rfl, fun z => absurd z hh3⟩
      · rw [if_neg q, if_neg q, if_neg q, en i hi q]
        exact a2 i hi
    · have c0 : (if 0 = j then 0 else r 0) ≤ r 0 := by split <;> omega
      have c1 : (if 1 = j then 0 else r 1) ≤ r 1 := by split <;> omega
      have c2 : (if 2 = j then 0 else r 2) ≤ r 2 := by split <;> omega
      have c3 : (if 3 = j then 0 else r 3) ≤ r 3 := by split <;> omega
      dsimp only
      omega
    · obtain ⟨d, l, y1, y2, y3, y4, y5⟩ := a4 i hi
      refine ⟨d, l, y1, y2, y3, y4, fun z => ?_⟩
      rw [en_22] at z
      by_cases q : i = j
      · rw [if_pos q] at z
        rcases hhow with r | r <;> rw [r] at z <;> exact absurd z (by decide)
      · rw [if_neg q] at z
        exact y5 z
  · intro f hf
    have e1 := f1 f hf
    have e2 := f2 f hf
    rw [cl_21, en_42, e1, e2]
    have := hfs f hf
    grind
  · intro k hk
    rw [cl_40, en_38, pp0 k hk]
  · intro p hp
    have e2 : gI (clT s nf j how n o Q'.length H) 6 2 p = gI s 6 2 p := rfl
    have e3 : gI (clT s nf j how n o Q'.length H) 6 3 p = gI s 6 3 p := rfl
    have e5 : gI (enT t nf j how n o Q G) 50 p 0 = gI t 50 p 0 := rfl
    rw [cl_61, en_49, e2, e3, e5]
    have z1 := ll p hp
    have z2 := hmp p hp
    grind
  · intro f e
    have e1 : gI (enT t nf j how n o Q G) 11 35 0 = gI t 11 35 0 := rfl
    have e2 : gI (enT t nf j how n o Q G) 11 37 0 = gI t 11 37 0 := rfl
    have e3 : gI (clT s nf j how n o Q'.length H) 1 5 0 = gI s 1 5 0 := rfl
    obtain ⟨y1, y2, y3⟩ := hmf f e
    rw [e1, e2, e3, en_42, if_neg (fun z => ((hfs f y1).mp z).2.1 e.symm)]
    exact m3 f e
  · have hits : itsP t j ↔ ∃ f, gP s 1 3 0 = some f ∧ gI t 11 36 0 = 0 ∧ gI t 43 f 0 = nI j := by
      unfold itsP
      rw [m1]
      cases hm : gP s 1 3 0 with
      | none => exact ⟨fun z => absurd (by decide) z.1, fun ⟨f, z, _⟩ => by cases z⟩
      | some f =>
        have := (hmf f hm).1
        rw [oi_s, nI_clamp (by omega)]
        exact ⟨fun z => ⟨f, rfl, z.2⟩, fun ⟨f', z1, z2⟩ => by cases z1; exact ⟨nI_pos (by omega), z2⟩⟩
    have key := SS_close (J := nI j) (lo' := if itsP t j then 1 else gI t 11 36 0) (Q' := Q') ss hnj
      (fun f e1 e2 => by
        by_cases z : itsP t j
        · rw [if_pos z]
        · rw [if_neg z]
          obtain ⟨p, b1, b2, b3, b4, b5, b6, b7⟩ := h10 f e1
          rcases b6 with b6 | b6
          · exact absurd (hits.mpr ⟨f, e1, b6, e2⟩) z
          · exact b6)
      (fun f e1 e2 => by
        rw [if_neg (fun z => ?_)]
        obtain ⟨f', z1, z2, z3⟩ := hits.mp z
        rw [e1] at z1
        cases z1
        exact e2 z3)
      (fun i => by rw [hQ']; simp)
      (by rw [hQ']; exact h13.filter _)
    unfold re_S
    rw [en_36]
    refine SS_cg key (fun k hk => ?_) (fun k hk => rfl) (fun k hk => ?_) (fun k hk => ?_) (fun f hf => ?_) (fun f hf => rfl) (fun f hf => rfl) (fun f hf => ?_) (fun p hp => ?_) (fun p hp => rfl)
    · rw [en_38]
      grind
    · rw [cl_42, pp0 k hk]
      grind
    · rw [cl_43, pp0 k hk]
      grind
    · rw [en_42]
      have := hfs f hf
      grind
    · rw [cl_24, f2 f hf]
      grind
    · rw [en_49]
      have := hmp p hp
      grind
  · refine ⟨cl_12, hG.1, fun i f e => ?_⟩
    have hm : f ∈ Q' := List.mem_of_getElem? e
    have hm2 : f ∈ Q ∧ ¬ gI t 43 f 0 = nI j := by rw [hQ'] at hm; simpa using hm
    obtain ⟨y1, y2⟩ := hG.2 i f e
    have e42 : gI (enT t nf j how n o Q G) 42 f 0 = gI t 42 f 0 := by
      rw [en_42, if_neg (fun z => hm2.2 (z.elim (fun z => z.2) (fun z => z.2.2)))]
    rw [cl_14, e42]
    exact ⟨hH i f e, y1, y2⟩
  · obtain ⟨x1, x2, x3, x4, x5⟩ := xx
    refine ⟨x1, fun k hk hc => ?_, fun k e hk he hc => ?_, x4, fun k e hk hk2 he hc => ?_⟩
    · rw [en_38, if_neg (fun z => hnj (z.2.symm.trans (x2 k hk hc)))]
      exact x2 k hk hc
    · rw [cl_16, if_neg (fun y => hc (by rw [en_38, if_pos ⟨hk, (pp0 k hk).symm.trans y.2.2.1⟩]))]
      refine x3 k e hk he (fun z => hc ?_)
      rw [en_38, if_neg (fun y => hnj (y.2.symm.trans z))]
      exact z
    · have hk2 : k < cn s 16 := hk2
      rw [cl_16]
      by_cases q : gI t 38 k 0 = nI j
      · rw [if_pos ⟨hk, he, (pp0 k hk).trans q, by rw [x1 k hk, if_pos hk2]; exact fun y => nomatch y⟩]
      · rw [if_neg (fun y => q ((pp0 k hk).symm.trans y.2.2.1))]
        rw [en_38, if_neg (fun y => q y.2)] at hc
        exact x5 k e hk hk2 he hc
  · obtain ⟨o', p1, p2, p3, p4, p5⟩ := oo
    obtain rfl : o = o' := (nI_eq (by omega) (by omega)).mp (ho.symm.trans p2)
    refine ⟨o + 1, cl_73, en_19, by omega, fun i hi => ?_, fun i i' hi hi' => ?_⟩
    · simp only [cl_18, en_37, en_22]
      by_cases q : i = o
      · refine ⟨j, hj, by rw [if_pos q], by rw [if_pos q], ?_⟩
        rw [if_pos rfl]
        exact hh3
      · obtain ⟨a, b1, b2, b3, b4⟩ := p4 i (by omega)
        refine ⟨a, b1, by rw [if_neg q]; exact b2, by rw [if_neg q]; exact b3, ?_⟩
        rw [if_neg (fun z => b4 (by rw [z]; exact hst3))]
        exact b4
    · rw [en_37, en_37]
      have key : ∀ i, i < o → ¬ gI t 37 i 0 = nI j := fun i hi z => by
        obtain ⟨a, b1, b2, b3, b4⟩ := p4 i hi
        have : a = j := (nI_eq (by omega) (by omega)).mp (b3.symm.trans z)
        exact b4 (by rw [this]; exact hst3)
      by_cases q : i = o
      · by_cases q' : i' = o
        · intro _; omega
        · rw [if_pos q, if_neg q']
          exact fun z => absurd z.symm (key i' (by omega))
      · by_cases q' : i' = o
        · rw [if_neg q, if_pos q']
          exact fun z => absurd z (key i (by omega))
        · rw [if_neg q, if_neg q']
          exact p5 i i' (by omega) (by omega)
end Clo2
