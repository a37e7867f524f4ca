/-! WHAT IS WHERE: pages, frames, places, the transfer under way, the queue, as plain functions -/
/-- pj, pb, pf, pp: a page's job, block, frame, place; fs, fj, fb, fp: a frame's state, job, block, page; lj, lb: a place's job and block; mf, mp, lo: the frame and place of the transfer, whether it is lost; Q: the queue -/
def SS (nf : Nat) (pj pb : Nat → Int32) (pf pp : Nat → Option Nat) (fs fj fb : Nat → Int32) (fp : Nat → Option Nat) (lj lb : Nat → Int32) (mf mp : Option Nat) (lo : Int32) (Q : List Nat) : Prop :=
  (∀ k k', k < 64 → k' < 64 → ¬ pj k = -1 → pj k' = pj k → pb k' = pb k → k' = k) ∧
  (∀ k f, k < 64 → pf k = some f → f < nf ∧ fp f = some k ∧ ¬ pj k = -1) ∧
  (∀ f k, f < nf → fp f = some k → k < 64 ∧ pf k = some f ∧ fj f = pj k ∧ fb f = pb k ∧ ¬ fs f = 0) ∧
  (∀ f, f < nf → ¬ fs f = 0 → fp f = none → mf = some f ∧ lo = 1) ∧
  (∀ f, mf = some f → lo = 1 → fp f = none) ∧
  (∀ k p, k < 64 → pp k = some p → p < 64 ∧ lj p = pj k ∧ lb p = pb k ∧ ¬ pj k = -1 ∧ ¬ (lo = 1 ∧ ¬ mf = none ∧ mp = some p)) ∧
  (∀ p, p < 64 → ¬ lj p = -1 → (∃ k, k < 64 ∧ pp k = some p) ∨ (¬ mf = none ∧ lo = 1 ∧ mp = some p)) ∧
  (∀ f k, f < nf → fp f = some k → (fs f = 1 ∨ (fs f = 3 ∧ ¬ mf = some f)) → pp k = none) ∧
  (mf = none → mp = none) ∧
  (∀ f, mf = some f → ∃ p, mp = some p ∧ p < 64 ∧ f < nf ∧ (fs f = 2 ∨ fs f = 3) ∧ ¬ lj p = -1 ∧ (lo = 0 ∨ lo = 1) ∧ ∀ k, fp f = some k → pp k = some p) ∧
  (∀ f, f < nf → fs f = 0 ∨ fs f = 1 ∨ fs f = 2 ∨ fs f = 3) ∧
  (∀ f, f ∈ Q → f < nf ∧ (fs f = 2 ∨ fs f = 3) ∧ ¬ mf = some f) ∧ Q.Nodup ∧
  (∀ f, f < nf → (fs f = 2 ∨ fs f = 3) → f ∈ Q ∨ mf = some f)
section Ss1
variable {nf : Nat} {pj pb : Nat → Int32} {pf pp : Nat → Option Nat} {fs fj fb : Nat → Int32} {fp : Nat → Option Nat} {lj lb : Nat → Int32} {mf mp : Option Nat} {lo : Int32} {Q Q' : List Nat}
theorem sn01 : ¬ (0 : Int32) = 1 := by decide
theorem sn02 : ¬ (0 : Int32) = 2 := by decide
theorem sn03 : ¬ (0 : Int32) = 3 := by decide
theorem sn12 : ¬ (1 : Int32) = 2 := by decide
theorem sn13 : ¬ (1 : Int32) = 3 := by decide
theorem sn23 : ¬ (2 : Int32) = 3 := by decide
/-- a frame takes a page that is nowhere else: at once in use -/
theorem SS_take1 {f k : Nat} (h : SS nf pj pb pf pp fs fj fb fp lj lb mf mp lo Q) (hf : f < nf) (h0 : fs f = 0) (hk : k < 64) (hj : ¬ pj k = -1) (hpf : pf k = none) (hpp : pp k = none) :
    SS nf pj pb (fun i => if i = k then some f else pf i) pp (fun i => if i = f then 1 else fs i) (fun i => if i = f then pj k else fj i) (fun i => if i = f then pb k else fb i) (fun i => if i = f then some k else fp i) lj lb mf mp lo Q := by
  have a1 := sn01
  have a2 := sn02
  have a3 := sn03
  have a4 := sn12
  have a5 := sn13
  obtain ⟨h1, h2, h3, h4, h5, h6, h7, h8, h9, h10, h11, h12, h13, h14⟩ := h
  refine ⟨?_, ?_, ?_, ?_, ?_, ?_, ?_, ?_, ?_, ?_, ?_, ?_, ?_, ?_⟩
  all_goals first | assumption | grind | skip
theorem SS_take2 {f k : Nat} (h : SS nf pj pb pf pp fs fj fb fp lj lb mf mp lo Q) (hf : f < nf) (h0 : fs f = 0) (hk : k < 64) (hj : ¬ pj k = -1) (hpf : pf k = none) (hpp : ¬ pp k = none) :
    SS nf pj pb (fun i => if i = k then some f else pf i) pp (fun i => if i = f then 2 else fs i) (fun i => if i = f then pj k else fj i) (fun i => if i = f then pb k else fb i) (fun i => if i = f then some k else fp i) lj lb mf mp lo (Q ++ [f]) := by
  have a1 := sn01
  have a2 := sn02
  have a3 := sn03
  have a4 := sn12
  have a5 := sn23
  obtain ⟨h1, h2, h3, h4, h5, h6, h7, h8, h9, h10, h11, h12, h13, h14⟩ := h
  refine ⟨?_, ?_, ?_, ?_, ?_, ?_, ?_, ?_, ?_, ?_, ?_, ?_, ?_, ?_⟩
  all_goals first | assumption | grind | skip
theorem SS_choose {f : Nat} (h : SS nf pj pb pf pp fs fj fb fp lj lb mf mp lo Q) (hf : f < nf) (h0 : fs f = 1) :
    SS nf pj pb pf pp (fun i => if i = f then 3 else fs i) fj fb fp lj lb mf mp lo (Q ++ [f]) := by
  have a1 := sn01
  have a2 := sn02
  have a3 := sn03
  have a4 := sn12
  have a5 := sn13
  have a6 := sn23
  obtain ⟨h1, h2, h3, h4, h5, h6, h7, h8, h9, h10, h11, h12, h13, h14⟩ := h
  refine ⟨?_, ?_, ?_, ?_, ?_, ?_, ?_, ?_, ?_, ?_, ?_, ?_, ?_, ?_⟩
  all_goals first | assumption | grind | skip
/-- a transfer begins -/
theorem SS_begin {f k p : Nat} (h : SS nf pj pb pf pp fs fj fb fp lj lb mf mp lo Q) (hm : mf = none) (hf : f ∈ Q) (hfp : fp f = some k) (hp : p < 64) (hc : (fs f = 3 ∧ lj p = -1) ∨ (fs f = 2 ∧ pp k = some p)) (hQ : ∀ i, i ∈ Q' ↔ i ∈ Q ∧ ¬ i = f) (hN : Q'.Nodup) :
    SS nf pj pb pf (fun i => if i = k then some p else pp i) fs fj fb fp (fun i => if i = p then pj k else lj i) (fun i => if i = p then pb k else lb i) (some f) (some p) 0 Q' := by
  have a1 := sn01
  have a2 := sn02
  have a3 := sn03
  have a4 := sn12
  have a5 := sn13
  have a6 := sn23
  obtain ⟨h1, h2, h3, h4, h5, h6, h7, h8, h9, h10, h11, h12, h13, h14⟩ := h
  refine ⟨?_, ?_, ?_, ?_, ?_, ?_, ?_, ?_, ?_, ?_, ?_, ?_, ?_, ?_⟩
  all_goals first | assumption | grind | skip
/-- a lost transfer ends -/
theorem SS_end1 {f p : Nat} (h : SS nf pj pb pf pp fs fj fb fp lj lb mf mp lo Q) (hm : mf = some f) (hp : mp = some p) (hl : lo = 1) :
    SS nf pj pb pf pp (fun i => if i = f then 0 else fs i) fj fb fp (fun i => if i = p then -1 else lj i) lb none none lo Q := by
  have a1 := sn01
  have a2 := sn02
  have a3 := sn03
  have a4 := sn12
  have a5 := sn13
  have a6 := sn23
  obtain ⟨h1, h2, h3, h4, h5, h6, h7, h8, h9, h10, h11, h12, h13, h14⟩ := h
  refine ⟨?_, ?_, ?_, ?_, ?_, ?_, ?_, ?_, ?_, ?_, ?_, ?_, ?_, ?_⟩
  all_goals first | assumption | grind | skip
/-- a page has gone -/
theorem SS_end2 {f k p : Nat} (h : SS nf pj pb pf pp fs fj fb fp lj lb mf mp lo Q) (hm : mf = some f) (hp : mp = some p) (hl : lo = 0) (hs : fs f = 3) (hk : fp f = some k) :
    SS nf pj pb (fun i => if i = k then none else pf i) pp (fun i => if i = f then 0 else fs i) fj fb (fun i => if i = f then none else fp i) lj lb none none lo Q := by
  have a1 := sn01
  have a2 := sn02
  have a3 := sn03
  have a4 := sn12
  have a5 := sn13
  have a6 := sn23
  obtain ⟨h1, h2, h3, h4, h5, h6, h7, h8, h9, h10, h11, h12, h13, h14⟩ := h
  refine ⟨?_, ?_, ?_, ?_, ?_, ?_, ?_, ?_, ?_, ?_, ?_, ?_, ?_, ?_⟩
  all_goals first | assumption | grind | skip
/-- a page has come -/
theorem SS_end3 {f k p : Nat} (h : SS nf pj pb pf pp fs fj fb fp lj lb mf mp lo Q) (hm : mf = some f) (hp : mp = some p) (hl : lo = 0) (hs : fs f = 2) (hk : fp f = some k) :
    SS nf pj pb pf (fun i => if i = k then none else pp i) (fun i => if i = f then 1 else fs i) fj fb fp (fun i => if i = p then -1 else lj i) lb none none lo Q := by
  have a1 := sn01
  have a2 := sn02
  have a3 := sn03
  have a4 := sn12
  have a5 := sn13
  have a6 := sn23
  obtain ⟨h1, h2, h3, h4, h5, h6, h7, h8, h9, h10, h11, h12, h13, h14⟩ := h
  obtain ⟨p2, b1, b2, b3, b4, b5, b6, b7⟩ := h10 f hm
  have b8 := b7 k hk
  have b9 : p2 = p := by rw [b1] at hp; exact Option.some.inj hp
  have b10 : ∀ q, q < 64 → ¬ lj q = -1 → ∃ k, k < 64 ∧ pp k = some q := fun q hq c => (h7 q hq c).elim id (fun z => absurd (hl.symm.trans z.2.1) sn01)
  refine ⟨?_, ?_, ?_, ?_, ?_, ?_, ?_, ?_, ?_, ?_, ?_, ?_, ?_, ?_⟩
  all_goals first | assumption | grind | skip
  · intro q hq c
    dsimp only at c ⊢
    have hne : ¬ q = p := fun e => c (by rw [if_pos e])
    rw [if_neg hne] at c
    obtain ⟨i, hi, e⟩ := b10 q hq c
    refine Or.inl ⟨i, hi, ?_⟩
    rw [if_neg (fun e2 => ?_)]
    · exact e
    · subst e2
      rw [b8] at e
      exact hne ((Option.some.inj e).symm.trans b9)
/-- a job is over -/
theorem SS_close {J : Int32} (h : SS nf pj pb pf pp fs fj fb fp lj lb mf mp lo Q) (hJ : ¬ J = -1) {lo' : Int32} (hl1 : ∀ f, mf = some f → fj f = J → lo' = 1) (hl2 : ∀ f, mf = some f → ¬ fj f = J → lo' = lo) (hQ : ∀ i, i ∈ Q' ↔ i ∈ Q ∧ ¬ fj i = J) (hN : Q'.Nodup) :
    SS nf (fun i => if pj i = J then -1 else pj i) pb (fun i => if pj i = J then none else pf i) (fun i => if pj i = J then none else pp i) (fun i => if fj i = J ∧ ¬ mf = some i then 0 else fs i) fj fb (fun i => if fj i = J then none else fp i) (fun i => if lj i = J ∧ ¬ mp = some i then -1 else lj i) lb mf mp lo' Q' := by
  have a1 := sn01
  have a2 := sn02
  have a3 := sn03
  have a4 := sn12
  have a5 := sn13
  have a6 := sn23
  obtain ⟨h1, h2, h3, h4, h5, h6, h7, h8, h9, h10, h11, h12, h13, h14⟩ := h
  have c1 : ∀ f p, mf = some f → mp = some p → ∀ k, k < 64 → pp k = some p → fj f = pj k ∧ lo = 0 := fun f p hm hp k hk e => by
    obtain ⟨p2, b1, b2, b3, b4, b5, b6, b7⟩ := h10 f hm
    obtain ⟨z1, z2, z3, z4, z5⟩ := h6 k p hk e
    have hl : lo = 0 := b6.elim id (fun q => absurd ⟨q, (by rw [hm]; exact fun z => (by cases z)), hp⟩ z5)
    refine ⟨?_, hl⟩
    cases hfp : fp f with
    | none => exact absurd (hl.symm.trans (h4 f b3 (by rcases b4 with b4 | b4 <;> rw [b4] <;> decide) hfp).2) sn01
    | some k' =>
      have e2 := b7 k' hfp
      obtain ⟨y1, y2, y3, y4, y5⟩ := h3 f k' b3 hfp
      have e3 : p2 = p := by rw [b1] at hp; exact Option.some.inj hp
      subst e3
      obtain ⟨w1, w2, w3, w4, w5⟩ := h6 k' p2 y1 e2
      have := h1 k k' hk y1 z4 (w2.symm.trans z2) (w3.symm.trans z3)
      rw [← this]
      exact y3
  refine ⟨?_, ?_, ?_, ?_, ?_, ?_, ?_, ?_, ?_, ?_, ?_, ?_, ?_, ?_⟩
  all_goals first | assumption | grind | skip
  · intro k p hk e
    dsimp only at e ⊢
    have hne : ¬ pj k = J := fun q => by rw [if_pos q] at e; cases e
    rw [if_neg hne] at e ⊢
    obtain ⟨z1, z2, z3, z4, z5⟩ := h6 k p hk e
    refine ⟨z1, ?_, z3, z4, ?_⟩
    · rw [if_neg (fun q => hne (z2 ▸ q.1))]
      exact z2
    · rintro ⟨y1, y2, y3⟩
      cases hm : mf with
      | none => exact y2 hm
      | some f =>
        obtain ⟨w1, w2⟩ := c1 f p hm y3 k hk e
        have := hl2 f hm (fun q => hne (w1 ▸ q))
        rw [this, w2] at y1
        exact sn01 y1
  · intro p hp c
    dsimp only at c ⊢
    have hc : ¬ (lj p = J ∧ ¬ mp = some p) := fun q => c (by rw [if_pos q])
    rw [if_neg hc] at c
    rcases h7 p hp c with ⟨k, hk, e⟩ | ⟨z1, z2, z3⟩
    · by_cases hne : pj k = J
      · obtain ⟨y1, y2, y3, y4, y5⟩ := h6 k p hk e
        have hmp : mp = some p := Classical.byContradiction (fun q => hc ⟨y2.trans hne, q⟩)
        cases hm : mf with
        | none => rw [h9 hm] at hmp; cases hmp
        | some f =>
          obtain ⟨w1, w2⟩ := c1 f p hm hmp k hk e
          exact Or.inr ⟨(fun z => by cases z), hl1 f hm (w1.trans hne), hmp⟩
      · exact Or.inl ⟨k, hk, by rw [if_neg hne]; exact e⟩
    · cases hm : mf with
      | none => exact absurd hm z1
      | some f =>
        refine Or.inr ⟨(fun z => by cases z), ?_, z3⟩
        by_cases q : fj f = J
        · exact hl1 f hm q
        · rw [hl2 f hm q]; exact z2
/-- a new page -/
theorem SS_new {J b : Int32} {a : Nat} (h : SS nf pj pb pf pp fs fj fb fp lj lb mf mp lo Q) (hJ : ¬ J = -1) (ha : a < 64) (h0 : pj a = -1) (hu : ∀ k, k < 64 → ¬ (pj k = J ∧ pb k = b)) :
    SS nf (fun i => if i = a then J else pj i) (fun i => if i = a then b else pb i) pf pp fs fj fb fp lj lb mf mp lo Q := by
  have a1 := sn01
  have a2 := sn02
  have a3 := sn03
  have a4 := sn12
  have a5 := sn13
  have a6 := sn23
  obtain ⟨h1, h2, h3, h4, h5, h6, h7, h8, h9, h10, h11, h12, h13, h14⟩ := h
  refine ⟨?_, ?_, ?_, ?_, ?_, ?_, ?_, ?_, ?_, ?_, ?_, ?_, ?_, ?_⟩
  all_goals first | assumption | grind | skip
/-- a page gets a place -/
theorem SS_place {k p : Nat} (h : SS nf pj pb pf pp fs fj fb fp lj lb mf mp lo Q) (hk : k < 64) (hj : ¬ pj k = -1) (hpf : pf k = none) (hpp : pp k = none) (hp : p < 64) (hl : lj p = -1) :
    SS nf pj pb pf (fun i => if i = k then some p else pp i) fs fj fb fp (fun i => if i = p then pj k else lj i) (fun i => if i = p then pb k else lb i) mf mp lo Q := by
  have a1 := sn01
  have a2 := sn02
  have a3 := sn03
  have a4 := sn12
  have a5 := sn13
  have a6 := sn23
  obtain ⟨h1, h2, h3, h4, h5, h6, h7, h8, h9, h10, h11, h12, h13, h14⟩ := h
  have c1 : ∀ i, i < 64 → ¬ pp i = some p := fun i hi e => by
    obtain ⟨z1, z2, z3, z4, z5⟩ := h6 i p hi e
    exact z4 (z2.symm.trans hl)
  have c2 : ¬ mp = some p := fun e => by
    cases hm : mf with
    | none => rw [h9 hm] at e; cases e
    | some f =>
      obtain ⟨p2, b1, b2, b3, b4, b5, b6, b7⟩ := h10 f hm
      rw [e] at b1
      cases b1
      exact b5 hl
  have c3 : ∀ f, f < nf → ¬ fp f = some k := fun f hf e => by
    have := (h3 f k hf e).2.1
    rw [hpf] at this
    cases this
  refine ⟨?_, ?_, ?_, ?_, ?_, ?_, ?_, ?_, ?_, ?_, ?_, ?_, ?_, ?_⟩
  all_goals first | assumption | grind | skip
  · intro q hq c
    dsimp only at c ⊢
    by_cases hne : q = p
    · exact Or.inl ⟨k, hk, by rw [if_pos rfl, hne]⟩
    · rw [if_neg hne] at c
      rcases h7 q hq c with ⟨i, hi, e⟩ | z
      · refine Or.inl ⟨i, hi, ?_⟩
        rw [if_neg (fun e2 => ?_)]
        · exact e
        · subst e2
          rw [hpp] at e
          cases e
      · exact Or.inr z
  · intro f hm
    obtain ⟨p2, b1, b2, b3, b4, b5, b6, b7⟩ := h10 f hm
    refine ⟨p2, b1, b2, b3, b4, ?_, b6, fun i hi => ?_⟩
    · dsimp only
      rw [if_neg (fun e => c2 (by rw [b1, e]))]
      exact b5
    · dsimp only
      rw [if_neg (fun e => c3 f b3 (by rw [hi, e]))]
      exact b7 i hi
end Ss1
