/-! the end of a transfer keeps the relation -/
section Dru2
variable {g : Nat → Nat → Nat} {s t u : Sg} {X : Sg × Option Av} {nf B : Nat} {Q : List Nat} {n : Int32}
theorem rl_reads {v : Int32} (h : Rl g s t nf B Q) : Rl g (sI s 1 6 0 v) (sI t 11 38 0 v) nf B Q := by
  obtain ⟨⟨l1, l2, l3⟩, ⟨j0, bb, ww, nn, hh⟩, ⟨ff1, pp, ll, mm, ss, qq⟩, ⟨rr, aa, xx, tt, uu, yy, cc, dd⟩, oo, ⟨k1, k2, k3, k4, k5⟩⟩ := h
  exact ⟨⟨LC_sI l1 (by omega), LR_sI (by omega) l2, l3⟩, ⟨j0, bb, ww, nn, hh⟩, ⟨ff1, pp, ll, mm, ss, qq⟩, ⟨rr, aa, xx, tt, uu, yy, cc, dd⟩, oo, ⟨k1, k2, k3, rfl, k5⟩⟩
theorem rl_writes {v : Int32} (h : Rl g s t nf B Q) : Rl g (sI s 1 7 0 v) (sI t 11 39 0 v) nf B Q := by
  obtain ⟨⟨l1, l2, l3⟩, ⟨j0, bb, ww, nn, hh⟩, ⟨ff1, pp, ll, mm, ss, qq⟩, ⟨rr, aa, xx, tt, uu, yy, cc, dd⟩, oo, ⟨k1, k2, k3, k4, k5⟩⟩ := h
  exact ⟨⟨LC_sI l1 (by omega), LR_sI (by omega) l2, l3⟩, ⟨j0, bb, ww, nn, hh⟩, ⟨ff1, pp, ll, mm, ss, qq⟩, ⟨rr, aa, xx, tt, uu, yy, cc, dd⟩, oo, ⟨k1, k2, k3, k4, rfl⟩⟩
/-- the queue stays when a frame that is not in it changes -/
theorem rq_out {t' : Sg} {f : Nat} {v : Int32} (hq : re_Q s t Q) (hf : ∀ x, x ∈ Q → ¬ x = f) (e1 : ∀ x, gI t' 42 x 0 = if x = f then v else gI t 42 x 0) (e2 : ∀ i, gI t' 51 i 0 = gI t 51 i 0) (e3 : ∀ i, gI t' 52 i 0 = gI t 52 i 0) (e4 : gI t' 11 42 0 = gI t 11 42 0) : re_Q s t' Q := by
  obtain ⟨q1, q2, q3⟩ := hq
  refine ⟨q1, e4.trans q2, fun i x e => ?_⟩
  have := q3 i x e
  rw [e1, e2, e3, if_neg (hf x (List.mem_of_getElem? e))]
  exact this
/-- a lost transfer ends -/
theorem rl_etA {f p : Nat} (h : Rl g s t nf B Q) (hm : gP s 1 3 0 = some f) (hp : gP s 1 4 0 = some p) (hl : gI t 11 36 0 = 1) : Rl g (sP (sI (sI (sP (sP s 1 3 0 none) 1 4 0 none) 6 1 p 0) 2 1 f 0) 2 4 f none) (sI (sI (sI t 42 f 0 0) 49 p 0 (-1)) 11 33 0 (-1)) nf B Q := by
  obtain ⟨⟨l1, l2, l3⟩, ⟨j0, bb, ww, nn, hh⟩, ⟨⟨f1, f2, f3, f5, f6, f7, f8, fb⟩, pp, ll, mm, ss, qq⟩, ⟨rr, aa, xx, tt, uu, yy, cc, dd⟩, oo, kk⟩ := h
  obtain ⟨h1, h2, h3, h4, h5, h6, h7, h8, h9, h10, h11, h12, h13, h14⟩ := ss_d ss
  have hfQ : ∀ x, x ∈ Q → ¬ x = f := fun x hx e => (h12 x hx).2.2 (by rw [e]; exact hm)
  have e42 : ∀ x, gI (sI (sI (sI t 42 f 0 0) 49 p 0 (-1)) 11 33 0 (-1)) 42 x 0 = if x = f then 0 else gI t 42 x 0 := fun x => by simp [MM]
  have e49 : ∀ x, gI (sI (sI (sI t 42 f 0 0) 49 p 0 (-1)) 11 33 0 (-1)) 49 x 0 = if x = p then -1 else gI t 49 x 0 := fun x => by simp [MM]
  have e61 : ∀ x, gI (sP (sI (sI (sP (sP s 1 3 0 none) 1 4 0 none) 6 1 p 0) 2 1 f 0) 2 4 f none) 6 1 x = if x = p then 0 else gI s 6 1 x := fun x => by simp [MM]
  have hfp := h5 f hm hl
  refine ⟨⟨LC_sP (LC_sI (LC_sI (LC_sP (LC_sP l1 (by unfold dyP; omega)) (by unfold dyP; omega)) (by omega)) (by omega)) (by unfold dyP; omega), LR_sI (by omega) (LR_sI (by omega) (LR_sI (by omega) l2)), l3⟩, ⟨j0, bb, ww, nn, hh⟩, ⟨⟨re_E_w (j := f) (v := 0) f1, f2, f3, f5, f6, f7, f8, fb⟩, pp, fun q hq => ?_, ⟨rfl, (fun q e => by cases e), (fun x e => by cases e)⟩, ?_, rq_out qq hfQ e42 (fun _ => rfl) (fun _ => rfl) rfl⟩, ⟨rr, aa, xx, tt, uu, yy, cc, dd⟩, oo, kk⟩
  · have := ll q hq
    rw [e49, e61]
    by_cases c : q = p
    · rw [if_pos c, if_pos c]
      exact ⟨⟨fun _ => rfl, fun _ => rfl⟩, fun z => absurd rfl z⟩
    · rw [if_neg c, if_neg c]
      exact this
  · have key := SS_end1 ss hm hp hl
    unfold re_S
    refine SS_cg key (fun k hk => rfl) (fun k hk => rfl) (fun k hk => rfl) (fun k hk => rfl) (fun x hx => e42 x) (fun x hx => rfl) (fun x hx => rfl) (fun x hx => ?_) (fun q hq => e49 q) (fun q hq => rfl)
    rw [gP_sP]
    split
    · rename_i z
      rw [z.2.2, hfp]
    · rfl
/-- a page has gone to its place -/
theorem rl_etC {f p k : Nat} (h : Rl g s t nf B Q) (hm : gP s 1 3 0 = some f) (hp : gP s 1 4 0 = some p) (hl : gI t 11 36 0 = 0) (hs : gI t 42 f 0 = 3) (hk : gP s 2 4 f = some k) : Rl g (sP (sP (sI (sI (sP (sP s 1 3 0 none) 1 4 0 none) 6 1 p 1) 2 1 f 0) 2 4 f none) 4 2 k none) (sI (sI t 42 f 0 0) 11 33 0 (-1)) nf B Q := by
  obtain ⟨⟨l1, l2, l3⟩, ⟨j0, bb, ww, nn, hh⟩, ⟨⟨f1, f2, f3, f5, f6, f7, f8, fb⟩, pp, ll, mm, ss, qq⟩, ⟨rr, aa, xx, tt, uu, yy, cc, dd⟩, oo, kk⟩ := h
  obtain ⟨h1, h2, h3, h4, h5, h6, h7, h8, h9, h10, h11, h12, h13, h14⟩ := ss_d ss
  have hfQ : ∀ x, x ∈ Q → ¬ x = f := fun x hx e => (h12 x hx).2.2 (by rw [e]; exact hm)
  obtain ⟨p', b1, b2, b3, b4, b5, b6, b7⟩ := h10 f hm
  rw [hp] at b1
  cases b1
  have e42 : ∀ x, gI (sI (sI t 42 f 0 0) 11 33 0 (-1)) 42 x 0 = if x = f then 0 else gI t 42 x 0 := fun x => by simp [MM]
  have e61 : ∀ x, gI (sP (sP (sI (sI (sP (sP s 1 3 0 none) 1 4 0 none) 6 1 p 1) 2 1 f 0) 2 4 f none) 4 2 k none) 6 1 x = if x = p then 1 else gI s 6 1 x := fun x => by simp [MM]
  refine ⟨⟨LC_sP (LC_sP (LC_sI (LC_sI (LC_sP (LC_sP l1 (by unfold dyP; omega)) (by unfold dyP; omega)) (by omega)) (by omega)) (by unfold dyP; omega)) (by unfold dyP; omega), LR_sI (by omega) (LR_sI (by omega) l2), l3⟩, ⟨j0, bb, ww, nn, hh⟩, ⟨⟨re_E_w (j := f) (v := 0) f1, f2, f3, f5, f6, f7, f8, fb⟩, pp, fun q hq => ?_, ⟨rfl, (fun q e => by cases e), (fun x e => by cases e)⟩, ?_, rq_out qq hfQ e42 (fun _ => rfl) (fun _ => rfl) rfl⟩, ⟨rr, aa, xx, tt, uu, yy, cc, dd⟩, oo, kk⟩
  · have := ll q hq
    rw [e61]
    by_cases c : q = p
    · rw [if_pos c]
      refine ⟨⟨fun z => absurd z (by decide), fun z => absurd z (by rw [c]; exact b5)⟩, this.2⟩
    · rw [if_neg c]
      exact this
  · have key := SS_end2 ss hm hp hl hs hk
    unfold re_S
    refine SS_cg key (fun k hk => rfl) (fun k hk => rfl) (fun x hx => ?_) (fun k hk => rfl) (fun x hx => e42 x) (fun x hx => rfl) (fun x hx => rfl) (fun x hx => ?_) (fun q hq => rfl) (fun q hq => rfl)
    · rw [gP_sP]
      simp only [true_and]
      rfl
    · show (if 2 = 2 ∧ 4 = 4 ∧ x = f then none else _) = _
      simp only [true_and]
      rfl
/-- a page has come -/
theorem rl_etD {f p k : Nat} (h : Rl g s t nf B Q) (hm : gP s 1 3 0 = some f) (hp : gP s 1 4 0 = some p) (hl : gI t 11 36 0 = 0) (hs : gI t 42 f 0 = 2) (hk : gP s 2 4 f = some k) : Rl g (ftkF (sP (sI (sP (sP s 1 3 0 none) 1 4 0 none) 6 1 p 0) 4 3 k none) f k 1) (sI (sI (comF t f) 49 p 0 (-1)) 11 33 0 (-1)) nf B Q := by
  obtain ⟨⟨l1, l2, l3⟩, ⟨j0, bb, ww, nn, hh⟩, ⟨⟨f1, f2, f3, f5, f6, f7, f8, fb⟩, ⟨pp0, pp1⟩, ll, mm, ss, qq⟩, ⟨rr, aa, xx, tt, uu, yy, cc, dd⟩, oo, kk⟩ := h
  obtain ⟨h1, h2, h3, h4, h5, h6, h7, h8, h9, h10, h11, h12, h13, h14⟩ := ss_d ss
  have hfQ : ∀ x, x ∈ Q → ¬ x = f := fun x hx e => (h12 x hx).2.2 (by rw [e]; exact hm)
  obtain ⟨p', b1, b2, b3, b4, b5, b6, b7⟩ := h10 f hm
  rw [hp] at b1
  cases b1
  obtain ⟨z1, z2, z3, z4, z5⟩ := h3 f k b3 hk
  have e42 : ∀ x, gI (sI (sI (comF t f) 49 p 0 (-1)) 11 33 0 (-1)) 42 x 0 = if x = f then 1 else gI t 42 x 0 := fun x => by simp [MM, comF]
  have e49 : ∀ x, gI (sI (sI (comF t f) 49 p 0 (-1)) 11 33 0 (-1)) 49 x 0 = if x = p then -1 else gI t 49 x 0 := fun x => by simp [MM, comF]
  have e61 : ∀ x, gI (ftkF (sP (sI (sP (sP s 1 3 0 none) 1 4 0 none) 6 1 p 0) 4 3 k none) f k 1) 6 1 x = if x = p then 0 else gI s 6 1 x := fun x => by simp [MM, ftkF]
  have g0 : gI s 4 0 k = gI s 2 2 f := by rw [pp0 k z1, f2 f b3, z3]
  have g1 : gI s 4 1 k = gI s 2 3 f := by rw [pp1 k z1, f3 f b3, z4]
  refine ⟨⟨?_, ?_, l3⟩, ⟨j0, bb, ww, nn, hh⟩, ⟨⟨?_, ?_, ?_, ?_, ?_, ?_, ?_, ?_⟩, ⟨pp0, pp1⟩, fun q hq => ?_, ⟨rfl, (fun q e => by cases e), (fun x e => by cases e)⟩, ?_, rq_out qq hfQ e42 (fun _ => rfl) (fun _ => rfl) rfl⟩, ⟨rr, aa, xx, tt, uu, yy, cc, dd⟩, oo, kk⟩
  · unfold ftkF
    exact LC_sI (LC_sI (LC_sI (LC_sI (LC_sP (LC_sP (LC_sI (LC_sI (LC_sI (LC_sP (LC_sI (LC_sP (LC_sP l1 (by unfold dyP; omega)) (by unfold dyP; omega)) (by omega)) (by unfold dyP; omega)) (by omega)) (by omega)) (by omega)) (by unfold dyP; omega)) (by unfold dyP; omega)) (by omega)) (by omega)) (by omega)) (by omega)
  · unfold comF
    exact LR_sI (by omega) (LR_sI (by omega) (LR_sI (by omega) (LR_sI (by omega) (LR_sI (by omega) (LR_sI (by omega) (LR_sI (by omega) l2))))))
  · exact re_E_w (j := f) (v := 1) f1
  · intro x hx
    show (if 2 = 2 ∧ 2 = 2 ∧ x = f then gI s 4 0 k else gI s 2 2 x) = gI t 43 x 0
    rw [g0, ← f2 x hx]
    split
    · rename_i z; rw [z.2.2]
    · rfl
  · intro x hx
    show (if 2 = 2 ∧ 3 = 3 ∧ x = f then gI s 4 1 k else gI s 2 3 x) = gI t 44 x 0
    rw [g1, ← f3 x hx]
    split
    · rename_i z; rw [z.2.2]
    · rfl
  · exact re_E_w (j := f) (v := 0) f5
  · exact re_E_w (j := f) (v := 0) f6
  · exact re_E_w (j := f) (v := 0) f7
  · exact re_E_w (j := f) (v := 1) f8
  · intro x hx
    have := fb x hx
    refine ⟨?_, ?_⟩
    · show (if 47 = 47 ∧ x = f ∧ 0 = 0 then (0 : Int32) else gI t 47 x 0) = 0 ∨ (if 47 = 47 ∧ x = f ∧ 0 = 0 then (0 : Int32) else gI t 47 x 0) = 1
      split
      · exact Or.inl rfl
      · exact this.1
    · show (if 48 = 48 ∧ x = f ∧ 0 = 0 then (1 : Int32) else gI t 48 x 0) = 0 ∨ (if 48 = 48 ∧ x = f ∧ 0 = 0 then (1 : Int32) else gI t 48 x 0) = 1
      split
      · exact Or.inr rfl
      · exact this.2
  · have := ll q hq
    rw [e49, e61]
    by_cases c : q = p
    · rw [if_pos c, if_pos c]
      exact ⟨⟨fun _ => rfl, fun _ => rfl⟩, fun z => absurd rfl z⟩
    · rw [if_neg c, if_neg c]
      exact this
  · have key := SS_end3 ss hm hp hl hs hk
    unfold re_S
    refine SS_cg key (fun k hk => rfl) (fun k hk => rfl) (fun x hx => ?_) (fun x hx => ?_) (fun x hx => e42 x) (fun x hx => rfl) (fun x hx => rfl) (fun x hx => ?_) (fun q hq => e49 q) (fun q hq => rfl)
    · show (if 4 = 4 ∧ 2 = 2 ∧ x = k then some f else gP s 4 2 x) = gP s 4 2 x
      split
      · rename_i z; rw [z.2.2, z2]
      · rfl
    · show (if 4 = 4 ∧ 3 = 3 ∧ x = k then none else gP s 4 3 x) = _
      simp only [true_and]
    · show (if 2 = 2 ∧ 4 = 4 ∧ x = f then some k else gP s 2 4 x) = gP s 2 4 x
      split
      · rename_i z; rw [z.2.2, hk]
      · rfl
theorem rl_et {f p : Nat} (h : Rl g s t nf B Q) (hm : gP s 1 3 0 = some f) (hp : gP s 1 4 0 = some p) : Rl g (etF s f p) (etR t f p) nf B Q := by
  have hc := h
  obtain ⟨⟨l1, l2, l3⟩, ⟨j0, bb, ww, nn, hh⟩, ⟨⟨f1, f2, f3, f5, f6, f7, f8, fb⟩, pp, ll, ⟨m1, m2, m3⟩, ss, qq⟩, ⟨rr, aa, xx, tt, uu, yy, cc, dd⟩, oo, ⟨k1, k2, k3, k4, k5⟩⟩ := h
  obtain ⟨h1, h2, h3, h4, h5, h6, h7, h8, h9, h10, h11, h12, h13, h14⟩ := ss_d ss
  obtain ⟨p', b1, b2, b3, b4, b5, b6, b7⟩ := h10 f hm
  rw [hp] at b1
  cases b1
  have e35 := (m3 f hm).1
  have e1 := f1 f b3
  have x6 : ∀ v, sI (sP (sP s 1 3 0 none) 1 4 0 none) 1 6 0 v = sP (sP (sI s 1 6 0 v) 1 3 0 none) 1 4 0 none := fun v => rfl
  have x7 : ∀ v, sI (sP (sP s 1 3 0 none) 1 4 0 none) 1 7 0 v = sP (sP (sI s 1 7 0 v) 1 3 0 none) 1 4 0 none := fun v => rfl
  unfold etF etR
  dsimp only
  rw [e1, e35, k4, k5, x6, x7]
  rcases b6 with lo0 | lo1
  · have hl1 : ¬ gI t 11 36 0 = 1 := by rw [lo0]; decide
    obtain ⟨k, hk⟩ : ∃ k, gP s 2 4 f = some k := by
      cases e : gP s 2 4 f with
      | none => exact absurd (h4 f b3 (by rcases b4 with b4 | b4 <;> rw [b4] <;> decide) e).2 hl1
      | some k => exact ⟨k, rfl⟩
    rw [if_neg hl1, hk]
    rcases b4 with st2 | st3
    · rw [st2, if_neg (show ¬ (2 : Int32) = 3 by decide), if_neg (show ¬ (2 : Int32) = 3 by decide), if_neg (show ¬ (0 : Int32) = 1 by decide)]
      exact rl_etD (rl_reads hc) hm hp lo0 st2 hk
    · rw [st3, if_pos rfl, if_pos rfl, if_pos rfl, if_neg (show ¬ some k = none from fun z => by cases z)]
      exact rl_etC (rl_writes hc) hm hp lo0 st3 hk
  · have hfp := h5 f hm lo1
    rw [if_pos lo1, hfp]
    rcases b4 with st2 | st3
    · rw [st2, if_neg (show ¬ (2 : Int32) = 3 by decide), if_neg (show ¬ (2 : Int32) = 3 by decide), if_neg (show ¬ (0 : Int32) = 1 by decide)]
      exact rl_etA (rl_reads hc) hm hp lo1
    · rw [st3, if_pos rfl, if_pos rfl, if_pos rfl, if_pos rfl]
      exact rl_etA (rl_writes hc) hm hp lo1
end Dru2
