/-! loading: a new block of a job that has not begun -/
section All1
variable {g : Nat → Nat → Nat} {s t u : Sg} {X : Sg × Option Av} {nf B n : Nat} {Q : List Nat}
/-- there is room for m blocks more -/
def BG (t : Sg) (m : Nat) : Prop := ∃ r : Nat → Nat, (∀ i, i < 4 → resF t i = nI (r i) ∧ (gI t 22 i 0 < 3 → nsl t i ≤ r i)) ∧ r 0 + r 1 + r 2 + r 3 + m ≤ 64
theorem bg_new {j a m : Nat} {b : Int32} (hN : re_N t) (h : re_H t) (hj : j < 4) (hs : gI t 22 j 0 = 0) (hb : BG t (m + 1)) (ha : ff (nslP t) 0 64 = some a) : re_H (nslF t j b a) ∧ BG (nslF t j b a) m := by
  obtain ⟨h1, _, h3⟩ := h
  obtain ⟨r, h2, h2b⟩ := hb
  have s3 : gI t 22 j 0 < 3 := by rw [hs]; decide
  have e22 : ∀ i, gI (nslF t j b a) 22 i 0 = gI t 22 i 0 := fun i => nslF_I (by decide) (by decide) (by decide)
  have key : ∀ i, i < 4 → resF (nslF t j b a) i = nI (if i = j then r i + 1 else r i) ∧ (gI (nslF t j b a) 22 i 0 < 3 → nsl (nslF t j b a) i ≤ if i = j then r i + 1 else r i) := fun i hi => by
    obtain ⟨q1, q2⟩ := h2 i hi
    rw [nsl_new ha hi hj, e22]
    by_cases c : i = j
    · subst c
      rw [if_pos rfl, if_pos rfl]
      refine ⟨?_, fun hl => by have := q2 hl; omega⟩
      unfold resF at q1 ⊢
      rw [if_pos hs] at q1
      rw [e22, if_pos hs, nslF_41, if_pos rfl, q1, nI_1]
    · rw [if_neg c, if_neg c, Nat.add_zero]
      refine ⟨?_, q2⟩
      rw [← q1]
      unfold resF
      rw [e22, nslF_41, if_neg c, nslF_I (c := 27) (by decide) (by decide) (by decide)]
  have hsum : (if 0 = j then r 0 + 1 else r 0) + (if 1 = j then r 1 + 1 else r 1) + (if 2 = j then r 2 + 1 else r 2) + (if 3 = j then r 3 + 1 else r 3) = r 0 + r 1 + r 2 + r 3 + 1 := by
    rcases (show j = 0 ∨ j = 1 ∨ j = 2 ∨ j = 3 by omega) with z | z | z | z <;> subst z <;> simp <;> omega
  refine ⟨⟨fun i hi hl => ?_, ⟨fun i => if i = j then r i + 1 else r i, key, by dsimp only; omega⟩, fun i hi => ?_⟩, ⟨fun i => if i = j then r i + 1 else r i, key, by dsimp only; omega⟩⟩
  · rw [e22] at hl
    rw [nslF_41, nsl_new ha hi hj]
    by_cases c : i = j
    · subst c
      rw [if_pos rfl, if_pos rfl, h1 i hi hl, nI_1]
    · rw [if_neg c, if_neg c, Nat.add_zero]; exact h1 i hi hl
  · rw [nslF_I (c := 24) (by decide) (by decide) (by decide), nslF_I (c := 26) (by decide) (by decide) (by decide), nslF_I (c := 22) (by decide) (by decide) (by decide)]
    exact h3 i hi
theorem bg_free {j m : Nat} (hN : re_N t) (hj : j < 4) (hb : BG t (m + 1)) : ∃ a, ff (nslP t) 0 64 = some a := by
  obtain ⟨r, h2, h2b⟩ := hb
  have hsum : (if 0 = j then r 0 + 1 else r 0) + (if 1 = j then r 1 + 1 else r 1) + (if 2 = j then r 2 + 1 else r 2) + (if 3 = j then r 3 + 1 else r 3) = r 0 + r 1 + r 2 + r 3 + 1 := by
    rcases (show j = 0 ∨ j = 1 ∨ j = 2 ∨ j = 3 by omega) with z | z | z | z <;> subst z <;> simp <;> omega
  have hle : ∀ i, i < 4 → nsl t i ≤ r i := fun i hi => by
    by_cases c : gI t 22 i 0 < 3
    · exact (h2 i hi).2 c
    · rw [nsl_over hN hi c]; omega
  refine free_ex hN (r := fun i => if i = j then r i + 1 else r i) (fun i hi => ?_) (by omega) hj ?_
  · have := hle i hi
    split <;> omega
  · have := hle j hj
    rw [if_pos rfl]
    omega
/-- a page that is nowhere gets a place -/
theorem rl_plc {k p : Nat} (h : Rl g s t nf B Q) (hk : k < 64) (hj : ¬ gI t 38 k 0 = -1) (hpf : gP s 4 2 k = none) (hpp : gP s 4 3 k = none) (hp : p < 64) (hl : gI t 49 p 0 = -1) : Rl g (takF s p k) (sI (sI t 49 p 0 (gI t 38 k 0)) 50 p 0 (gI t 39 k 0)) nf B Q := by
  obtain ⟨⟨l1, l2, l3⟩, ⟨j0, bb, ww, nn, hh⟩, ⟨ff1, ⟨pp0, pp1⟩, ll, mm, ss, qq⟩, ⟨rr, aa, xx, tt, uu, yy, cc, dd⟩, oo, kk⟩ := h
  unfold takF
  refine ⟨⟨LC_takF l1, LR_sI (by omega) (LR_sI (by omega) l2), l3⟩, ⟨j0, bb, ww, nn, hh⟩, ⟨ff1, ⟨pp0, pp1⟩, fun q hq => ?_, mm, ?_, qq⟩, ⟨rr, aa, xx, tt, uu, yy, cc, dd⟩, oo, kk⟩
  · show (((if 6 = 6 ∧ 1 = 1 ∧ q = p then (1 : Int32) else gI s 6 1 q) = 0 ↔ (if 49 = 49 ∧ q = p ∧ 0 = 0 then gI t 38 k 0 else gI t 49 q 0) = -1) ∧ (¬ (if 49 = 49 ∧ q = p ∧ 0 = 0 then gI t 38 k 0 else gI t 49 q 0) = -1 → (if 6 = 6 ∧ 2 = 2 ∧ q = p then gI s 4 0 k else gI s 6 2 q) = (if 49 = 49 ∧ q = p ∧ 0 = 0 then gI t 38 k 0 else gI t 49 q 0) ∧ (if 6 = 6 ∧ 3 = 3 ∧ q = p then gI s 4 1 k else gI s 6 3 q) = (if 50 = 50 ∧ q = p ∧ 0 = 0 then gI t 39 k 0 else gI t 50 q 0)))
    by_cases c : q = p
    · rw [if_pos ⟨rfl, rfl, c⟩, if_pos ⟨rfl, c, rfl⟩, if_pos ⟨rfl, rfl, c⟩, if_pos ⟨rfl, rfl, c⟩, if_pos ⟨rfl, c, rfl⟩]
      exact ⟨⟨fun z => absurd z (by decide), fun z => absurd z hj⟩, fun _ => ⟨pp0 k hk, pp1 k hk⟩⟩
    · rw [if_neg (fun z => c z.2.2), if_neg (fun z => c z.2.1), if_neg (fun z => c z.2.2), if_neg (fun z => c z.2.2), if_neg (fun z => c z.2.1)]
      exact ll q hq
  · have key := SS_place ss hk hj hpf hpp hp hl
    unfold re_S
    refine SS_cg key (fun k hk => rfl) (fun k hk => rfl) (fun x hx => rfl) (fun x hx => ?_) (fun x hx => rfl) (fun x hx => rfl) (fun x hx => rfl) (fun x hx => rfl) (fun x hx => ?_) (fun x hx => ?_)
    · show (if 4 = 4 ∧ 3 = 3 ∧ x = k then some p else gP s 4 3 x) = _
      simp only [true_and]
    · show (if 49 = 49 ∧ x = p ∧ 0 = 0 then gI t 38 k 0 else gI t 49 x 0) = _
      simp only [true_and, and_true]
    · show (if 50 = 50 ∧ x = p ∧ 0 = 0 then gI t 39 k 0 else gI t 50 x 0) = _
      simp only [true_and, and_true]
/-- the reference's memory with block b of job j in slot a, at place p -/
def alR (t : Sg) (j : Nat) (b : Int32) (a p : Nat) : Sg := sI (sI (nslF t j b a) 49 p 0 (nI j)) 50 p 0 b
def alC (s : Sg) (j : Nat) (b : Int32) (a p : Nat) : Sg := takF (sI (hldF s a (nI j) b) 3 5 j (gI (hldF s a (nI j) b) 3 5 j + 1)) p a
theorem nslF_38 {j a k : Nat} {b : Int32} : gI (nslF t j b a) 38 k 0 = if k = a then nI j else gI t 38 k 0 := by
  unfold nslF
  rw [zerF_eq]
  show gI (sI (sI (sI t 38 a 0 (nI j)) 39 a 0 b) 41 j 0 (gI t 41 j 0 + 1)) 38 k 0 = _
  simp [MM]
theorem nslF_39 {j a k : Nat} {b : Int32} : gI (nslF t j b a) 39 k 0 = if k = a then b else gI t 39 k 0 := by
  unfold nslF
  rw [zerF_eq]
  show gI (sI (sI (sI t 38 a 0 (nI j)) 39 a 0 b) 41 j 0 (gI t 41 j 0 + 1)) 39 k 0 = _
  simp [MM]
theorem al_38 {j a p k : Nat} {b : Int32} : gI (alR t j b a p) 38 k 0 = if k = a then nI j else gI t 38 k 0 := by unfold alR; rw [gI_sI, if_neg (by omega), gI_sI, if_neg (by omega), nslF_38]
theorem al_39 {j a p k : Nat} {b : Int32} : gI (alR t j b a p) 39 k 0 = if k = a then b else gI t 39 k 0 := by unfold alR; rw [gI_sI, if_neg (by omega), gI_sI, if_neg (by omega), nslF_39]
theorem al_49 {j a p k : Nat} {b : Int32} : gI (alR t j b a p) 49 k 0 = if k = p then nI j else gI t 49 k 0 := by
  unfold alR
  rw [gI_sI, if_neg (by omega), gI_sI, nslF_I (by decide) (by decide) (by decide)]
  simp
theorem al_slot {j a p : Nat} {b b' : Int32} (hj : j < 4) (ha : ff (nslP t) 0 64 = some a) (hn : slotF t (nI j) b = none) : slotF (alR t j b a p) (nI j) b' = if b' = b then some a else slotF t (nI j) b' := by
  obtain ⟨y1, y2, y3, y4⟩ := ff_some ha
  have ha38 : gI t 38 a 0 = -1 := y3
  by_cases c : b' = b
  · subst c
    rw [if_pos rfl]
    refine ff_eq (by omega) (by omega) ⟨by rw [al_38, if_pos rfl], by rw [al_39, if_pos rfl]⟩ (fun m _ hm hp => ?_)
    have h1 := hp.1
    have h2 := hp.2
    rw [al_38, if_neg (by omega)] at h1
    rw [al_39, if_neg (by omega)] at h2
    exact ff_none hn m (by omega) (by omega) ⟨h1, h2⟩
  · rw [if_neg c]
    unfold slotF
    refine ff_cg (fun m _ hm => ?_)
    show gI (alR t j b a p) 38 m 0 = nI j ∧ gI (alR t j b a p) 39 m 0 = b' ↔ gI t 38 m 0 = nI j ∧ gI t 39 m 0 = b'
    rw [al_38, al_39]
    by_cases q : m = a
    · rw [if_pos q, if_pos q, q, ha38]
      exact ⟨fun z => absurd z.2.symm c, fun z => absurd z.1.symm (nI_nm (by omega))⟩
    · rw [if_neg q, if_neg q]
theorem rl_alloc (hg : ∀ i, g 16 (i + 1) = g 16 i + 1) {j m p : Nat} {b : Int32} (h : Rl g s t nf B Q) (hj : j < 4) (hs : gI t 22 j 0 = 0) (hn : slotF t (nI j) b = none) (hb : BG t (m + 1)) (hp : ff (freP t) 0 64 = some p) : ∃ a, ff (nslP t) 0 64 = some a ∧ a < 64 ∧ p < 64 ∧ Rl g (alC s j b a p) (alR t j b a p) nf B Q ∧ BG (alR t j b a p) m ∧ gI (alR t j b a p) 22 j 0 = 0 := by
  obtain ⟨a, ha⟩ := bg_free h.2.1.2.2.2.1 hj hb
  obtain ⟨b1, b2⟩ := bg_new (b := b) h.2.1.2.2.2.1 h.2.1.2.2.2.2 hj hs hb ha
  have hs3 : gI t 22 j 0 < 3 := by rw [hs]; decide
  have k1 := rl_new hg h hj hs3 ha hn b1
  obtain ⟨y1, y2, y3, y4⟩ := ff_some ha
  obtain ⟨z1, z2, z3, z4⟩ := ff_some hp
  have hp64 : p < 64 := by omega
  have ha64 : a < 64 := by omega
  have x38 := nslF_38 (t := t) (j := j) (a := a) (b := b) (k := a)
  have x39 := nslF_39 (t := t) (j := j) (a := a) (b := b) (k := a)
  rw [if_pos rfl] at x38 x39
  obtain ⟨w1, w2, w3, w4, w5, w6, w7⟩ := ss_d h.2.2.1.2.2.2.2.1
  have ha38 : gI t 38 a 0 = -1 := y3
  have pf0 : gP s 4 2 a = none := by
    cases e : gP s 4 2 a with
    | none => rfl
    | some f => exact absurd ha38 (w2 a f ha64 e).2.2
  have pp0 : gP s 4 3 a = none := by
    cases e : gP s 4 3 a with
    | none => rfl
    | some f => exact absurd ha38 (w6 a f ha64 e).2.2.2.1
  have hld : ∀ k, k = 2 ∨ k = 3 → gP (hldF s a (nI j) b) 4 k a = gP s 4 k a := fun k hk => by
    unfold hldF
    split
    · rcases hk with rfl | rfl
      · show gP (nw (sI (sI s 4 0 a (nI j)) 4 1 a b) 16 512) 4 2 a = _
        simp [MM]
      · show gP (nw (sI (sI s 4 0 a (nI j)) 4 1 a b) 16 512) 4 3 a = _
        simp [MM]
    · rfl
  have k2 := rl_plc (p := p) k1 ha64 (by rw [x38]; exact nI_nm (by omega)) ((hld 2 (Or.inl rfl)).trans pf0) ((hld 3 (Or.inr rfl)).trans pp0) hp64 (by rw [nslF_I (by decide) (by decide) (by decide)]; exact z3)
  rw [x38, x39] at k2
  refine ⟨a, ha, ha64, hp64, k2, ?_, ?_⟩
  · unfold alR
    generalize nslF t j b a = u at b2
    exact b2
  · unfold alR
    rw [gI_sI, if_neg (by omega), gI_sI, if_neg (by omega), nslF_I (by decide) (by decide) (by decide)]
    exact hs
end All1
