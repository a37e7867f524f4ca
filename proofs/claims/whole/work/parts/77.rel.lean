/-! the relation: room for a new page; a wanted block -/
theorem cf4 {p0 p1 p2 p3 : Nat → Prop} [DecidablePred p0] [DecidablePred p1] [DecidablePred p2] [DecidablePred p3] : ∀ {n i : Nat}, (∀ m, i ≤ m → m < i + n → (p0 m ∨ p1 m ∨ p2 m ∨ p3 m)) → n ≤ cf p0 i n + cf p1 i n + cf p2 i n + cf p3 i n
  | 0, _, _ => Nat.zero_le _
  | n + 1, i, h => by
    have ih := cf4 (p0 := p0) (p1 := p1) (p2 := p2) (p3 := p3) (n := n) (i := i + 1) (fun m a b => h m (by omega) (by omega))
    have := h i (Nat.le_refl i) (by omega)
    simp only [cf]
    split <;> split <;> split <;> split <;> first | omega | (exfalso; rcases this with q | q | q | q <;> contradiction)
section Rel5
variable {g : Nat → Nat → Nat} {s t : Sg} {nf B : Nat} {Q : List Nat}
theorem nsl_over (hN : re_N t) {j : Nat} (hj : j < 4) (h : ¬ gI t 22 j 0 < 3) : nsl t j = 0 := by
  refine cf_pos (fun k _ hk e => ?_)
  rcases hN.2 k (by omega) with q | ⟨i, q1, q2, q3⟩
  · rw [q] at e; exact absurd e.symm (nI_nm (by omega))
  · rw [q2, nI_eq (by omega) (by omega)] at e
    rw [e] at q3
    exact h q3
/-- jobs have no more blocks than they have a right to; a right that isn't used means a free page -/
theorem free_ex (hN : re_N t) {r : Nat → Nat} (h2 : ∀ j, j < 4 → nsl t j ≤ r j) (hs : r 0 + r 1 + r 2 + r 3 ≤ 64) {j : Nat} (hj : j < 4) (hlt : nsl t j < r j) : ∃ a, ff (nslP t) 0 64 = some a := by
  cases hf : ff (nslP t) 0 64 with
  | some a => exact ⟨a, rfl⟩
  | none =>
    have h4 := cf4 (p0 := fun k => gI t 38 k 0 = nI 0) (p1 := fun k => gI t 38 k 0 = nI 1) (p2 := fun k => gI t 38 k 0 = nI 2) (p3 := fun k => gI t 38 k 0 = nI 3) (n := 64) (i := 0) (fun m _ hm => by
      have q := ff_none hf m (by omega) (by omega)
      rcases hN.2 m (by omega) with z | ⟨i, z1, z2, -⟩
      · exact absurd z q
      · have i4 : i = 0 ∨ i = 1 ∨ i = 2 ∨ i = 3 := by omega
        rcases i4 with e | e | e | e <;> subst e <;> simp [z2])
    have a0 := h2 0 (by omega)
    have a1 := h2 1 (by omega)
    have a2 := h2 2 (by omega)
    have a3 := h2 3 (by omega)
    unfold nsl at a0 a1 a2 a3 hlt
    have j4 : j = 0 ∨ j = 1 ∨ j = 2 ∨ j = 3 := by omega
    rcases j4 with e | e | e | e <;> subst e <;> omega
theorem nsl_new {j a i : Nat} {b : Int32} (ha : ff (nslP t) 0 64 = some a) (hi : i < 4) (hj : j < 4) : nsl (nslF t j b a) i = nsl t i + if i = j then 1 else 0 := by
  obtain ⟨-, a64, a0, -⟩ := ff_some ha
  unfold nsl nslF
  rw [zerF_eq]
  have e : ∀ k, gI ((sI (sI (sI t 38 a 0 (nI j)) 39 a 0 b) 41 j 0 (gI t 41 j 0 + 1)).1, (fun c m e => if c = 40 ∧ e = 0 ∧ 512 * a + 0 ≤ m ∧ m < 512 * a + 0 + 512 then 0 else gJ (sI (sI (sI t 38 a 0 (nI j)) 39 a 0 b) 41 j 0 (gI t 41 j 0 + 1)) c m e), (sI (sI (sI t 38 a 0 (nI j)) 39 a 0 b) 41 j 0 (gI t 41 j 0 + 1)).2.2) 38 k 0 = if k = a then nI j else gI t 38 k 0 := by
    intro k
    show gI (sI t 38 a 0 (nI j)) 38 k 0 = _
    simp [MM]
  simp only [e]
  by_cases c : i = j
  · subst c
    rw [if_pos rfl]
    refine cf_up (a := a) (by omega) (by omega) ?_ ?_ (fun m _ _ hm => ?_)
    · rw [a0]; exact fun q => absurd q.symm (nI_nm (by omega))
    · simp
    · simp [hm]
  · rw [if_neg c, Nat.add_zero]
    refine cf_cg (fun m _ _ => ?_)
    by_cases hm : m = a
    · subst hm
      rw [if_pos rfl, a0]
      constructor
      · intro q; rw [nI_eq (by omega) (by omega)] at q; exact absurd q.symm c
      · intro q; exact absurd q.symm (nI_nm (by omega))
    · simp [hm]
theorem nslF_I {j a c k : Nat} {b : Int32} (h38 : ¬ c = 38) (h39 : ¬ c = 39) (h41 : ¬ c = 41) : gI (nslF t j b a) c k 0 = gI t c k 0 := by
  unfold nslF
  rw [zerF_eq]
  show gI (sI (sI (sI t 38 a 0 (nI j)) 39 a 0 b) 41 j 0 (gI t 41 j 0 + 1)) c k 0 = _
  simp [MM, h38, h39, h41]
theorem nslF_41 {j a k : Nat} {b : Int32} : gI (nslF t j b a) 41 k 0 = if k = j then gI t 41 j 0 + 1 else gI t 41 k 0 := by
  unfold nslF
  rw [zerF_eq]
  show gI (sI (sI (sI t 38 a 0 (nI j)) 39 a 0 b) 41 j 0 (gI t 41 j 0 + 1)) 41 k 0 = _
  simp [MM]
/-- a job that goes on takes a block within its right -/
theorem rh_new {j a : Nat} {b : Int32} (hN : re_N t) (h : re_H t) (hj : j < 4) (hs : gI t 22 j 0 = 1 ∨ gI t 22 j 0 = 2) (hlt : gI t 41 j 0 < gI t 27 j 0) (ha : ff (nslP t) 0 64 = some a) : re_H (nslF t j b a) := by
  obtain ⟨h1, ⟨r, h2, h2b⟩, h3⟩ := h
  have s3 : gI t 22 j 0 < 3 := by rcases hs with e | e <;> rw [e] <;> decide
  have s0 : ¬ gI t 22 j 0 = 0 := by rcases hs with e | e <;> rw [e] <;> decide
  have e22 : ∀ i, gI (nslF t j b a) 22 i 0 = gI t 22 i 0 := fun i => nslF_I (by decide) (by decide) (by decide)
  have hle : ∀ i, i < 4 → nsl t i ≤ 64 := fun i _ => cf_le _ _ _
  have lt1 : nsl t j < r j := by
    obtain ⟨q1, q2⟩ := h2 j hj
    have rj : r j ≤ 64 := by
      have j4 : j = 0 ∨ j = 1 ∨ j = 2 ∨ j = 3 := by omega
      rcases j4 with e | e | e | e <;> subst e <;> omega
    unfold resF at q1
    rw [if_neg s0, if_pos s3] at q1
    rw [h1 j hj s3, q1] at hlt
    rcases Nat.lt_or_ge (nsl t j) (r j) with q | q
    · exact q
    · exact absurd hlt (nI_nlt q (by have := hle j hj; omega))
  refine ⟨fun i hi hl => ?_, ⟨r, fun i hi => ?_, h2b⟩, fun i hi => ?_⟩
  · rw [e22] at hl
    rw [nslF_41, nsl_new ha hi hj]
    by_cases c : i = j
    · subst c
      rw [if_pos rfl, if_pos rfl, h1 i hi hl, nI_1]
    · rw [if_neg c, if_neg c, Nat.add_zero]; exact h1 i hi hl
  · obtain ⟨q1, q2⟩ := h2 i hi
    rw [nsl_new ha hi hj, e22]
    refine ⟨?_, fun hl => ?_⟩
    · rw [← q1]
      unfold resF
      rw [e22, nslF_41, nslF_I (c := 27) (by decide) (by decide) (by decide)]
      by_cases c : i = j
      · subst c
        rw [if_neg s0, if_neg s0]
      · rw [if_neg c]
    · by_cases c : i = j
      · subst c; rw [if_pos rfl]; omega
      · rw [if_neg c, Nat.add_zero]; exact q2 hl
  · rw [nslF_I (c := 24) (by decide) (by decide) (by decide), nslF_I (c := 26) (by decide) (by decide) (by decide), nslF_I (c := 22) (by decide) (by decide) (by decide)]
    exact h3 i hi
theorem rh_free (hN : re_N t) (h : re_H t) {j : Nat} (hj : j < 4) (hs : gI t 22 j 0 = 1 ∨ gI t 22 j 0 = 2) (hlt : gI t 41 j 0 < gI t 27 j 0) : ∃ a, ff (nslP t) 0 64 = some a := by
  obtain ⟨h1, ⟨r, h2, h2b⟩, h3⟩ := h
  have s3 : gI t 22 j 0 < 3 := by rcases hs with e | e <;> rw [e] <;> decide
  have s0 : ¬ gI t 22 j 0 = 0 := by rcases hs with e | e <;> rw [e] <;> decide
  refine free_ex hN (r := r) (fun i hi => ?_) h2b hj ?_
  · by_cases c : gI t 22 i 0 < 3
    · exact (h2 i hi).2 c
    · rw [nsl_over hN hi c]; omega
  · obtain ⟨q1, q2⟩ := h2 j hj
    have rj : r j ≤ 64 := by
      have j4 : j = 0 ∨ j = 1 ∨ j = 2 ∨ j = 3 := by omega
      rcases j4 with e | e | e | e <;> subst e <;> omega
    unfold resF at q1
    rw [if_neg s0, if_pos s3] at q1
    rw [h1 j hj s3, q1] at hlt
    rcases Nat.lt_or_ge (nsl t j) (r j) with q | q
    · exact q
    · exact absurd hlt (nI_nlt q (by have := cf_le (fun k => gI t 38 k 0 = nI j) 0 64; unfold nsl; omega))
/-- the page that a frame in use holds -/
theorem lk_hit (h : Rl g s t nf B Q) {j f : Nat} {b : Int32} (hj : j < 4) (hh : hoF s nf (nI j) b = some f) : f < nf ∧ frmF t nf (nI j) b = some f ∧ gI t 42 f 0 = 1 ∧ ∃ k, k < 64 ∧ slotF t (nI j) b = some k ∧ gP s 2 4 f = some k ∧ gP s 4 4 k = some k ∧ k < cn s 16 ∧ ¬ gI t 38 k 0 = -1 := by
  have e := lk_ho h hj b
  rw [hh] at e
  have e2 := lk_frm h hj b
  cases hf : frmF t nf (nI j) b with
  | none => rw [hf] at e; cases e
  | some f' =>
    rw [hf] at e
    have e : some f = if gI t 42 f' 0 = 1 then some f' else none := e
    by_cases c : gI t 42 f' 0 = 1
    · rw [if_pos c] at e
      cases e
      rw [hf] at e2
      cases hs : slotF t (nI j) b with
      | none => rw [hs] at e2; cases e2
      | some k =>
        rw [hs] at e2
        have e2 : some f = gP s 4 2 k := e2
        obtain ⟨-, k64, -⟩ := ff_some hs
        obtain ⟨-, -, ⟨-, -, -, -, ss, -⟩, ⟨-, -, ⟨x1, x2, -⟩, -⟩, -⟩ := h
        obtain ⟨s1, s2, -⟩ := ss_d ss
        obtain ⟨c1, c2, c3⟩ := s2 k f (by omega) e2.symm
        have kc : k < cn s 16 := by
          rcases Nat.lt_or_ge k (cn s 16) with q | q
          · exact q
          · exact absurd (x2 k (by omega) q) c3
        exact ⟨c1, rfl, c, k, by omega, rfl, c2, by rw [x1 k (by omega), if_pos kc], kc, c3⟩
    · rw [if_neg c] at e; cases e
/-- a wanted block that isn't in use: the right is used up, or the job waits -/
theorem rl_miss {j q o : Nat} {b n : Int32} (hg : ∀ i, g 16 (i + 1) = g 16 i + 1) (h : Rl g s t nf B Q) (hj : j < 4) (hst : gI t 22 j 0 = 1) (hh : hoF s nf (nI j) b = none) : ∃ a, (pgF s (nI j) b = none → gI s 3 5 j < gI s 3 6 j → ff (frP s) 0 64 = some a ∧ (gP s 4 4 a = none ∨ (gP s 4 4 a = some a ∧ a < cn s 16)) ∧ (gP s 4 4 a = none → sz s = g 16 (cn s 16)) ∧ (gP s 4 4 a = none → cn s 16 < 64)) ∧ (slotF t (nI j) b = none → gI t 41 j 0 < gI t 27 j 0 → ff (nslP t) 0 64 = some a) ∧ ((misF s j b a = (s, 3) ∧ wanF t nf j b n o q a = (faiF t nf j 3 n o q, 1)) ∨ ∃ s' t', misF s j b a = (s', -1) ∧ wanF t nf j b n o q a = (t', 1) ∧ Rl g s' t' nf B Q ∧ (∀ i, gI t' 22 i 0 = if i = j then 2 else gI t 22 i 0)) := by
  have h0 := h
  have epg := lk_pg h (nI j) b
  have eho := lk_ho h hj b
  have efr := lk_fr h
  have efm := lk_frm h hj b
  obtain ⟨⟨l1, l2, l3⟩, ⟨⟨j1, j2, j3, j4, j5, j6, j7, j8⟩, bb, ww, nn, hh2⟩, ⟨ff1, pp, ll, mm, ss, qq⟩, ⟨rr, aa, ⟨x1, x2, x3, x4⟩, tt, uu, yy, cc, dd⟩, oo, kk⟩ := h
  have s3 : gI t 22 j 0 < 3 := by rw [hst]; decide
  have e5 : gI s 3 5 j = gI t 41 j 0 := (bb j hj).1 s3
  have e6 : gI s 3 6 j = gI t 27 j 0 := j5 j hj
  cases hs : slotF t (nI j) b with
  | some k =>
    obtain ⟨-, k64, ⟨k1, k2⟩, -⟩ := ff_some hs
    have k64 : k < 64 := by omega
    refine ⟨0, fun q => (by rw [epg, hs] at q; cases q), fun q => (by cases q), Or.inr ⟨sP (sI s 3 1 j 2) 3 11 j (some k), sI (sI t 22 j 0 2) 25 j 0 b, ?_, ?_, rl_await h0 hj hst k64 k1 k2, fun i => by simp [MM]⟩⟩
    · unfold misF; rw [epg, hs]
    · unfold wanF
      rw [hs]
      show wn2 t nf j b = _
      unfold wn2
      cases hf : frmF t nf (nI j) b with
      | none => rfl
      | some f =>
        have c : ¬ gI t 42 f 0 = 1 := fun q => by
          rw [hf, hh] at eho
          have eho : none = if gI t 42 f 0 = 1 then some f else none := eho
          rw [if_pos q] at eho
          cases eho
        show (if gI t 42 f 0 = 1 then _ else _) = _
        rw [if_neg c]
  | none =>
    by_cases hlt : gI t 41 j 0 < gI t 27 j 0
    · obtain ⟨a, ha⟩ := rh_free nn hh2 hj (Or.inl hst) hlt
      obtain ⟨-, a64, a0, -⟩ := ff_some ha
      have a64 : a < 64 := by omega
      have hca : gP s 4 4 a = none → cn s 16 < 64 := fun q => by
        have := x1 a a64
        rw [q] at this
        rcases Nat.lt_or_ge a (cn s 16) with z | z
        · rw [if_pos z] at this; cases this
        · omega
      refine ⟨a, fun _ _ => ⟨by rw [efr]; exact ha, ?_, fun _ => l3, hca⟩, fun _ _ => ha, Or.inr ⟨sP (sI (sI (hldF s a (nI j) b) 3 5 j (gI (hldF s a (nI j) b) 3 5 j + 1)) 3 1 j 2) 3 11 j (some a), sI (sI (nslF t j b a) 22 j 0 2) 25 j 0 b, ?_, ?_, ?_, ?_⟩⟩
      · have := x1 a a64
        by_cases z : a < cn s 16
        · rw [if_pos z] at this; exact Or.inr ⟨this, z⟩
        · rw [if_neg z] at this; exact Or.inl this
      · unfold misF; rw [epg, hs]; show (if gI s 3 5 j < gI s 3 6 j then _ else _) = _; rw [if_pos (by rw [e5, e6]; exact hlt)]
      · have hrl := rl_new hg h0 hj s3 ha hs (rh_new (b := b) nn hh2 hj (Or.inl hst) hlt ha)
        unfold wanF
        rw [hs]
        show (if gI t 41 j 0 < gI t 27 j 0 then wn2 (nslF t j b a) nf j b else _) = _
        rw [if_pos hlt]
        have ef2 := lk_frm hrl hj b
        have n38 : gI (nslF t j b a) 38 a 0 = nI j := by
          unfold nslF; rw [zerF_eq]
          show gI (sI (sI (sI t 38 a 0 (nI j)) 39 a 0 b) 41 j 0 (gI t 41 j 0 + 1)) 38 a 0 = _
          simp [MM]
        have n39 : gI (nslF t j b a) 39 a 0 = b := by
          unfold nslF; rw [zerF_eq]
          show gI (sI (sI (sI t 38 a 0 (nI j)) 39 a 0 b) 41 j 0 (gI t 41 j 0 + 1)) 39 a 0 = _
          simp [MM]
        have es2 := lk_sl hrl hj a64 n38 n39
        rw [es2] at ef2
        have hpa : gP s 4 2 a = none := by
          cases hp : gP s 4 2 a with
          | none => rfl
          | some f => exact absurd a0 ((ss_d ss).2.1 a f a64 hp).2.2
        have ef3 : frmF (nslF t j b a) nf (nI j) b = none := by
          rw [ef2]
          show gP (sI (hldF s a (nI j) b) 3 5 j (gI (hldF s a (nI j) b) 3 5 j + 1)) 4 2 a = none
          rw [gP_sI]
          unfold hldF
          dsimp only
          split
          · simp [MM, hpa]
          · simp [MM, hpa]
        unfold wn2
        rw [ef3]
      · have hrl := rl_new hg h0 hj s3 ha hs (rh_new (b := b) nn hh2 hj (Or.inl hst) hlt ha)
        refine rl_await hrl hj ?_ a64 ?_ ?_
        · rw [nslF_I (by decide) (by decide) (by decide)]; exact hst
        · unfold nslF; rw [zerF_eq]
          show gI (sI (sI (sI t 38 a 0 (nI j)) 39 a 0 b) 41 j 0 (gI t 41 j 0 + 1)) 38 a 0 = _
          simp [MM]
        · unfold nslF; rw [zerF_eq]
          show gI (sI (sI (sI t 38 a 0 (nI j)) 39 a 0 b) 41 j 0 (gI t 41 j 0 + 1)) 39 a 0 = _
          simp [MM]
      · intro i
        have := nslF_I (t := t) (j := j) (a := a) (b := b) (c := 22) (k := i) (by decide) (by decide) (by decide)
        simp [MM, this]
    · refine ⟨0, fun _ q => absurd (by rw [e5, e6] at q; exact q) hlt, fun _ q => absurd q hlt, Or.inl ⟨?_, ?_⟩⟩
      · unfold misF; rw [epg, hs]; show (if gI s 3 5 j < gI s 3 6 j then _ else _) = _; rw [if_neg (by rw [e5, e6]; exact hlt)]
      · unfold wanF; rw [hs]; show (if gI t 41 j 0 < gI t 27 j 0 then _ else _) = _; rw [if_neg hlt]
end Rel5
