/-! the relation: what is looked up -/
section Rel4
variable {g : Nat → Nat → Nat} {s t : Sg} {nf B : Nat} {Q : List Nat}
theorem ss_d (h : re_S s t nf Q) :
  (∀ k k', k < 64 → k' < 64 → ¬ gI t 38 k 0 = -1 → gI t 38 k' 0 = gI t 38 k 0 → gI t 39 k' 0 = gI t 39 k 0 → k' = k) ∧
  (∀ k f, k < 64 → gP s 4 2 k = some f → f < nf ∧ gP s 2 4 f = some k ∧ ¬ gI t 38 k 0 = -1) ∧
  (∀ f k, f < nf → gP s 2 4 f = some k → k < 64 ∧ gP s 4 2 k = some f ∧ gI t 43 f 0 = gI t 38 k 0 ∧ gI t 44 f 0 = gI t 39 k 0 ∧ ¬ gI t 42 f 0 = 0) ∧
  (∀ f, f < nf → ¬ gI t 42 f 0 = 0 → gP s 2 4 f = none → gP s 1 3 0 = some f ∧ gI t 11 36 0 = 1) ∧
  (∀ f, gP s 1 3 0 = some f → gI t 11 36 0 = 1 → gP s 2 4 f = none) ∧
  (∀ k p, k < 64 → gP s 4 3 k = some p → p < 64 ∧ gI t 49 p 0 = gI t 38 k 0 ∧ gI t 50 p 0 = gI t 39 k 0 ∧ ¬ gI t 38 k 0 = -1 ∧ ¬ (gI t 11 36 0 = 1 ∧ ¬ gP s 1 3 0 = none ∧ gP s 1 4 0 = some p)) ∧
  (∀ p, p < 64 → ¬ gI t 49 p 0 = -1 → (∃ k, k < 64 ∧ gP s 4 3 k = some p) ∨ (¬ gP s 1 3 0 = none ∧ gI t 11 36 0 = 1 ∧ gP s 1 4 0 = some p)) ∧
  (∀ f k, f < nf → gP s 2 4 f = some k → (gI t 42 f 0 = 1 ∨ (gI t 42 f 0 = 3 ∧ ¬ gP s 1 3 0 = some f)) → gP s 4 3 k = none) ∧
  (gP s 1 3 0 = none → gP s 1 4 0 = none) ∧
  (∀ f, gP s 1 3 0 = some f → ∃ p, gP s 1 4 0 = some p ∧ p < 64 ∧ f < nf ∧ (gI t 42 f 0 = 2 ∨ gI t 42 f 0 = 3) ∧ ¬ gI t 49 p 0 = -1 ∧ (gI t 11 36 0 = 0 ∨ gI t 11 36 0 = 1) ∧ ∀ k, gP s 2 4 f = some k → gP s 4 3 k = some p) ∧
  (∀ f, f < nf → gI t 42 f 0 = 0 ∨ gI t 42 f 0 = 1 ∨ gI t 42 f 0 = 2 ∨ gI t 42 f 0 = 3) ∧
  (∀ f, f ∈ Q → f < nf ∧ (gI t 42 f 0 = 2 ∨ gI t 42 f 0 = 3) ∧ ¬ gP s 1 3 0 = some f) ∧ Q.Nodup ∧
  (∀ f, f < nf → (gI t 42 f 0 = 2 ∨ gI t 42 f 0 = 3) → f ∈ Q ∨ gP s 1 3 0 = some f) := h
theorem oi_inj {o : Option Nat} {f : Nat} (h : ∀ e, o = some e → e < 2 ^ 31) (hf : f < 2 ^ 31) (e : nI f = oi o) : o = some f := by
  cases o with
  | none => exact absurd e (nI_nm hf)
  | some k => rw [oi_s, nI_eq hf (h k rfl)] at e; rw [e]
theorem lk_pg (h : Rl g s t nf B Q) (o b : Int32) : pgF s o b = slotF t o b := by
  obtain ⟨-, -, ⟨-, ⟨p1, p2⟩, -⟩, -⟩ := h
  unfold pgF slotF
  refine ff_cg (fun m _ hm => ?_)
  unfold pgP slotP
  rw [p1 m (by omega), p2 m (by omega)]
theorem lk_fr (h : Rl g s t nf B Q) : ff (frP s) 0 64 = ff (nslP t) 0 64 := by
  obtain ⟨-, -, ⟨-, ⟨p1, p2⟩, -⟩, -⟩ := h
  refine ff_cg (fun m _ hm => ?_)
  unfold frP nslP
  rw [p1 m (by omega)]
theorem lk_sl (h : Rl g s t nf B Q) {j k : Nat} {b : Int32} (hj : j < 4) (hk : k < 64) (h1 : gI t 38 k 0 = nI j) (h2 : gI t 39 k 0 = b) : slotF t (nI j) b = some k := by
  obtain ⟨-, -, ⟨-, -, -, -, ss, -⟩, -⟩ := h
  have u := (ss_d ss).1
  refine ff_eq (by omega) (by omega) ⟨h1, h2⟩ (fun m _ hm q => ?_)
  have := u k m hk (by omega) (by rw [h1]; exact nI_nm (by omega)) (q.1.trans h1.symm) (q.2.trans h2.symm)
  omega
/-- where the reference sees a block of a job -/
theorem lk_frm (h : Rl g s t nf B Q) {j : Nat} (hj : j < 4) (b : Int32) : frmF t nf (nI j) b = (slotF t (nI j) b).bind (fun k => gP s 4 2 k) := by
  obtain ⟨⟨l1, -⟩, -, ⟨-, -, -, ⟨m1, -⟩, ss, -⟩, -⟩ := h
  have hnf := l1.1.2
  obtain ⟨s1, s2, s3, s4, s5, s6, s7, s8, s9, s10, s11, s12, s13, s14⟩ := ss_d ss
  have hmv : ∀ e, gP s 1 3 0 = some e → e < 2 ^ 31 := fun e he => by obtain ⟨p, z⟩ := s10 e he; omega
  have key : ∀ f, f < nf → frmP t (nI j) b f → ∃ k, k < 64 ∧ gP s 2 4 f = some k ∧ gP s 4 2 k = some f ∧ slotP t (nI j) b k := by
    intro f hf ⟨a1, a2, a3, a4⟩
    cases hp : gP s 2 4 f with
    | none =>
      obtain ⟨c1, c2⟩ := s4 f hf a1 hp
      exact absurd ⟨by rw [m1, c1, oi_s], c2⟩ a4
    | some k =>
      obtain ⟨c1, c2, c3, c4, c5⟩ := s3 f k hf hp
      exact ⟨k, c1, rfl, c2, c3.symm.trans a2, c4.symm.trans a3⟩
  cases hs : slotF t (nI j) b with
  | none =>
    refine ff_nil (fun f _ hf q => ?_)
    obtain ⟨k, c1, -, -, c2⟩ := key f (by omega) q
    exact ff_none hs k (by omega) (by omega) c2
  | some k =>
    obtain ⟨-, k64, ⟨k1, k2⟩, -⟩ := ff_some hs
    have k64 : k < 64 := by omega
    have uq : ∀ k', k' < 64 → slotP t (nI j) b k' → k' = k := fun k' hk' q => s1 k k' k64 hk' (by rw [k1]; exact nI_nm (by omega)) (q.1.trans k1.symm) (q.2.trans k2.symm)
    show frmF t nf (nI j) b = gP s 4 2 k
    cases hp : gP s 4 2 k with
    | none =>
      refine ff_nil (fun f _ hf q => ?_)
      obtain ⟨k', c1, c2, c3, c4⟩ := key f (by omega) q
      rw [uq k' c1 c4, hp] at c3
      cases c3
    | some f =>
      obtain ⟨c1, c2, c3⟩ := s2 k f k64 hp
      obtain ⟨d1, d2, d3, d4, d5⟩ := s3 f k c1 c2
      refine ff_eq (by omega) (by omega) ⟨d5, d3.trans k1, d4.trans k2, ?_⟩ (fun m _ hm q => ?_)
      · rintro ⟨q1, q2⟩
        rw [m1] at q1
        have := s5 f (oi_inj hmv (by omega) q1) q2
        rw [c2] at this
        cases this
      · obtain ⟨k', e1, e2, e3, e4⟩ := key m (by omega) q
        rw [uq k' e1 e4, hp] at e3
        cases e3
        omega
theorem lk_ho (h : Rl g s t nf B Q) {j : Nat} (hj : j < 4) (b : Int32) : hoF s nf (nI j) b = (frmF t nf (nI j) b).bind (fun f => if gI t 42 f 0 = 1 then some f else none) := by
  have h0 := h
  obtain ⟨⟨l1, -⟩, -, ⟨⟨f1, f2, f3, -⟩, -, -, ⟨m1, -⟩, ss, -⟩, -⟩ := h
  have hnf := l1.1.2
  obtain ⟨s1, s2, s3, s4, s5, s6, s7, s8, s9, s10, s11, s12, s13, s14⟩ := ss_d ss
  have hmv : ∀ e, gP s 1 3 0 = some e → e < 2 ^ 31 := fun e he => by obtain ⟨p, z⟩ := s10 e he; omega
  have key : ∀ f, f < nf → (hoP s (nI j) b f ↔ frmP t (nI j) b f ∧ gI t 42 f 0 = 1) := by
    intro f hf
    unfold hoP frmP
    rw [f1 f hf, f2 f hf, f3 f hf]
    constructor
    · rintro ⟨a1, a2, a3⟩
      refine ⟨⟨by rw [a3]; decide, a2, a1, ?_⟩, a3⟩
      rintro ⟨q1, q2⟩
      rw [m1] at q1
      obtain ⟨p, z1, z2, z3, z4, -⟩ := s10 f (oi_inj hmv (by omega) q1)
      rw [a3] at z4
      exact z4.elim sn12 sn13
    · rintro ⟨⟨a1, a2, a3, -⟩, a4⟩
      exact ⟨a3, a2, a4⟩
  have uq : ∀ f f', f < nf → f' < nf → frmP t (nI j) b f → frmP t (nI j) b f' → f = f' := by
    intro f f' hf hf' q q'
    have e := lk_frm h0 hj b
    have one : ∀ f, f < nf → frmP t (nI j) b f → ∃ k, slotF t (nI j) b = some k ∧ gP s 4 2 k = some f := by
      intro f hf ⟨a1, a2, a3, a4⟩
      cases hp : gP s 2 4 f with
      | none =>
        obtain ⟨c1, c2⟩ := s4 f hf a1 hp
        exact absurd ⟨by rw [m1, c1, oi_s], c2⟩ a4
      | some k =>
        obtain ⟨c1, c2, c3, c4, c5⟩ := s3 f k hf hp
        exact ⟨k, lk_sl h0 hj c1 (c3.symm.trans a2) (c4.symm.trans a3), c2⟩
    obtain ⟨k, e1, e2⟩ := one f hf q
    obtain ⟨k', e3, e4⟩ := one f' hf' q'
    rw [e1] at e3
    cases e3
    rw [e2] at e4
    exact Option.some.inj e4
  cases hs : frmF t nf (nI j) b with
  | none =>
    refine ff_nil (fun f _ hf q => ?_)
    exact ff_none hs f (by omega) (by omega) ((key f (by omega)).mp q).1
  | some f =>
    obtain ⟨-, b1, b2, -⟩ := ff_some hs
    show hoF s nf (nI j) b = if gI t 42 f 0 = 1 then some f else none
    by_cases c : gI t 42 f 0 = 1
    · rw [if_pos c]
      refine ff_eq (by omega) (by omega) ((key f (by omega)).mpr ⟨b2, c⟩) (fun m _ hm q => ?_)
      have := uq m f (by omega) (by omega) ((key m (by omega)).mp q).1 b2
      omega
    · rw [if_neg c]
      refine ff_nil (fun m _ hm q => ?_)
      obtain ⟨q1, q2⟩ := (key m (by omega)).mp q
      have := uq m f (by omega) (by omega) q1 b2
      rw [this] at q2
      exact c q2
theorem lk_plc (h : Rl g s t nf B Q) {j : Nat} (hj : j < 4) (b : Int32) : plcF t (nI j) b = (slotF t (nI j) b).bind (fun k => gP s 4 3 k) := by
  have h0 := h
  obtain ⟨⟨l1, -⟩, -, ⟨-, -, -, ⟨m1, m2, -⟩, ss, -⟩, -⟩ := h
  have hnf := l1.1.2
  obtain ⟨s1, s2, s3, s4, s5, s6, s7, s8, s9, s10, s11, s12, s13, s14⟩ := ss_d ss
  have key : ∀ p, p < 64 → plcP t (nI j) b p → ∃ k, slotF t (nI j) b = some k ∧ gP s 4 3 k = some p := by
    intro p hp ⟨a1, a2, a3⟩
    rcases s7 p hp (by rw [a1]; exact nI_nm (by omega)) with ⟨k, c1, c2⟩ | ⟨c1, c2, c3⟩
    · obtain ⟨d1, d2, d3, d4, d5⟩ := s6 k p c1 c2
      exact ⟨k, lk_sl h0 hj c1 (d2.symm.trans a1) (d3.symm.trans a2), c2⟩
    · refine absurd ⟨?_, c2, (m2 p c3).symm⟩ a3
      cases hm : gP s 1 3 0 with
      | none => exact absurd hm c1
      | some f =>
        obtain ⟨p', z⟩ := s10 f hm
        rw [m1, hm, oi_s, i32_le]
        exact nI_pos (by omega)
  cases hs : slotF t (nI j) b with
  | none =>
    refine ff_nil (fun p _ hp q => ?_)
    obtain ⟨k, c1, c2⟩ := key p (by omega) q
    rw [hs] at c1
    cases c1
  | some k =>
    obtain ⟨-, k64, ⟨k1, k2⟩, -⟩ := ff_some hs
    show plcF t (nI j) b = gP s 4 3 k
    cases hp : gP s 4 3 k with
    | none =>
      refine ff_nil (fun p _ hp2 q => ?_)
      obtain ⟨k', c1, c2⟩ := key p (by omega) q
      rw [hs] at c1
      cases c1
      rw [hp] at c2
      cases c2
    | some p =>
      obtain ⟨d1, d2, d3, d4, d5⟩ := s6 k p (by omega) hp
      refine ff_eq (by omega) (by omega) ⟨d2.trans k1, d3.trans k2, ?_⟩ (fun m _ hm q => ?_)
      · rintro ⟨q1, q2, q3⟩
        refine d5 ⟨q2, ?_, ?_⟩
        · intro z
          rw [m1, z, oi_n] at q1
          exact absurd q1 (by decide)
        · cases hm : gP s 1 3 0 with
          | none =>
            rw [m1, hm, oi_n] at q1
            exact absurd q1 (by decide)
          | some f =>
            obtain ⟨p', z1, z2, -⟩ := s10 f hm
            rw [z1]
            rw [m2 p' z1, nI_eq (by omega) (by omega)] at q3
            rw [q3]
      · obtain ⟨k', c1, c2⟩ := key m (by omega) q
        rw [hs] at c1
        cases c1
        rw [hp] at c2
        cases c2
        omega
end Rel4
