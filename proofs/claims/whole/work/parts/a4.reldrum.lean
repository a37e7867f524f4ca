/-! the drum turns, in both programs -/
theorem sP_self {s : Sg} {c k i : Nat} {v : Option Nat} (h : gP s c k i = v) : sP s c k i v = s := by
  refine Prod.ext rfl (Prod.ext rfl (Prod.ext ?_ rfl))
  funext a b d
  show (if a = c ∧ b = k ∧ d = i then v else s.2.2.1 a b d) = s.2.2.1 a b d
  split
  · rename_i q
    rw [q.1, q.2.1, q.2.2, ← h]; rfl
  · rfl
section Rdr1
variable {g : Nat → Nat → Nat} {s t u : Sg} {X : Sg × Option Av} {nf B : Nat} {Q : List Nat}
theorem sec_eq {c : Nat} (hc : c < 8) (hl : ∀ p, p < 64 → (gI s 6 1 p = 0 ↔ gI t 49 p 0 = -1)) : ff (fpP s c) 0 64 = (ff (seP t c) 0 8).map (fun e => 8 * e + c) := by
  cases e : ff (seP t c) 0 8 with
  | none =>
    have := ff_none e
    show _ = none
    refine ff_nil (fun m _ hm hp => ?_)
    have h1 := hp.2
    refine this (m / 8) (by omega) (by omega) ?_
    show gI t 49 (8 * (m / 8) + c) 0 = -1
    rw [show 8 * (m / 8) + c = m by omega]
    exact (hl m (by omega)).mp hp.1
  | some x =>
    obtain ⟨a1, a2, a3, a4⟩ := ff_some e
    show _ = some (8 * x + c)
    refine ff_eq (by omega) (by omega) ⟨(hl _ (by omega)).mpr a3, by omega⟩ (fun m _ hm hp => ?_)
    have h1 := hp.2
    refine a4 (m / 8) (by omega) (by omega) ?_
    show gI t 49 (8 * (m / 8) + c) 0 = -1
    rw [show 8 * (m / 8) + c = m by omega]
    exact (hl m (by omega)).mp hp.1
theorem pl_lt {c f i : Nat} (hc : c < 8) : plR t c f i = -1 ∨ ∃ p, p < 64 ∧ plR t c f i = nI p := by
  unfold plR
  split
  · cases e : ff (seP t c) 0 8 with
    | none => exact Or.inl rfl
    | some x =>
      have := (ff_some e).2.1
      exact Or.inr ⟨8 * x + c, by omega, rfl⟩
  · cases e : plcF t (gI t 43 f 0) (gI t 44 f 0) with
    | none => exact Or.inl rfl
    | some x =>
      have := (ff_some e).2.1
      exact Or.inr ⟨x, by omega, rfl⟩
theorem pl_eq {c f i k : Nat} (h : Rl g s t nf B Q) (hc : c < 8) (hi : Q[i]? = some f) (hk : gP s 2 4 f = some k) : (pfF s (gI s 2 1 f) k c = none ∧ (plR t c f i = -1 ∨ ¬ plR t c f i - plR t c f i / 8 * 8 = nI c)) ∨ ∃ p, pfF s (gI s 2 1 f) k c = some p ∧ p < 64 ∧ plR t c f i = nI p ∧ p % 8 = c ∧ ((gI t 42 f 0 = 3 ∧ gI t 49 p 0 = -1) ∨ (gI t 42 f 0 = 2 ∧ gP s 4 3 k = some p)) := by
  have hR := h
  obtain ⟨⟨l1, l2, l3⟩, ⟨j0, bb, ww, nn, hh⟩, ⟨⟨f1, f2, f3, f5, f6, f7, f8, fb⟩, ⟨pp0, pp1⟩, ll, mm, ss, ⟨q1, q2, q3⟩⟩, r0⟩ := h
  obtain ⟨h1, h2, h3, h4, h5, h6, h7, h8, h9, h10, h11, h12, h13, h14⟩ := ss_d ss
  have hfQ : f ∈ Q := List.mem_of_getElem? hi
  obtain ⟨hfn, hfs, hfm⟩ := h12 f hfQ
  obtain ⟨z1, z2, z3, z4, z5⟩ := h3 f k hfn hk
  have w52 := (q3 i f hi).2.2
  rw [f1 f hfn]
  rcases hfs with st | st
  · unfold pfF plR
    rw [w52, st, if_pos rfl, if_neg (show ¬ (2 : Int32) = 3 by decide), if_neg (show ¬ (0 : Int32) = 1 by decide)]
    obtain ⟨j, hj, ej, _⟩ : ∃ j, j < 4 ∧ gI t 38 k 0 = nI j ∧ gI t 22 j 0 < 3 := (nn.2 k z1).elim (fun e => absurd e (h2 k f z1 z2).2.2) id
    have hsl := lk_sl hR hj z1 ej rfl
    have hpl := lk_plc hR hj (gI t 39 k 0)
    have hpl' : plcF t (nI j) (gI t 39 k 0) = gP s 4 3 k := by rw [hpl, hsl]; rfl
    rw [z3, z4, ej, hpl']
    cases e : gP s 4 3 k with
    | none => exact Or.inl ⟨rfl, Or.inl rfl⟩
    | some p =>
      have hp := (h6 k p z1 e).1
      by_cases c1 : p % 8 = c
      · refine Or.inr ⟨p, ?_, hp, rfl, c1, Or.inr ⟨rfl, rfl⟩⟩
        show (if p % 8 = c then some p else none) = some p
        rw [if_pos c1]
      · refine Or.inl ⟨?_, Or.inr ?_⟩
        · show (if p % 8 = c then some p else none) = none
          rw [if_neg c1]
        · show ¬ nI p - nI p / 8 * 8 = nI c
          rw [m8 (by omega)]
          exact fun z => c1 ((nI_eq (by omega) (by omega)).mp z)
  · unfold pfF plR
    rw [w52, st, if_neg (show ¬ (3 : Int32) = 2 by decide), if_pos rfl, if_pos rfl, sec_eq hc (fun p hp => (ll p hp).1)]
    cases e : ff (seP t c) 0 8 with
    | none => exact Or.inl ⟨rfl, Or.inl rfl⟩
    | some x =>
      obtain ⟨a1, a2, a3, a4⟩ := ff_some e
      exact Or.inr ⟨8 * x + c, rfl, by omega, rfl, by omega, Or.inl ⟨rfl, a3⟩⟩
theorem rl_bt {tk : Int32} {c : Nat} (h : Rl g s t nf B Q) (hc : c < 8) (hm : gP s 1 3 0 = none) : ∀ m i, i + m = Q.length → ∃ Q', Rl g (btF s tk c Q.length i m) (btR t tk c Q.length i m) nf B Q'
  | 0, i, hi => ⟨Q, h⟩
  | m + 1, i, hi => by
    obtain ⟨f, ef⟩ : ∃ f, Q[i]? = some f := ⟨Q[i], List.getElem?_eq_getElem (by omega)⟩
    have qf := rl_qf h
    obtain ⟨a1, a2, a3, a4, a5, a6, a7, a8, a9, a10, a11⟩ := qf
    have e14 := a10 i f ef
    have e51 := (a9.2 i f ef).1
    have hf16 := a11 f (List.mem_of_getElem? ef)
    have hR := h
    obtain ⟨⟨l1, l2, l3⟩, ⟨j0, bb, ww, nn, hh⟩, ⟨⟨f1, f2, f3, f5, f6, f7, f8, fb⟩, ⟨pp0, pp1⟩, ll, mm, ss, ⟨q1, q2, q3⟩⟩, r0⟩ := h
    obtain ⟨h1, h2, h3, h4, h5, h6, h7, h8, h9, h10, h11, h12, h13, h14⟩ := ss_d ss
    obtain ⟨hfn, hfs, hfm⟩ := h12 f (List.mem_of_getElem? ef)
    obtain ⟨k, hk⟩ : ∃ k, gP s 2 4 f = some k := by
      cases e : gP s 2 4 f with
      | none =>
        have := (h4 f hfn (by rcases hfs with z | z <;> rw [z] <;> decide) e).1
        rw [hm] at this
        cases this
      | some k => exact ⟨k, rfl⟩
    rw [btF, btR, e51, nI_clamp (by omega), e14]
    dsimp only
    rw [hk]
    dsimp only
    rcases pl_eq hR hc ef hk with ⟨x1, x2⟩ | ⟨p, x1, x2, x3, x4, x5⟩
    · rw [x1, if_pos x2]
      exact rl_bt hR hc hm m (i + 1) (by omega)
    · rw [x1, x3, m8 (by omega), x4, if_neg (fun z => z.elim (nI_nm (by omega)) (fun z => z rfl)), nI_clamp (by omega)]
      exact ⟨_, rl_bg hR hm ef hk x2 x5⟩
theorem bt_10 {tk : Int32} {c q k : Nat} : ∀ m i, gI (btF s tk c q i m) 10 k 0 = gI s 10 k 0
  | 0, _ => rfl
  | m + 1, i => by
    rw [btF]
    split
    · exact bt_10 m (i + 1)
    · split
      · exact bt_10 m (i + 1)
      · split
        · exact bt_10 m (i + 1)
        · dsimp only
          rw [rmF_eq]; rfl
theorem bg_47 {n : Int32} {f p i q : Nat} : gI (bgR t n f p i q) 11 47 0 = gI t 11 47 0 := by
  unfold bgR leaF; rw [shF_gI, if_neg (by omega)]; rfl
theorem btR_47 {n : Int32} {c q : Nat} : ∀ m i, gI (btR t n c q i m) 11 47 0 = gI t 11 47 0
  | 0, _ => rfl
  | m + 1, i => by
    rw [btR]
    split
    · exact btR_47 m (i + 1)
    · exact bg_47
theorem et_10 {f p k : Nat} : gI (etF s f p) 10 k 0 = gI s 10 k 0 := by
  unfold etF lvF
  dsimp only
  split
  · split <;> rfl
  · split <;> rfl
theorem etR_47 {f p : Nat} : gI (etR t f p) 11 47 0 = gI t 11 47 0 := by
  unfold etR
  show gI (if _ then _ else _) 11 47 0 = _
  split
  · split <;> rfl
  · split <;> rfl
theorem rel_drum (h : Rl g s t nf B Q) {n : Nat} (hn : n < 2 ^ 31) : ∃ s1 s2 t2 Q', (∀ X, Rn g 14 0 [some (.inr (.inr (some (1, 0)))), none, none, none] [] s X ↔ X = (s1, none)) ∧ LC s1 nf ∧ (∀ X, Rn g 16 0 [some (.inr (.inr (some (1, 0)))), some (.inl (nI n)), none, none, none, none, none] [] s1 X ↔ X = (s2, none)) ∧ (∀ X, Rn g 140 0 [some (.inr (.inr (some (11, 0)))), some (.inl (nI n)), none, none, none, none] [] t X ↔ X = (t2, none)) ∧ Rl g s2 t2 nf B Q' ∧ (∀ k, gI s2 10 k 0 = gI s 10 k 0) ∧ (∀ k, gI s1 10 k 0 = gI s 10 k 0) ∧ gI t2 11 47 0 = gI t 11 47 0 := by
  -- the end
  have st1 : ∃ s1 t1, ∃ z2 : Option Av, (∀ X, Rn g 14 0 [some (.inr (.inr (some (1, 0)))), none, none, none] [] s X ↔ X = (s1, none)) ∧ (∀ X, Rn g 140 0 [some (.inr (.inr (some (11, 0)))), some (.inl (nI n)), none, none, none, none] [] t X ↔ Rn g 140 109 [some (.inr (.inr (some (11, 0)))), some (.inl (nI n)), z2, none, none, none] [] t1 X) ∧ Rl g s1 t1 nf B Q ∧ gP s1 1 3 0 = none ∧ (∀ k, gI s1 10 k 0 = gI s 10 k 0) ∧ gI t1 11 47 0 = gI t 11 47 0 := by
    have m1 := h.2.2.1.2.2.2.1.1
    have m2 := h.2.2.1.2.2.2.1.2.1
    obtain ⟨h1, h2, h3, h4, h5, h6, h7, h8, h9, h10, h11, h12, h13, h14⟩ := ss_d h.2.2.1.2.2.2.2.1
    cases e : gP s 1 3 0 with
    | none =>
      rw [e] at m1
      have hlt : gI t 11 33 0 < 0 := by rw [m1]; decide
      refine ⟨_, t, none, fun X => c_endTransfer_0 h.1.1 e, fun X => r_drum_0 h.1.2.1 hlt, ?_, rfl, fun _ => rfl, rfl⟩
      rw [sP_self e, sP_self (h9 e)]
      exact h
    | some f =>
      obtain ⟨p, b1, b2, b3, b4, b5, b6, b7⟩ := h10 f e
      rw [e] at m1
      have hnf : nf ≤ 16 := h.1.1.1.2
      have hk := rl_et h e b1
      refine ⟨_, _, _, fun X => c_endTransfer h.1.1 e b1 b3 b2 (fun x hx => (h3 f x b3 hx).1), fun X => r_drum_1 h.1.2.1 m1 (by omega) (m2 p b1) b2, hk, ?_, fun k => et_10, etR_47⟩
      have mm := hk.2.2.1.2.2.2.1.1
      have e33 : gI (etR t f p) 11 33 0 = -1 := rfl
      rw [e33] at mm
      cases e2 : gP (etF s f p) 1 3 0 with
      | none => rfl
      | some x =>
        have hx := (rl_qf hk).2.2.2.2.2.2.1 x e2
        rw [e2] at mm
        exact absurd mm.symm (nI_nm (by omega))
  obtain ⟨s1, t1, z2, r1, r2, k1, k2, k3, k4⟩ := st1
  have hc : n / 32 % 8 < 8 := by omega
  obtain ⟨a1, a2, a3, a4, a5, a6, a7, a8, a9, a10, a11⟩ := rl_qf k1
  obtain ⟨h1, h2, h3, h4, h5, h6, h7, h8, h9, h10, h11, h12, h13, h14⟩ := ss_d k1.2.2.1.2.2.2.2.1
  have m1 := k1.2.2.1.2.2.2.1.1
  rw [k2] at m1
  have hlt : gI t1 11 33 0 < 0 := by rw [m1]; decide
  obtain ⟨Q', k5⟩ := rl_bt (tk := nI n) k1 hc k2 Q.length 0 (by omega)
  obtain ⟨q', y1, y2, y3⟩ := a4
  have hqq : Q.length = q' := (nI_eq (by omega) (by omega)).mp (a3.symm.trans y2)
  subst hqq
  refine ⟨s1, _, _, Q', r1, k1.1.1, fun X => c_beginTransfer k1.1.1 hn a6 (fun f k hf hk => (h3 f k hf hk).1) (fun k p hk hp => (h6 k p hk hp).1), fun X => ?_, k5, fun k => (bt_10 _ _).trans (k3 k), k3, (btR_47 _ _).trans k4⟩
  rw [r2 X]
  have rl := r_drum_l (g := g) (X := X) (n := nI n) k1.1.2.1 hc hlt a3 (by omega) y3 (fun f i _ _ => pl_lt hc) Q.length 0 none none (by omega)
  rw [nI_0] at rl
  have e1 := d32 hn
  have e2 : nI (n / 32) - nI (n / 32) / 8 * 8 = nI (n / 32 % 8) := m8 (by omega)
  simp [e140_109, e140_110, e140_112, e140_113, e140_115, e140_116, e140_117, e140_118, MM, MK, e1, e2, rl]
end Rdr1
