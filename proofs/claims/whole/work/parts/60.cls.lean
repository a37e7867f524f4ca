/-! THE CLASS: its layout, its rows -/
def cap (r : Nat) : Nat := if r = 0 then 1000 else if r = 1 then 64 else if r = 2 then 400 else if r % 2 = 1 then 500 else 200
theorem cap_b (r : Nat) : 64 ≤ cap r ∧ cap r ≤ 1000 := by unfold cap; (repeat' split) <;> omega
abbrev LC (s : Sg) (nf : Nat) : Prop := (3 ≤ nf ∧ nf ≤ 16) ∧
  (cn s 0 = 1 ∧ cn s 1 = 1 ∧ cn s 2 = nf ∧ cn s 3 = 4 ∧ cn s 4 = 64 ∧ cn s 5 = 1 ∧ cn s 6 = 64 ∧ cn s 7 = 1 ∧ cn s 8 = 1 ∧ cn s 9 = 11 ∧ cn s 10 = 1 ∧ cn s 12 = 1 ∧ cn s 13 = 1 ∧ cn s 14 = 1 ∧ cn s 15 = 4 ∧ cn s 17 = 1 ∧ cn s 18 = 1 ∧ cn s 19 = 11 ∧ cn s 20 = 1) ∧
  (gP s 0 0 0 = some 0 ∧ gP s 1 0 0 = some 0 ∧ gP s 1 1 0 = some 0 ∧ gP s 5 0 0 = some 0 ∧ gP s 7 0 0 = some 2 ∧ gP s 7 2 0 = some 0 ∧ gP s 8 0 0 = some 0 ∧ gP s 8 1 0 = some 0 ∧ gP s 10 0 0 = some 0 ∧ gP s 10 1 0 = some 1 ∧ gP s 10 2 0 = some 0 ∧ gP s 10 3 0 = some 0 ∧ gP s 10 4 0 = some 0 ∧ gP s 10 5 0 = some 0 ∧ gP s 10 6 0 = some 0 ∧ gP s 10 7 0 = some 0) ∧
  (ln s 12 0 = nf ∧ ln s 13 0 = 64 ∧ ln s 14 0 = 16 ∧ ln s 17 0 = 64 ∧ ln s 18 0 = 4 ∧ ln s 20 0 = 4) ∧
  ((∀ j, j < 4 → gP s 3 12 j = some j) ∧ (∀ j, j < 4 → gP s 3 13 j = some (3 + 2 * j)) ∧ (∀ j, j < 4 → gP s 3 14 j = some (4 + 2 * j)) ∧ (∀ j, j < 4 → gI s 3 0 j = nI j) ∧ (∀ j, j < 4 → ln s 15 j = 128) ∧ (∀ j, j < 4 → gP s 20 j 0 = some j)) ∧
  ((∀ i, i < nf → gP s 12 i 0 = some i) ∧ (∀ i, i < nf → gI s 2 0 i = nI i)) ∧
  ((∀ i, i < 64 → gP s 13 i 0 = some i) ∧ (∀ i, i < 64 → gP s 17 i 0 = some i) ∧ (∀ i, i < 64 → gI s 6 0 i = nI i)) ∧
  ((∀ r, r < 11 → gP s 9 0 r = some r) ∧ (∀ r, r < 11 → ln s 19 r = cap r)) ∧
  (cn s 16 ≤ 64 ∧ ∀ i, i < cn s 16 → ln s 16 i = 512)
theorem LC_sI {s : Sg} {nf c k i : Nat} {v : Int32} (hl : LC s nf) (h : ¬ (c = 2 ∧ k = 0) ∧ ¬ (c = 3 ∧ k = 0) ∧ ¬ (c = 6 ∧ k = 0)) : LC (sI s c k i v) nf := by
  obtain ⟨a1, a2, a3, a4, ⟨b1, b2, b3, b4, b5, b6⟩, ⟨d1, d2⟩, ⟨e1, e2, e3⟩, f1, f2⟩ := hl
  refine ⟨a1, a2, a3, a4, ⟨b1, b2, b3, ?_, b5, b6⟩, ⟨d1, ?_⟩, ⟨e1, e2, ?_⟩, f1, f2⟩
  · intro j hj; rw [gI_sI, if_neg (by omega)]; exact b4 j hj
  · intro j hj; rw [gI_sI, if_neg (by omega)]; exact d2 j hj
  · intro j hj; rw [gI_sI, if_neg (by omega)]; exact e3 j hj
theorem LC_sJ {s : Sg} {nf c k i : Nat} {v : Int64} (hl : LC s nf) : LC (sJ s c k i v) nf := hl
/-- the references that change -/
abbrev dyP (c k : Nat) : Prop := (c = 1 ∧ (k = 3 ∨ k = 4)) ∨ (c = 2 ∧ k = 4) ∨ (c = 3 ∧ k = 11) ∨ (c = 4 ∧ (k = 2 ∨ k = 3 ∨ k = 4)) ∨ (c = 8 ∧ (k = 2 ∨ k = 3)) ∨ c = 14 ∨ c = 18
theorem LC_sP {s : Sg} {nf c k i : Nat} {v : Option Nat} (hl : LC s nf) (h : dyP c k) : LC (sP s c k i v) nf := by
  obtain ⟨a1, a2, ⟨g1, g2, g3, g4, g5, g6, g7, g8, g9, g10, g11, g12, g13, g14, g15, g16⟩, a4, ⟨b1, b2, b3, b4, b5, b6⟩, ⟨d1, d2⟩, ⟨e1, e2, e3⟩, ⟨f1, f3⟩, f2⟩ := hl
  unfold dyP at h
  refine ⟨a1, a2, ⟨?_, ?_, ?_, ?_, ?_, ?_, ?_, ?_, ?_, ?_, ?_, ?_, ?_, ?_, ?_, ?_⟩, a4, ⟨?_, ?_, ?_, b4, b5, ?_⟩, ⟨?_, d2⟩, ⟨?_, ?_, e3⟩, ⟨?_, f3⟩, f2⟩
  all_goals first
    | (rw [gP_sP, if_neg (by omega)]; assumption)
    | (intro j hj; rw [gP_sP, if_neg (by omega)]; first | exact b1 j hj | exact b2 j hj | exact b3 j hj | exact b6 j hj | exact d1 j hj | exact e1 j hj | exact e2 j hj | exact f1 j hj)
section Cls1
variable {g : Nat → Nat → Nat} {s : Sg} {X : Sg × Option Av} {nf : Nat}
/-- row r has c words, the first at place f -/
abbrev RO (s : Sg) (r c f : Nat) : Prop := gI s 9 2 r = nI c ∧ gI s 9 1 r = nI f ∧ c ≤ cap r ∧ f < cap r
def rix (r f e : Nat) : Nat := if f + e < cap r then f + e else f + e - cap r
theorem rix_lt {r f e : Nat} (hf : f < cap r) (he : e ≤ cap r) : rix r f e < cap r := by unfold rix; split <;> omega
theorem c_cellOf (h : LC s nf) {r c f e : Nat} (hr : r < 11) (ho : RO s r c f) (he : e ≤ cap r) : Rn g 85 0 [some (.inr (.inr (some (9, r)))), some (.inl (nI e)), none] [] s X ↔ X = (s, some (.inl (nI (rix r f e)))) := by
  have hc := cap_b r
  unfold rix
  by_cases a1 : f + e < cap r
  · have h1 : nI (f + e) < nI (cap r) := nI_lt a1 (by omega)
    simp [Q85, MM, MK, h, hr, ho, nI_add, ofN, h1, a1]
  · have h1 : ¬ nI (f + e) < nI (cap r) := nI_nlt (by omega) (by omega)
    have h2 : nI (f + e) - nI (cap r) = nI (f + e - cap r) := nI_sub (by omega)
    simp only [Q85, MM, MK, h, hr, ho, nI_add, ofN, h1, a1, h2, if_false]
theorem c_size (h : LC s nf) {r c f : Nat} (hr : r < 11) (ho : RO s r c f) : Rn g 77 0 [some (.inr (.inr (some (9, r))))] [] s X ↔ X = (s, some (.inl (nI c))) := by
  simp [Q77, MM, MK, h, hr, ho]
theorem c_room (h : LC s nf) {r c f : Nat} (hr : r < 11) (ho : RO s r c f) : Rn g 78 0 [some (.inr (.inr (some (9, r))))] [] s X ↔ X = (s, some (.inl (nI (cap r - c)))) := by
  simp [Q78, MM, MK, h, hr, ho, ofN, nI_sub ho.2.2.1]
theorem c_clear (h : LC s nf) {r : Nat} (hr : r < 11) : Rn g 84 0 [some (.inr (.inr (some (9, r))))] [] s X ↔ X = (sI (sI s 9 1 r 0) 9 2 r 0, none) := by
  simp [Q84, MM, MK, h, hr]
theorem c_append (h : LC s nf) {r c f : Nat} {v : Int64} (hr : r < 11) (ho : RO s r c f) : Rn g 79 0 [some (.inr (.inr (some (9, r)))), some (.inr (.inl v)), none, none] [] s X ↔ X = if c < cap r then (sI (sJ s 19 (rix r f c) r v) 9 2 r (nI (c + 1)), some (.inl 1)) else (s, some (.inl 0)) := by
  have hc := cap_b r
  have hce := fun X => c_cellOf (g := g) (X := X) h hr ho ho.2.2.1
  have hx := rix_lt ho.2.2.2 ho.2.2.1
  have h3 : ¬ nI (rix r f c) < 0 := nI_pos (by omega)
  have h4 : nI (rix r f c) < nI (cap r) := nI_lt hx (by omega)
  by_cases a1 : c < cap r
  · have h1 : ¬ nI (cap r) ≤ nI c := nI_ge a1 (by omega)
    have h5 : ¬ nI (cap r) ≤ nI (rix r f c) := nI_ge hx (by omega)
    simp only [Q79, MM, MK, h, hr, ho, hce, ofN, h1, a1, h3, h4, h5, inN hx (show cap r ≤ 65536 by omega), nI_1, if_true, if_false, exists_eq_left, List.nil_append, List.cons_append, eq_self, or_true]
  · have h1 : nI (cap r) ≤ nI c := nI_le (by omega) (by omega)
    simp [Q79, MM, MK, h, hr, ho, hce, ofN, h1, a1]
theorem c_at (h : LC s nf) {r c f : Nat} {x0 : Int32} (hr : r < 11) (ho : RO s r c f) : Rn g 82 0 [some (.inr (.inr (some (9, r)))), some (.inl x0), none] [] s X ↔ X = (s, some (.inr (.inl (if x0 < 0 ∨ ¬ x0 < nI c then 0 else gJ s 19 (rix r f x0.toNatClampNeg) r)))) := by
  have hc := cap_b r
  by_cases a1 : x0 < 0
  · simp [Q82, MM, MK, h, hr, a1]
  · obtain ⟨e, he, rfl⟩ := nI_of a1
    by_cases a2 : e < c
    · have h1 : ¬ nI c ≤ nI e := nI_ge a2 (by omega)
      have h1' : nI e < nI c := nI_lt a2 (by omega)
      have hce := fun X => c_cellOf (g := g) (X := X) h hr ho (show e ≤ cap r by omega)
      have hx := rix_lt (e := e) ho.2.2.2 (by omega)
      have h3 : ¬ nI (rix r f e) < 0 := nI_pos (by omega)
      have h5 : ¬ nI (cap r) ≤ nI (rix r f e) := nI_ge hx (by omega)
      have h4 : nI (rix r f e) < nI (cap r) := nI_lt hx (by omega)
      have h6 := inN hx (show cap r ≤ 65536 by omega)
      have h7 := nI_clamp he
      simp only [Q82, MM, MK, h, hr, ho, hce, ofN, h1, h1', a1, h3, h4, h5, h6, h7, if_true, if_false, exists_eq_left, List.nil_append, List.cons_append, not_true, or_self]
    · have h1 : nI c ≤ nI e := nI_le (by omega) he
      have h1' : ¬ nI e < nI c := nI_nlt (by omega) he
      simp [Q82, MM, MK, h, hr, ho, h1, h1', a1]
theorem c_fromEnd (h : LC s nf) {r c f : Nat} {x0 : Int32} (hr : r < 11) (ho : RO s r c f) : Rn g 83 0 [some (.inr (.inr (some (9, r)))), some (.inl x0)] [] s X ↔ X = (s, some (.inr (.inl (if x0 < 0 ∨ ¬ x0 < nI c then 0 else gJ s 19 (rix r f (c - 1 - x0.toNatClampNeg)) r)))) := by
  have hc := cap_b r
  by_cases a1 : x0 < 0
  · simp [Q83, MM, MK, h, hr, a1]
  · obtain ⟨e, he, rfl⟩ := nI_of a1
    by_cases a2 : e < c
    · have h1 : ¬ nI c ≤ nI e := nI_ge a2 (by omega)
      have h1' : nI e < nI c := nI_lt a2 (by omega)
      have h2 : nI c - 1 - nI e = nI (c - 1 - e) := by
        rw [show nI c - 1 = nI (c - 1) from nI_sub (b := 1) (by omega), nI_sub (by omega)]
      have hat := fun X => c_at (g := g) (X := X) (x0 := nI (c - 1 - e)) h hr ho
      have h3 : ¬ nI (c - 1 - e) < 0 := nI_pos (by omega)
      have h4 : nI (c - 1 - e) < nI c := nI_lt (by omega) (by omega)
      have h7 := nI_clamp he
      have h8 := nI_clamp (show c - 1 - e < 2 ^ 31 by omega)
      simp only [Q83, MM, MK, h, hr, ho, hat, h1, h1', a1, h2, h3, h4, h7, h8, if_true, if_false, exists_eq_left, List.nil_append, List.cons_append, not_true, or_self]
    · have h1 : nI c ≤ nI e := nI_le (by omega) he
      have h1' : ¬ nI e < nI c := nI_nlt (by omega) he
      simp [Q83, MM, MK, h, hr, ho, h1, h1', a1]
theorem c_takeFirst (h : LC s nf) {r c f : Nat} (hr : r < 11) (ho : RO s r c f) (h0 : 0 < c) : Rn g 81 0 [some (.inr (.inr (some (9, r)))), none, none] [] s X ↔ X = (sI (sI s 9 1 r (nI (rix r f 1))) 9 2 r (nI (c - 1)), some (.inr (.inl (gJ s 19 f r)))) := by
  have hc := cap_b r
  have h1 : ¬ nI c ≤ 0 := nI_nle h0 (by omega)
  have h2 : ¬ nI f < 0 := nI_pos (by omega)
  have h3 : nI f < nI (cap r) := nI_lt ho.2.2.2 (by omega)
  have h3' : ¬ nI (cap r) ≤ nI f := nI_ge ho.2.2.2 (by omega)
  have h4 := inN ho.2.2.2 (show cap r ≤ 65536 by omega)
  have hce := fun X => c_cellOf (g := g) (X := X) h hr ho (show 1 ≤ cap r by omega)
  rw [show nI 1 = 1 from rfl] at hce
  have h5 : nI c - 1 = nI (c - 1) := nI_sub (b := 1) (by omega)
  simp [Q81, MM, MK, h, hr, ho, hce, ofN, h1, h2, h3, h3', h4, h5]
theorem c_push (h : LC s nf) {r c f : Nat} {v : Int64} (hr : r < 11) (ho : RO s r c f) : Rn g 80 0 [some (.inr (.inr (some (9, r)))), some (.inr (.inl v)), none] [] s X ↔ X = (if c < cap r then sI (sJ s 19 (rix r f c) r v) 9 2 r (nI (c + 1)) else sI (sJ (sI (sI s 9 1 r (nI (rix r f 1))) 9 2 r (nI (c - 1))) 19 (rix r (rix r f 1) (c - 1)) r v) 9 2 r (nI c), none) := by
  have hc := cap_b r
  by_cases a1 : c < cap r
  · have h1 : nI c < nI (cap r) := nI_lt a1 (by omega)
    have h1' : ¬ nI (cap r) ≤ nI c := nI_ge a1 (by omega)
    have hap := fun X => c_append (g := g) (X := X) (v := v) h hr ho
    simp only [a1, if_true] at hap ⊢
    simp only [Q80, MM, MK, h, hr, ho, hap, ofN, h1, h1', if_true, if_false, exists_eq_left, List.nil_append, List.cons_append]
  · have h1 : ¬ nI c < nI (cap r) := nI_nlt (by omega) (by omega)
    have h1' : nI (cap r) ≤ nI c := nI_le (by omega) (by omega)
    have hcc : c = cap r := by have := ho.2.2.1; omega
    have htk := fun X => c_takeFirst (g := g) (X := X) h hr ho (by omega)
    have h' : LC (sI (sI s 9 1 r (nI (rix r f 1))) 9 2 r (nI (c - 1))) nf := LC_sI (LC_sI h (by omega)) (by omega)
    have ho' : RO (sI (sI s 9 1 r (nI (rix r f 1))) 9 2 r (nI (c - 1))) r (c - 1) (rix r f 1) := ⟨by simp [MM], by simp [MM], by omega, rix_lt ho.2.2.2 (by omega)⟩
    have hap := fun X => c_append (g := g) (X := X) (v := v) h' hr ho'
    have h9 : c - 1 < cap r := by omega
    have h10 : c - 1 + 1 = c := by omega
    simp only [h9, if_true, h10] at hap
    simp only [a1, if_false]
    simp only [Q80, MM, MK, h, hr, ho, htk, hap, ofN, h1, h1', if_true, if_false, exists_eq_left, List.nil_append, List.cons_append]
end Cls1
