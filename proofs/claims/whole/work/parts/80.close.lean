/-! the end of a job: each side's memory as one write -/
section Clo1
variable {g : Nat → Nat → Nat} {s t : Sg} {X : Sg × Option Av} {nf B : Nat} {Q : List Nat}
theorem LC_cg {s' : Sg} (hl : LC s nf) (h1 : ∀ c k i, (c = 2 ∧ k = 0) ∨ (c = 3 ∧ k = 0) ∨ (c = 6 ∧ k = 0) → gI s' c k i = gI s c k i) (h2 : ∀ c k i, ¬ dyP c k → gP s' c k i = gP s c k i) (h3 : s'.2.2.2 = s.2.2.2) : LC s' nf := by
  obtain ⟨a1, a2, ⟨g1, g2, g3, g4, g5, g6, g7, g8, g9, g10, g11, g12, g13, g14, g15, g16⟩, a4, ⟨b1, b2, b3, b4, b5, b6⟩, ⟨d1, d2⟩, ⟨e1, e2, e3⟩, ⟨f1, f3⟩, f2⟩ := hl
  have c1 : ∀ c, cn s' c = cn s c := fun c => by unfold cn; rw [h3]
  have c2 : ∀ c i, ln s' c i = ln s c i := fun c i => by unfold ln; rw [h3]
  unfold dyP at h2
  refine ⟨a1, ?_, ⟨?_, ?_, ?_, ?_, ?_, ?_, ?_, ?_, ?_, ?_, ?_, ?_, ?_, ?_, ?_, ?_⟩, ?_, ⟨?_, ?_, ?_, ?_, ?_, ?_⟩, ⟨?_, ?_⟩, ⟨?_, ?_, ?_⟩, ⟨?_, ?_⟩, ?_⟩
  all_goals first
    | (simp only [c1]; exact a2)
    | (simp only [c2]; exact a4)
    | (simp only [c1, c2]; exact f2)
    | (rw [h2 _ _ _ (by omega)]; assumption)
    | (intro j hj; rw [h2 _ _ _ (by omega)]; first | exact b1 j hj | exact b2 j hj | exact b3 j hj | exact b6 j hj | exact d1 j hj | exact e1 j hj | exact e2 j hj | exact f1 j hj)
    | (intro j hj; rw [h1 _ _ _ (by omega)]; first | exact b4 j hj | exact d2 j hj | exact e3 j hj)
    | (intro j hj; rw [c2]; first | exact b5 j hj | exact f3 j hj)
def clsF (s : Sg) (nf j : Nat) (st : Int32) (q o : Nat) : Sg :=
  let u := dqF (nI j) 0 q (sI (sI (sI s 3 1 j st) 3 8 j (gI s 10 8 0)) 3 5 j 0, 0)
  sI (sP (rlsF (nI j) (dclF (nI j) (gP s 1 4 0) (cclF (nI j) (gP s 1 3 0) (sI u.1 1 2 0 (nI u.2)) 0 nf) 0 64) 0 64) 18 o 0 (some j)) 7 3 0 (nI (o + 1))
def clT (s : Sg) (nf j : Nat) (st tk : Int32) (o ql : Nat) (H : Nat → Option Nat) : Sg :=
  ((fun c k e => if c = 3 ∧ k = 1 ∧ e = j then st else if c = 3 ∧ k = 8 ∧ e = j then tk else if c = 3 ∧ k = 5 ∧ e = j then 0 else if c = 1 ∧ k = 2 ∧ e = 0 then nI ql else if c = 2 ∧ k = 1 ∧ e < nf ∧ gI s 2 2 e = nI j ∧ ¬ some e = gP s 1 3 0 then 0 else if c = 6 ∧ k = 1 ∧ e < 64 ∧ gI s 6 2 e = nI j ∧ ¬ some e = gP s 1 4 0 then 0 else if c = 4 ∧ k = 0 ∧ e < 64 ∧ gI s 4 0 e = nI j then -1 else if c = 7 ∧ k = 3 ∧ e = 0 then nI (o + 1) else gI s c k e), (fun c k e => if c = 16 ∧ e < 64 ∧ k < 512 ∧ gI s 4 0 e = nI j ∧ ¬ gP s 4 4 e = none then 0 else gJ s c k e), (fun c k e => if c = 14 ∧ e = 0 then H k else if c = 2 ∧ k = 4 ∧ e < nf ∧ gI s 2 2 e = nI j then none else if c = 4 ∧ (k = 2 ∨ k = 3) ∧ e < 64 ∧ gI s 4 0 e = nI j then none else if c = 18 ∧ e = 0 ∧ k = o then some j else gP s c k e), s.2.2.2)
theorem cls_eq {j : Nat} {st : Int32} {o : Nat} (hj : j < 4) (h : ∀ m f, Q[m]? = some f → gP s 14 m 0 = some f) : ∃ H, clsF s nf j st Q.length o = clT s nf j st (gI s 10 8 0) o (Q.filter (fun f => !decide (gI s 2 2 f = nI j))).length H ∧ ∀ m f, (Q.filter (fun f => !decide (gI s 2 2 f = nI j)))[m]? = some f → H m = some f := by
  obtain ⟨H, e1, e2⟩ := dq_eq (o := nI j) (s := sI (sI (sI s 3 1 j st) 3 8 j (gI s 10 8 0)) 3 5 j 0) (Q := Q) h
  refine ⟨H, ?_, e2⟩
  unfold clsF
  rw [e1]
  dsimp only
  rw [rlsF_eq _ (nI_nm (by omega)), dclF_eq, cclF_eq]
  have f1 : (fun f => !decide (gI (sI (sI (sI s 3 1 j st) 3 8 j (gI s 10 8 0)) 3 5 j 0) 2 2 f = nI j)) = fun f => !decide (gI s 2 2 f = nI j) := rfl
  rw [f1]
  generalize (Q.filter (fun f => !decide (gI s 2 2 f = nI j))).length = ql
  refine Prod.ext ?_ (Prod.ext ?_ (Prod.ext ?_ rfl))
  · funext c k e
    simp only [sI, sP, qfr, clT, tup_I, tup_P, gI, gP, Nat.zero_le, true_and, Nat.zero_add]
    grind
  · funext c k e
    simp only [sI, sP, qfr, clT, tup_I, tup_J, tup_P, gI, gJ, gP, Nat.zero_le, true_and, Nat.zero_add]
    grind
  · funext c k e
    simp only [sI, sP, qfr, clT, tup_I, tup_P, gI, gP, Nat.zero_le, true_and, Nat.zero_add]
    grind
def enT (t : Sg) (nf j : Nat) (how n : Int32) (o : Nat) (Q : List Nat) (G : Nat → Nat → Nat → Int32) : Sg :=
  ((fun c k e => if c = 22 ∧ e = 0 ∧ k = j then how else if c = 29 ∧ e = 0 ∧ k = j then n else if c = 25 ∧ e = 0 ∧ k = j then -1 else if c = 37 ∧ e = 0 ∧ k = o then nI j else if c = 11 ∧ e = 0 ∧ k = 19 then nI (o + 1) else if c = 51 ∨ c = 52 ∨ (c = 11 ∧ k = 42) then G c k e else if c = 42 ∧ e = 0 ∧ ((k ∈ Q ∧ gI t 43 k 0 = nI j) ∨ (k < nf ∧ gI t 42 k 0 = 1 ∧ gI t 43 k 0 = nI j)) then 0 else if c = 49 ∧ e = 0 ∧ k < 64 ∧ gI t 49 k 0 = nI j ∧ ¬ (¬ gI t 11 33 0 < 0 ∧ nI k = gI t 11 34 0) then -1 else if c = 38 ∧ e = 0 ∧ k < 64 ∧ gI t 38 k 0 = nI j then -1 else if c = 11 ∧ k = 36 ∧ e = 0 ∧ itsP t j then 1 else gI t c k e), t.2)
theorem end_eq {j o : Nat} {how n : Int32} {w : Nat → Int32} (h32 : Q.length ≤ 32) (hQ : ∀ f, f ∈ Q → f < 16) (h : QW t w Q) : ∃ G, endF t nf j how n o Q.length = enT t nf j how n o Q G ∧ (G 11 42 0 = nI (Q.filter (fun f => !decide (gI t 43 f 0 = nI j))).length ∧ ∀ i f, (Q.filter (fun f => !decide (gI t 43 f 0 = nI j)))[i]? = some f → G 51 i 0 = nI f ∧ G 52 i 0 = w f) := by
  have hq0 : QW (e0F t j how n o) w Q := ⟨h.1, fun i f e => h.2 i f e⟩
  obtain ⟨G, e1, e2⟩ := e1_l (j := j) Q.length Q (e0F t j how n o) (Nat.le_refl _) h32 hQ hq0
  rw [List.take_of_length_le (Nat.le_refl _), List.drop_of_length_le (Nat.le_refl _), List.append_nil] at e2
  rw [List.take_of_length_le (Nat.le_refl _)] at e1
  have f1 : ∀ k, gI (e0F t j how n o) 43 k 0 = gI t 43 k 0 := fun k => rfl
  simp only [f1] at e1 e2
  refine ⟨G, ?_, ?_⟩
  · unfold endF
    dsimp only
    rw [e1]
    have hits : itsP ((fun c k e => if c = 51 ∨ c = 52 ∨ (c = 11 ∧ k = 42) then G c k e else if c = 42 ∧ e = 0 ∧ k ∈ Q ∧ gI t 43 k 0 = nI j then 0 else gI (e0F t j how n o) c k e), (e0F t j how n o).2) j ↔ itsP t j := Iff.rfl
    by_cases c : itsP t j
    · rw [if_pos (hits.mpr c), e4F_eq, e3F_eq, e2F_eq]
      refine Prod.ext ?_ rfl
      funext c' k e
      have a1 := sn01
      simp only [sI, e0F, enT, tup_I, gI, Nat.zero_le, true_and, Nat.zero_add]
      by_cases q22 : c' = 22
      · subst q22; simp <;> grind
      by_cases q29 : c' = 29
      · subst q29; simp <;> grind
      by_cases q25 : c' = 25
      · subst q25; simp <;> grind
      by_cases q37 : c' = 37
      · subst q37; simp <;> grind
      by_cases q11 : c' = 11
      · subst q11; simp <;> grind
      by_cases q51 : c' = 51
      · subst q51; simp <;> grind
      by_cases q52 : c' = 52
      · subst q52; simp <;> grind
      by_cases q42 : c' = 42
      · subst q42; simp <;> grind
      by_cases q49 : c' = 49
      · subst q49; simp <;> grind
      by_cases q38 : c' = 38
      · subst q38; simp <;> grind
      simp [q22, q29, q25, q37, q11, q51, q52, q42, q49, q38]
    · rw [if_neg (fun z => c (hits.mp z)), e4F_eq, e3F_eq, e2F_eq]
      refine Prod.ext ?_ rfl
      funext c' k e
      have a1 := sn01
      simp only [sI, e0F, enT, tup_I, gI, Nat.zero_le, true_and, Nat.zero_add]
      by_cases q22 : c' = 22
      · subst q22; simp <;> grind
      by_cases q29 : c' = 29
      · subst q29; simp <;> grind
      by_cases q25 : c' = 25
      · subst q25; simp <;> grind
      by_cases q37 : c' = 37
      · subst q37; simp <;> grind
      by_cases q11 : c' = 11
      · subst q11; simp <;> grind
      by_cases q51 : c' = 51
      · subst q51; simp <;> grind
      by_cases q52 : c' = 52
      · subst q52; simp <;> grind
      by_cases q42 : c' = 42
      · subst q42; simp <;> grind
      by_cases q49 : c' = 49
      · subst q49; simp <;> grind
      by_cases q38 : c' = 38
      · subst q38; simp <;> grind
      simp [q22, q29, q25, q37, q11, q51, q52, q42, q49, q38]
  · rw [e1] at e2
    exact e2
end Clo1
