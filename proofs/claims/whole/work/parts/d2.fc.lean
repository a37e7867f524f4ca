/-! constructors: a job, the class itself -/
/-- where a cell lies: the class from b on, then the reference, then the pages' words -/
def gC (b nf c i : Nat) : Nat :=
  if c = 0 then b + 143 + i else if c = 1 then b + 72 + i else if c = 2 then b + 145 + i else if c = 3 then b + 146 + nf + 6 * i
  else if c = 4 then b + 8 + i else if c = 5 then b + 6 + i else if c = 6 then b + 75 + i else if c = 7 then b + 139 + i
  else if c = 8 then b + 145 + nf + i
  else if c = 9 then (if i < 2 then b + 1 + 2 * i else if i = 2 then b + 140 else b + 148 + nf + 6 * ((i - 3) / 2) + 2 * ((i - 3) % 2))
  else if c = 10 then b + i else if c = 11 then b + 170 + nf + i
  else if c = 12 then b + 144 + i else if c = 13 then b + 73 + i else if c = 14 then b + 74 + i else if c = 15 then b + 147 + nf + 6 * i
  else if c = 16 then b + 205 + nf + i
  else if c = 17 then b + 7 + i else if c = 18 then b + 142 + i
  else if c = 19 then (if i < 2 then b + 2 + 2 * i else if i = 2 then b + 141 else b + 149 + nf + 6 * ((i - 3) / 2) + 2 * ((i - 3) % 2))
  else if c = 20 then b + 5 + i
  else b + 171 + nf + (c - 21) + i
section Fc4
variable {g : Nat → Nat → Nat} {s : Sg} {X : Sg × Option Av} {I I' : Nat → Nat → Nat → Int32} {P P' : Nat → Nat → Nat → Option Nat} {N N' : Nat → Nat} {L L' : Nat → Nat → Nat} {z l z' l' c k i n j : Nat}
theorem k_job (f : FC s I P N L z l) (hj : j < 4) (hN3 : N 3 = j + 1) (hN15 : N 15 = j) (hN9 : N 9 = 3 + 2 * j) (hN19 : N 19 = 3 + 2 * j) (hz1 : z = g 15 j) (hz2 : z + 1 = g 9 (3 + 2 * j)) (hz3 : z + 2 = g 19 (3 + 2 * j)) (hz4 : z + 3 = g 9 (4 + 2 * j)) (hz5 : z + 4 = g 19 (4 + 2 * j)) : ∃ s', (∀ X, Rn g 30 0 [some (.inr (.inr (some (3, j)))), some (.inl (nI j))] [] s X ↔ X = (s', none)) ∧ FC s' (uI (uI I 3 0 j (nI j)) 3 8 j (-1)) (uP (uP (uP (uP (uP P 3 12 j (some j)) 9 0 (3 + 2 * j) (some (3 + 2 * j))) 3 13 j (some (3 + 2 * j))) 9 0 (4 + 2 * j) (some (4 + 2 * j))) 3 14 j (some (4 + 2 * j))) (fun c => if c = 15 then j + 1 else if c = 9 then 5 + 2 * j else if c = 19 then 5 + 2 * j else N c) (uL (uL (uL L 15 j 128) 19 (3 + 2 * j) 500) 19 (4 + 2 * j) 200) (z + 5) (l + 128 + 3 + 500 + 3 + 200) := by
  have e1 : cn s 3 = j + 1 := by rw [FC_cn f, hN3]
  have e2 : cn s 15 = j := by rw [FC_cn f, hN15]
  have e3 : sz s = g 15 j := by rw [FC_sz f]; exact hz1
  have f1 := FC_nwA (c := 15) (n := 128) f
  rw [hN15] at f1
  have f2 := FC_sP (c := 3) (k := 12) (i := j) (v := some j) f1 (by rw [uM_n (by omega), hN3]; omega)
  obtain ⟨s1, hs1⟩ : ∃ q, q = sP (nw s 15 128) 3 12 j (some j) := ⟨_, rfl⟩
  rw [← hs1] at f2
  have a1 : ∀ X, Rn g 30 0 [some (.inr (.inr (some (3, j)))), some (.inl (nI j))] [] s X ↔ Rn g 30 13 [some (.inr (.inr (some (3, j)))), some (.inl (nI j))] [] s1 X := fun X => by
    rw [hs1]
    simp only [e30_0, e30_1, e30_4, e30_5, e30_8, e30_10, e30_10s, e30_10sm, MM, MK, e1, e2, e3, c128, not_false_eq_true, show (128 : Nat) ≤ 65536 by omega, if_true, if_false, Nat.lt_succ_self, show ¬ (3 : Nat) = 15 by omega]
  -- the tape
  have d1 : cn s1 3 = j + 1 := by rw [FC_cn f2, uM_n (by omega), hN3]
  have d2 : cn s1 9 = 3 + 2 * j := by rw [FC_cn f2, uM_n (by omega), hN9]
  have d3 : sz s1 = g 9 (3 + 2 * j) := by rw [FC_sz f2]; exact hz2
  have f3 := FC_nw (c := 9) (n := 3) f2 (by omega)
  obtain ⟨s2, r2, f4⟩ := k_row (g := g) (i := 3 + 2 * j) (w := 500) (m := 500) f3 (by rw [uM_c, uM_n (by omega), hN9]; omega) rfl (by omega) (by omega) (by rw [uM_n (by omega), uM_n (by omega), hN19]; exact hz3)
  rw [uM_n (c := 9) (c' := 19) (by omega), uM_n (c := 15) (c' := 19) (by omega), hN19] at f4
  have f5 := FC_sP (c := 3) (k := 13) (i := j) (v := some (3 + 2 * j)) f4 (by rw [uM_n (by omega), uM_n (by omega), uM_n (by omega), hN3]; omega)
  have d4 : cn s2 3 = j + 1 := by rw [FC_cn f4, uM_n (by omega), uM_n (by omega), uM_n (by omega), hN3]
  obtain ⟨s3, hs3⟩ : ∃ q, q = sP s2 3 13 j (some (3 + 2 * j)) := ⟨_, rfl⟩
  rw [← hs3] at f5
  have a2 : ∀ X, Rn g 30 13 [some (.inr (.inr (some (3, j)))), some (.inl (nI j))] [] s1 X ↔ Rn g 30 27 [some (.inr (.inr (some (3, j)))), some (.inl (nI j))] [] s3 X := fun X => by
    rw [hs3]
    simp only [e30_13, e30_14, e30_17, e30_18, e30_21, e30_24, e30_24s, e30_24sm, MM, MK, d1, d2, d3, d4, r2, if_true, if_false, Nat.lt_succ_self, exists_eq_left, List.nil_append, List.cons_append, List.append_nil]
  -- the paper
  have b2 : cn s3 9 = 4 + 2 * j := by rw [FC_cn f5, uM_n (by omega), uM_c, uM_n (by omega), hN9]; omega
  have b3 : sz s3 = g 9 (4 + 2 * j) := by rw [FC_sz f5]; exact hz4
  have f6 := FC_nw (c := 9) (n := 3) f5 (by omega)
  have q19 : uM (uM (uM (uM N 15) 9) 19) 9 19 = 4 + 2 * j := by rw [uM_n (by omega), uM_c, uM_n (by omega), uM_n (by omega), hN19]; omega
  obtain ⟨s4, r4, f7⟩ := k_row (g := g) (i := 4 + 2 * j) (w := 200) (m := 200) f6 (by rw [uM_c, uM_n (by omega), uM_c, uM_n (by omega), hN9]; omega) rfl (by omega) (by omega) (by rw [q19]; exact hz5)
  rw [q19] at f7
  have q3 : uM (uM (uM (uM (uM N 15) 9) 19) 9) 19 3 = j + 1 := by rw [uM_n (by omega), uM_n (by omega), uM_n (by omega), uM_n (by omega), uM_n (by omega), hN3]
  have f8 := FC_sP (c := 3) (k := 14) (i := j) (v := some (4 + 2 * j)) f7 (by rw [q3]; omega)
  have f9 := FC_sI (c := 3) (k := 0) (i := j) (v := nI j) f8 (by rw [q3]; omega)
  have f10 := FC_sI (c := 3) (k := 8) (i := j) (v := -1) f9 (by rw [q3]; omega)
  have d5 : cn s4 3 = j + 1 := by rw [FC_cn f7, q3]
  refine ⟨_, fun X => ?_, FC_cg f10 (fun _ _ _ => rfl) (fun _ _ _ => rfl) (fun c => ?_) (fun _ _ _ => rfl) (by omega) (by omega)⟩
  · rw [a1, a2]
    simp only [e30_27, e30_28, e30_31, e30_32, e30_35, e30_38, e30_38s, e30_38sm, e30_41, e30_42, e30_43, e30_46, e30_47, e30_48, e30_51, MM, MK, b2, b3, d5, r4, if_true, if_false, Nat.lt_succ_self, exists_eq_left, List.nil_append, List.cons_append, List.append_nil]
  · dsimp only [uM]
    by_cases c1 : c = 15
    · subst c1; simp [hN15]
    · by_cases c2 : c = 9
      · subst c2; simp [hN9]; omega
      · by_cases c3 : c = 19
        · subst c3; simp [hN19]; omega
        · simp [c1, c2, c3]
end Fc4
