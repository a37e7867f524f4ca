/-! both programs begin alike -/
/-- the same memory, but the heap has n cells -/
def szF (s : Sg) (n : Nat) : Sg := (s.1, s.2.1, s.2.2.1, s.2.2.2.1, s.2.2.2.2.1, n, s.2.2.2.2.2.2)
section Ini1
variable {s t : Sg} {b nf l l2 : Nat}
theorem rl_init (h : IC s b nf l) (h2 : RI t b nf l2 64 4) : Rl (gC b nf) (szF s (b + 205 + nf)) t nf 0 [] ∧ gI (szF s (b + 205 + nf)) 10 8 0 = nI 0 ∧ gI t 11 47 0 = nI 0 := by
  obtain ⟨h1, hI, hJ, ⟨p1, p2, p3, p4, p5⟩, hc, hz, -⟩ := h
  obtain ⟨q1, q2, q3, q4, -⟩ := h2
  have l1 := h1
  have nf16 : nf ≤ 16 := h1.1.2
  have hI' : ∀ c k e, gI (szF s (b + 205 + nf)) c k e = _ := fun c k e => hI c k e
  have t0 : ∀ c k, ¬ c = 11 → ¬ c = 38 → ¬ c = 49 → ¬ c = 25 → ¬ c = 29 → gI t c k 0 = 0 := fun c k a1 a2 a3 a4 a5 => by
    rw [q2]; unfold rI
    rw [if_neg (by omega), if_neg (by omega), if_neg (by omega), if_neg (by omega)]
  have t11 : ∀ k, ¬ k = 0 → ¬ k = 33 → gI t 11 k 0 = 0 := fun k a1 a2 => by
    rw [q2]; unfold rI
    rw [if_neg (by omega), if_neg (by omega), if_neg (by omega), if_neg (by omega)]
  have t38 : ∀ k, k < 64 → gI t 38 k 0 = -1 := fun k a => by
    rw [q2]; unfold rI
    rw [if_neg (by omega), if_neg (by omega), if_pos ⟨Or.inl rfl, rfl, a⟩]
  have t49 : ∀ k, k < 64 → gI t 49 k 0 = -1 := fun k a => by
    rw [q2]; unfold rI
    rw [if_neg (by omega), if_neg (by omega), if_pos ⟨Or.inr rfl, rfl, a⟩]
  have t25 : ∀ k, k < 4 → gI t 25 k 0 = -1 := fun k a => by
    rw [q2]; unfold rI
    rw [if_neg (by omega), if_neg (by omega), if_neg (by omega), if_pos ⟨Or.inl rfl, rfl, a⟩]
  have t29 : ∀ k, k < 4 → gI t 29 k 0 = -1 := fun k a => by
    rw [q2]; unfold rI
    rw [if_neg (by omega), if_neg (by omega), if_neg (by omega), if_pos ⟨Or.inr rfl, rfl, a⟩]
  have s0 : ∀ c k e, ¬ (c = 3 ∧ (k = 0 ∨ k = 8)) → ¬ (c = 2 ∧ k = 0) → ¬ (c = 6 ∧ k = 0) → ¬ (c = 4 ∧ k = 0) → gI (szF s (b + 205 + nf)) c k e = 0 := fun c k e a1 a2 a3 a4 => by
    rw [hI']
    rw [if_neg (by omega), if_neg (by omega), if_neg (by omega), if_neg (by omega), if_neg (by omega)]
  have s38 : ∀ j, j < 4 → gI (szF s (b + 205 + nf)) 3 8 j = -1 := fun j a => by
    rw [hI']
    rw [if_neg (by omega), if_pos ⟨rfl, rfl, a⟩]
  have s40 : ∀ k, k < 64 → gI (szF s (b + 205 + nf)) 4 0 k = -1 := fun k a => by
    rw [hI']
    rw [if_neg (by omega), if_neg (by omega), if_neg (by omega), if_neg (by omega), if_pos ⟨rfl, rfl, a⟩]
  have p1' : gP (szF s (b + 205 + nf)) 1 3 0 = none := p1
  have p2' : gP (szF s (b + 205 + nf)) 1 4 0 = none := p2
  have hns : ∀ j, j < 4 → nsl t j = 0 := fun j hj => cf_pos (fun m _ hm z => by
    rw [t38 m (by omega)] at z
    exact nI_nm (n := j) (by omega) z.symm)
  have hro : ∀ r, RO (szF s (b + 205 + nf)) r 0 0 := fun r => ⟨s0 9 2 r (by omega) (by omega) (by omega) (by omega), s0 9 1 r (by omega) (by omega) (by omega) (by omega), Nat.zero_le _, by have := cap_b r; omega⟩
  have n03 : (0 : Int32) < 3 := by decide
  generalize hu : szF s (b + 205 + nf) = u at *
  have l1' : LC u nf := by rw [← hu]; exact l1
  have hz' : re_Z (gC b nf) u := by
    unfold re_Z
    rw [← hu]
    show b + 205 + nf = gC b nf 16 (cn s 16)
    rw [hc]; rfl
  have u44 : ∀ k, gP u 4 4 k = none := fun k => by rw [← hu]; exact (p3 k).2.2
  have u42 : ∀ k, gP u 4 2 k = none := fun k => by rw [← hu]; exact (p3 k).1
  have u43 : ∀ k, gP u 4 3 k = none := fun k => by rw [← hu]; exact (p3 k).2.1
  have u24 : ∀ k, gP u 2 4 k = none := fun k => by rw [← hu]; exact p4 k
  have u311 : ∀ k, gP u 3 11 k = none := fun k => by rw [← hu]; exact p5 k
  have uc : cn u 16 = 0 := by rw [← hu]; exact hc
  have uJ : ∀ c k e, gJ u c k e = 0 := fun c k e => by rw [← hu]; exact hJ c k e
  refine ⟨⟨⟨l1', q1, hz'⟩, ⟨⟨?_, ?_, ?_, ?_, ?_, ?_, ?_, ?_⟩, ?_, ?_, ⟨?_, ?_⟩, ?_⟩, ⟨⟨?_, ?_, ?_, ?_, ?_, ?_, ?_, ?_⟩, ⟨?_, ?_⟩, ?_, ?_, ?_, ?_⟩, ⟨?_, ?_, ?_, ?_, ?_, ?_, ?_, ?_⟩, ?_, ?_⟩, ?_, ?_⟩
  · intro j hj; rw [s0 _ _ _ (by omega) (by omega) (by omega) (by omega), t0 _ _ (by omega) (by omega) (by omega) (by omega) (by omega)]
  · intro j hj; rw [s0 _ _ _ (by omega) (by omega) (by omega) (by omega), t0 _ _ (by omega) (by omega) (by omega) (by omega) (by omega)]
  · intro j hj; rw [s0 _ _ _ (by omega) (by omega) (by omega) (by omega), t0 _ _ (by omega) (by omega) (by omega) (by omega) (by omega)]
  · intro j hj; rw [s0 _ _ _ (by omega) (by omega) (by omega) (by omega), t0 _ _ (by omega) (by omega) (by omega) (by omega) (by omega)]
  · intro j hj; rw [s0 _ _ _ (by omega) (by omega) (by omega) (by omega), t0 _ _ (by omega) (by omega) (by omega) (by omega) (by omega)]
  · intro j hj; rw [s0 _ _ _ (by omega) (by omega) (by omega) (by omega), t0 _ _ (by omega) (by omega) (by omega) (by omega) (by omega)]
  · intro j hj; rw [s38 j hj, t29 j hj]
  · intro j hj; rw [s0 _ _ _ (by omega) (by omega) (by omega) (by omega), t0 _ _ (by omega) (by omega) (by omega) (by omega) (by omega)]
  · intro j hj
    rw [t0 22 j (by omega) (by omega) (by omega) (by omega) (by omega), s0 3 5 j (by omega) (by omega) (by omega) (by omega), t0 41 j (by omega) (by omega) (by omega) (by omega) (by omega)]
    exact ⟨fun _ => rfl, fun _ => rfl⟩
  · intro j hj
    refine Or.inl ⟨u311 j, t25 j hj, ?_⟩
    rw [t0 22 j (by omega) (by omega) (by omega) (by omega) (by omega)]
    decide
  · intro j hj
    exact Or.inl (t0 22 j (by omega) (by omega) (by omega) (by omega) (by omega))
  · intro k hk
    exact Or.inl (t38 k hk)
  · refine ⟨fun j hj _ => ?_, ⟨fun _ => 0, fun j hj => ⟨?_, fun _ => ?_⟩, by dsimp only; omega⟩, fun j hj => ⟨0, 0, ?_, ?_, by omega, by omega, fun _ => rfl⟩⟩
    · rw [t0 41 j (by omega) (by omega) (by omega) (by omega) (by omega), hns j hj]; rfl
    · unfold resF
      rw [if_pos (t0 22 j (by omega) (by omega) (by omega) (by omega) (by omega)), t0 41 j (by omega) (by omega) (by omega) (by omega) (by omega)]; rfl
    · rw [hns j hj]; exact Nat.le_refl 0
    · exact t0 24 j (by omega) (by omega) (by omega) (by omega) (by omega)
    · exact t0 26 j (by omega) (by omega) (by omega) (by omega) (by omega)
  · intro j hj; rw [s0 _ _ _ (by omega) (by omega) (by omega) (by omega), t0 _ _ (by omega) (by omega) (by omega) (by omega) (by omega)]
  · intro j hj; rw [s0 _ _ _ (by omega) (by omega) (by omega) (by omega), t0 _ _ (by omega) (by omega) (by omega) (by omega) (by omega)]
  · intro j hj; rw [s0 _ _ _ (by omega) (by omega) (by omega) (by omega), t0 _ _ (by omega) (by omega) (by omega) (by omega) (by omega)]
  · intro j hj; rw [s0 _ _ _ (by omega) (by omega) (by omega) (by omega), t0 _ _ (by omega) (by omega) (by omega) (by omega) (by omega)]
  · intro j hj; rw [s0 _ _ _ (by omega) (by omega) (by omega) (by omega), t0 _ _ (by omega) (by omega) (by omega) (by omega) (by omega)]
  · intro j hj; rw [s0 _ _ _ (by omega) (by omega) (by omega) (by omega), t0 _ _ (by omega) (by omega) (by omega) (by omega) (by omega)]
  · intro j hj; rw [s0 _ _ _ (by omega) (by omega) (by omega) (by omega), t0 _ _ (by omega) (by omega) (by omega) (by omega) (by omega)]
  · intro f hf
    exact ⟨Or.inl (t0 47 f (by omega) (by omega) (by omega) (by omega) (by omega)), Or.inl (t0 48 f (by omega) (by omega) (by omega) (by omega) (by omega))⟩
  · intro k hk; rw [s40 k hk, t38 k hk]
  · intro k hk; rw [s0 _ _ _ (by omega) (by omega) (by omega) (by omega), t0 _ _ (by omega) (by omega) (by omega) (by omega) (by omega)]
  · intro p hp
    rw [t49 p hp, s0 6 1 p (by omega) (by omega) (by omega) (by omega)]
    exact ⟨⟨fun _ => rfl, fun _ => rfl⟩, fun z => absurd rfl z⟩
  · refine ⟨?_, fun p z => ?_, fun f z => ?_⟩
    · rw [p1', oi_n, q2]; rfl
    · rw [p2'] at z; cases z
    · rw [p1'] at z; cases z
  · unfold re_S SS
    refine ⟨fun k k' hk hk' z => absurd (t38 k hk) z, fun k f hk z => ?_, fun f k hf z => ?_, fun f hf z => absurd (t0 42 f (by omega) (by omega) (by omega) (by omega) (by omega)) z, fun f z => ?_, fun k p hk z => ?_, fun p hp z => absurd (t49 p hp) z, fun f k hf z => ?_, fun _ => p2', fun f z => ?_, fun f hf => Or.inl (t0 42 f (by omega) (by omega) (by omega) (by omega) (by omega)), fun f z => ?_, List.nodup_nil, fun f hf z => ?_⟩
    · rw [u42] at z; cases z
    · rw [u24] at z; cases z
    · rw [p1'] at z; cases z
    · rw [u43] at z; cases z
    · rw [u24] at z; cases z
    · rw [p1'] at z; cases z
    · cases z
    · have z' : gI t 42 f 0 = 2 ∨ gI t 42 f 0 = 3 := z
      rw [t0 42 f (by omega) (by omega) (by omega) (by omega) (by omega)] at z'
      exact absurd z' (by decide)
  · refine ⟨s0 1 2 0 (by omega) (by omega) (by omega) (by omega), t11 42 (by omega) (by omega), fun i f z => by simp at z⟩
  · intro j k hj hk; rw [s0 _ _ _ (by omega) (by omega) (by omega) (by omega), t0 _ _ (by omega) (by omega) (by omega) (by omega) (by omega)]
  · intro j hj
    rw [uJ, q3]
    exact ⟨rfl, wh_z⟩
  · refine ⟨fun k hk => ?_, fun k hk _ => t38 k hk, fun k e hk _ z => absurd (t38 k hk) z, fun i hi => ?_, fun k e _ _ _ _ => uJ _ _ _⟩
    · rw [u44, uc, if_neg (by omega)]
    · rw [q3]; exact wh_z
  · intro j hj
    exact ⟨0, 0, hro _, t0 30 j (by omega) (by omega) (by omega) (by omega) (by omega), fun e he => by omega⟩
  · intro j hj
    exact ⟨0, 0, 0, hro _, t0 31 j (by omega) (by omega) (by omega) (by omega) (by omega), t0 32 j (by omega) (by omega) (by omega) (by omega) (by omega), by omega, fun e he => by omega⟩
  · exact ⟨0, 0, hro _, t11 2 (by omega) (by omega), fun e he => by omega⟩
  · exact ⟨0, 0, 0, hro _, t11 44 (by omega) (by omega), s0 10 11 0 (by omega) (by omega) (by omega) (by omega), by omega, by omega, fun e he => by omega⟩
  · exact ⟨0, 0, 0, hro _, t11 46 (by omega) (by omega), s0 7 1 0 (by omega) (by omega) (by omega) (by omega), by omega, by omega, fun e he => by omega⟩
  · exact ⟨0, s0 7 3 0 (by omega) (by omega) (by omega) (by omega), t11 19 (by omega) (by omega), by omega, fun i hi => by omega, fun i i' hi => by omega⟩
  · refine ⟨?_, ?_, ?_, ?_, ?_⟩
    · rw [s0 _ _ _ (by omega) (by omega) (by omega) (by omega), t11 _ (by omega) (by omega)]
    · rw [s0 _ _ _ (by omega) (by omega) (by omega) (by omega), t11 _ (by omega) (by omega)]
    · rw [s0 _ _ _ (by omega) (by omega) (by omega) (by omega), t11 _ (by omega) (by omega)]
    · rw [s0 _ _ _ (by omega) (by omega) (by omega) (by omega), t11 _ (by omega) (by omega)]
    · rw [s0 _ _ _ (by omega) (by omega) (by omega) (by omega), t11 _ (by omega) (by omega)]
  · exact s0 10 8 0 (by omega) (by omega) (by omega) (by omega)
  · exact t11 47 (by omega) (by omega)
end Ini1
