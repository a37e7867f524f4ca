/-! one instruction in both programs: the last order of a job; where both stand before the effect -/
section Wk2
variable {g : Nat → Nat → Nat} {s s' t : Sg} {X : Sg × Option Av} {nf B : Nat} {Q : List Nat} {j : Nat} {s1 t1 : Sg} {n : Int32} {o : Nat}
theorem LC_un {u : Sg} {k i : Nat} {v : Int32} (h : LC (sI u 10 k i v) nf) : LC u nf :=
  LC_cg h (fun c k i hc => by rcases hc with ⟨rfl, rfl⟩ | ⟨rfl, rfl⟩ | ⟨rfl, rfl⟩ <;> rfl) (fun c k i _ => rfl) rfl
theorem wk_last {f A : Nat} {T : Sg} (hl2 : LC (st2F (s1, -2) j A f) nf) (hj : j < 4) (hoe : gP s1 8 3 0 = none) (h1 : Rl g (tT s1 j f none (gI s1 3 3 j + 1) (gI s1 10 9 0 + 1)) (sI T 11 48 0 (gI s1 10 9 0 + 1)) nf B Q) (hst : gI T 22 j 0 = 1) (hn : gI s1 10 8 0 = n) (ho : gI T 11 19 0 = nI o) (ho4 : o < 4) (hc : ∀ X, Rn g 58 0 [some (.inr (.inr (some (8, 0)))), some (.inr (.inr (some (3, j)))), none, none, none] [] s X ↔ X = (st2F (s1, -2) j A f, some (.inl (-2)))) (hr : ∀ X, Rn g 157 0 [some (.inr (.inr (some (11, 0)))), some (.inl (nI j)), some (.inl n), none, none, none, none, none, none, none, none, none] [] t X ↔ X = (endF (sI T 11 48 0 (gI s1 10 9 0 + 1)) nf j 3 n o Q.length, some (.inl 1))) (ht : gI T 11 47 0 = gI t 11 47 0) : WK g s t nf B j n := by
  obtain ⟨e1, e2⟩ := st2_tT (j := j) (f := f) (A := A) (kp_id (s := s1)) hoe (x := -2) (Or.inr rfl)
  rw [← e1] at h1
  have e3 : gI (st2F (s1, -2) j A f) 10 9 0 = gI s1 10 9 0 := by
    unfold st2F
    rw [if_pos (Or.inr rfl)]
    dsimp only
    rw [hoe]
    rfl
  rw [e3] at h1
  generalize st2F (s1, -2) j A f = S at *
  obtain ⟨a1, a2, a3, a4, a5, a6, a7, a8, a9, a10, a11⟩ := rl_qf h1
  obtain ⟨o', b1, b2, b3⟩ := rl_of h1
  obtain rfl : o = o' := (nI_eq (by omega) (by omega)).mp (ho.symm.trans b1)
  obtain ⟨Q', k1, k2, k3, k4⟩ := rl_end_i (how := 3) (n := n) h1 hj hst (Or.inl rfl) ho ho4 (e2.trans hn)
  have hwi : WI (sI S 10 9 0 (gI s1 10 9 0 + 1)) := rl_WI h1
  have hwi : WI S := hwi
  have rc := fun X => c_close (g := g) (X := X) (st := 3) hl2 hwi hj a10 a6 a7 a8 b3 ho4
  have hlu : LC (clsF S nf j 3 Q.length o) nf := LC_un k1.1.1
  have k5 : gI (clsF S nf j 3 Q.length o) 10 9 0 = gI s1 10 9 0 := (k3 9).trans e3
  rw [← k5] at k1
  have h2 := rl_ins k1
  refine ⟨S, -2, _, _, 1, Q', hc, hl2, fun X => c_settle_last hl2 hlu rc, hr, Or.inr rfl, ?_, ?_, ?_, k2.trans ht⟩
  · rw [← k5]
    exact k1.1.2.1
  · rw [if_pos rfl, ← k5]
    exact h2
  · unfold insF
    split
    · rw [gI_sI, if_neg (by decide), clk_gI (by decide), gI_sI, if_neg (by decide), k3 8]
      exact e2.trans hn
    · rw [gI_sI, if_neg (by decide), k3 8]
      exact e2.trans hn
theorem tT_base {f : Nat} (h : Rl g s1 t1 nf B Q) (hj : j < 4) (hst : ¬ gI t1 22 j 0 = 0) (hd : gI s1 3 3 j < gI s1 3 4 j) : Rl g (tT s1 j f none (gI s1 3 3 j + 1) (gI s1 10 9 0 + 1)) (tchF (w5F t1 j) f) nf B Q := by
  unfold tT w5F
  dsimp only
  have e : gI t1 11 48 0 = gI s1 10 9 0 := h.2.2.2.2.2.1.symm
  rw [sI_cm (c := 2) (k := 8) (c' := 10) (k' := 9) (by omega), sI_cm (c := 2) (k := 7) (c' := 10) (k' := 9) (by omega), e]
  exact rl_touch (rl_inst (rl_done h hj hst hd))
theorem tT_base2 {f e : Nat} (h : Rl g s1 t1 nf B Q) (hj : j < 4) (hst : ¬ gI t1 22 j 0 = 0) (hd : gI s1 3 3 j < gI s1 3 4 j) : Rl g (tT s1 j f (some e) (gI s1 3 3 j + 1) (gI s1 10 9 0 + 1)) (tchF (tchF (w5F t1 j) f) e) nf B Q := by
  have := rl_touch (f := e) (tT_base (f := f) h hj hst hd)
  unfold tT at this ⊢
  dsimp only at this ⊢
  rw [sI_cm (c := 10) (k := 9) (c' := 2) (k' := 7) (by omega), sI_cm (c := 10) (k := 9) (c' := 2) (k' := 8) (by omega)] at this
  exact this
theorem rg_ef {F : Int32} : ((192 : Int64) ≤ F.toInt64 ∧ F.toInt64 ≤ 255) ↔ ¬ (F < 192 ∨ 255 < F) := by
  rw [i64_le_i, i64_le_i, t64, show (192 : Int64).toInt = 192 by decide, show (255 : Int64).toInt = 255 by decide, Int32.lt_iff_toInt_lt, Int32.lt_iff_toInt_lt, show (192 : Int32).toInt = 192 by decide, show (255 : Int32).toInt = 255 by decide]
  omega
theorem ef_eq (h : Rl g s t nf B Q) (hj : j < 4) {F N : Int32} {a m : Nat} (ha : a < 128) (hm : m < 128) : efF s j F a m N = seF t j F a m N := by
  unfold efF seF
  have ra := h.2.2.2.1.1 j a hj ha
  have rm := h.2.2.2.1.1 j m hj hm
  rw [ra, rm]
  by_cases c : F < 192 ∨ 255 < F
  · rw [if_pos c, if_neg (fun z => rg_ef.mp z c), show (0 : Int32).toInt64 = 0 by decide, Int64.add_zero]
  · rw [if_neg c, if_pos (rg_ef.mpr c)]
theorem pf_no {F N : Int32} {a m c x d e : Nat} (hk : knB F = 0) : pfG s j F a m N c x d e = (s, 1) ∧ stB F = 0 := by
  have hn : ¬ knP F := fun z => by unfold knB at hk; rw [if_pos z] at hk; exact absurd hk (by decide)
  unfold knP at hn
  simp only [not_or] at hn
  obtain ⟨h0, ⟨f80, f81, f82⟩, f84, f86, f87, f122, f128, f131, ⟨f140, f141, f142, f143⟩, ⟨f148, f149, f150, f151⟩, ⟨f156, f157, f158, f159⟩, f244, f245, f552, f566, f580, f591, f593, f704⟩ := hn
  refine ⟨?_, ?_⟩
  · unfold pfG
    split
    · simp [roF, f80, f81, f82, f84, f86, f87, f122]
    · split
      · simp [joF, f128, f131, f140, f141, f142, f143, f148, f149, f150, f151, f156, f157, f158, f159]
      · split
        · simp [shG, f244, f245]
        · simp [exF, f552, f566, f580, f591, f593, f704]
  · unfold stB at h0 ⊢
    split
    · rename_i z
      rw [if_pos z] at h0
      exact absurd rfl h0
    · rfl
theorem kn_cases {F : Int32} (hk : ¬ knB F = 0) (hs : ¬ stB F = 1) : (F = 80 ∨ F = 81 ∨ F = 82 ∨ F = 84 ∨ F = 86 ∨ F = 87 ∨ F = 122) ∨ jmP F ∨ (F = 244 ∨ F = 245) ∨ exP F := by
  have hn : knP F := Classical.byContradiction (fun z => hk (by unfold knB; rw [if_neg z]))
  rcases hn with h0 | ⟨h | h | h⟩ | h | h | h | h | h | h | ⟨h | h | h | h⟩ | ⟨h | h | h | h⟩ | ⟨h | h | h | h⟩ | h | h | h | h | h | h | h | h
  · exact absurd h0 hs
  all_goals (subst h; simp [jmP, exP])
theorem st_cases {F : Int32} (hs : stB F = 1) : (F = 65 ∨ F = 66 ∨ F = 68 ∨ F = 70 ∨ F = 71 ∨ F = 75 ∨ F = 76 ∨ F = 106) ∨ (F = 208 ∨ F = 209 ∨ F = 210 ∨ F = 212 ∨ F = 213 ∨ F = 230 ∨ F = 238 ∨ F = 242 ∨ F = 252) := by
  have hn : stP F := Classical.byContradiction (fun z => by unfold stB at hs; rw [if_neg z] at hs; exact absurd hs (by decide))
  rcases hn with ⟨h | h⟩ | h | h | h | h | h | h | ⟨h | h | h⟩ | h | h | h | h | h | h
  all_goals (subst h; simp)
end Wk2
