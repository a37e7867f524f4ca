/-! rings: a row that keeps its latest -/
section Rin1
variable {g : Nat → Nat → Nat} {s t u : Sg} {nf B : Nat} {Q : List Nat}
def RG (s : Sg) (r n : Nat) (val : Nat → Int64) (c f : Nat) : Prop := RO s r c f ∧ c = min n (cap r) ∧ ∀ e, e < c → gJ s 19 (rix r f e) r = val ((n - c + e) % cap r)
theorem ring_push {r n c f : Nat} {val : Nat → Int64} {v : Int64} (h : RG s r n val c f) : ∃ c' f', RG (pshF s r c f v) r (n + 1) (fun i => if i = n % cap r then v else val i) c' f' := by
  obtain ⟨⟨h1, h2, h3, h4⟩, h5, h6⟩ := h
  have hcap := cap_b r
  generalize hK : cap r = K at *
  unfold pshF
  rw [hK]
  by_cases c0 : c < K
  · rw [if_pos c0]
    have hn : n = c := by omega
    refine ⟨c + 1, f, ⟨?_, ?_, by omega, by omega⟩, by omega, fun e he => ?_⟩
    · rw [gI_sI, if_pos ⟨rfl, rfl, rfl⟩]
    · rw [gI_sI, if_neg (by omega)]; exact h2
    · show gJ (sJ s 19 (rix r f c) r v) 19 (rix r f e) r = _
      rw [gJ_sJ]
      have r1 : rix r f e = rix r f c ↔ e = c := by
        unfold rix
        rw [hK]
        grind
      by_cases q : e = c
      · rw [if_pos ⟨rfl, by rw [q], rfl⟩, hK]
        dsimp only
        rw [hn, q, show c + 1 - (c + 1) + c = c by omega, if_pos rfl]
      · rw [if_neg (fun z => q (r1.mp z.2.1))]
        have := h6 e (by omega)
        rw [this, hn, hK, show c - c + e = e by omega, show c + 1 - (c + 1) + e = e by omega]
        dsimp only
        rw [if_neg]
        rw [Nat.mod_eq_of_lt (show e < K by omega), Nat.mod_eq_of_lt c0]
        exact q
  · rw [if_neg c0]
    have hc : c = K := by omega
    have hnK : K ≤ n := by omega
    have hf' : rix r f 1 < K := by have := rix_lt (r := r) (f := f) (e := 1) (by omega) (by omega); omega
    refine ⟨c, rix r f 1, ⟨?_, ?_, by omega, by omega⟩, by omega, fun e he => ?_⟩
    · rw [gI_sI, if_pos ⟨rfl, rfl, rfl⟩]
    · rw [gI_sI, if_neg (by omega)]
      show gI (sI (sI s 9 1 r (nI (rix r f 1))) 9 2 r (nI (c - 1))) 9 1 r = _
      rw [gI_sI, if_neg (by omega), gI_sI, if_pos ⟨rfl, rfl, rfl⟩]
    · show gJ (sJ (sI (sI s 9 1 r (nI (rix r f 1))) 9 2 r (nI (c - 1))) 19 (rix r (rix r f 1) (c - 1)) r v) 19 (rix r (rix r f 1) e) r = _
      rw [gJ_sJ]
      have r1 : rix r (rix r f 1) e = rix r (rix r f 1) (c - 1) ↔ e = c - 1 := by
        unfold rix
        rw [hK]
        grind
      have r2 : e < c - 1 → rix r (rix r f 1) e = rix r f (e + 1) := fun z => by
        unfold rix
        rw [hK]
        grind
      by_cases q : e = c - 1
      · rw [if_pos ⟨rfl, by rw [q], rfl⟩, hK]
        dsimp only
        rw [show n + 1 - c + e = n by omega, if_pos rfl]
      · rw [if_neg (fun z => q (r1.mp z.2.1)), r2 (by omega)]
        show gJ s 19 (rix r f (e + 1)) r = _
        rw [h6 (e + 1) (by omega), hK, show n - c + (e + 1) = n + 1 - c + e by omega]
        dsimp only
        rw [if_neg]
        intro z
        have e1 : n + 1 - c + e = (n - K) + (e + 1) := by omega
        have e2 : n % K = (n - K) % K := by rw [Nat.mod_eq_sub_mod hnK]
        rw [e1, e2] at z
        have hlt : e + 1 < K := by omega
        have hKp : 0 < K := by omega
        have k1 : ((n - K) + (e + 1)) % K = ((n - K) % K + (e + 1)) % K := by rw [Nat.add_mod, Nat.mod_eq_of_lt hlt]
        have k2 : (n - K) % K < K := Nat.mod_lt _ hKp
        rw [k1] at z
        generalize (n - K) % K = y at z k2
        by_cases w : y + (e + 1) < K
        · rw [Nat.mod_eq_of_lt w] at z; omega
        · rw [Nat.mod_eq_sub_mod (by omega), Nat.mod_eq_of_lt (by omega)] at z; omega
theorem psh_9 {r c f : Nat} {v : Int64} : rw9 s (pshF s r c f v) r := by
  unfold pshF
  split
  · exact rw9_t rw9_J rw9_I
  · exact rw9_t rw9_I (rw9_t rw9_I (rw9_t rw9_J rw9_I))
theorem psh_P {r c f : Nat} {v : Int64} : (pshF s r c f v).2.2 = s.2.2 := by
  unfold pshF
  split <;> rfl
theorem psh_J {r c f : Nat} {v : Int64} {a k i : Nat} (h : ¬ a = 19) : gJ (pshF s r c f v) a k i = gJ s a k i := by
  unfold pshF
  split
  · show gJ (sJ _ _ _ _ _) a k i = _
    rw [gJ_sJ, if_neg (by omega)]
  · show gJ (sJ _ _ _ _ _) a k i = _
    rw [gJ_sJ, if_neg (by omega)]
    rfl
theorem rl_B {B' : Nat} (hB : B ≤ B') (h : Rl g s t nf B Q) : Rl g s t nf B' Q := by
  obtain ⟨a, b, c, ⟨rr, aa, xx, tt, uu, yy, ⟨c1, f1, n1, x1, x2, x3, x4, x5⟩, ⟨c2, f2, n2, y1, y2, y3, y4, y5⟩⟩, d⟩ := h
  exact ⟨a, b, c, ⟨rr, aa, xx, tt, uu, yy, ⟨c1, f1, n1, x1, x2, x3, by omega, x5⟩, ⟨c2, f2, n2, y1, y2, y3, by omega, y5⟩⟩, d⟩
end Rin1
