/-! a frame is kept empty -/
section Kee1
variable {g : Nat → Nat → Nat} {s t u : Sg} {X : Sg × Option Av} {nf B : Nat} {Q : List Nat}
theorem rl_ch {f : Nat} (h : Rl g s t nf B Q) (hf : f < nf) (h0 : gI t 42 f 0 = 1) : Rl g (sI (sP (sI s 2 1 f 3) 14 Q.length 0 (some f)) 1 2 0 (nI (Q.length + 1))) (queF (sI t 42 f 0 3) Q.length (nI f) 1) nf B (Q ++ [f]) := by
  obtain ⟨⟨l1, l2, l3⟩, ⟨j0, bb, ww, nn, hh⟩, ⟨⟨f1, f2, f3, f5, f6, f7, f8, fb⟩, pp, ll, ⟨m1, m2, m3⟩, ss, ⟨q1, q2, q3⟩⟩, ⟨rr, aa, xx, tt, uu, yy, cc, dd⟩, oo, kk⟩ := h
  obtain ⟨h1, h2, h3, h4, h5, h6, h7, h8, h9, h10, h11, h12, h13, h14⟩ := ss_d ss
  have hfQ : ∀ x, x ∈ Q → ¬ x = f := fun x hx e => by
    have := (h12 x hx).2.1
    rw [e, h0] at this
    rcases this with z | z <;> exact absurd z (by decide)
  have hmf : ¬ gP s 1 3 0 = some f := fun e => by
    obtain ⟨p, b1, b2, b3, b4, b5⟩ := h10 f e
    rw [h0] at b4
    rcases b4 with z | z <;> exact absurd z (by decide)
  have c42 : ∀ x, gI (queF (sI t 42 f 0 3) Q.length (nI f) 1) 42 x 0 = if x = f then 3 else gI t 42 x 0 := fun x => by simp [queF, MM]
  have c51 : ∀ x, gI (queF (sI t 42 f 0 3) Q.length (nI f) 1) 51 x 0 = if x = Q.length then nI f else gI t 51 x 0 := fun x => by simp [queF, MM]
  have c52 : ∀ x, gI (queF (sI t 42 f 0 3) Q.length (nI f) 1) 52 x 0 = if x = Q.length then 1 else gI t 52 x 0 := fun x => by simp [queF, MM]
  refine ⟨⟨LC_sI (LC_sP (LC_sI l1 (by omega)) (by unfold dyP; omega)) (by omega), ?_, l3⟩, ⟨j0, bb, ww, nn, hh⟩, ⟨⟨re_E_w (j := f) (v := 3) f1, f2, f3, f5, f6, f7, f8, fb⟩, pp, ll, ⟨m1, m2, fun x e => ?_⟩, ?_, ⟨?_, ?_, fun i x e => ?_⟩⟩, ⟨rr, aa, xx, tt, uu, yy, cc, dd⟩, oo, kk⟩
  · unfold queF
    exact LR_sI (by omega) (LR_sI (by omega) (LR_sI (by omega) (LR_sI (by omega) l2)))
  · have e42 : gI (queF (sI t 42 f 0 3) Q.length (nI f) 1) 42 x 0 = gI t 42 x 0 := by rw [c42, if_neg (fun z : x = f => hmf (z ▸ e))]
    rw [e42]
    exact m3 x e
  · have key := SS_choose ss hf h0
    unfold re_S
    exact SS_cg key (fun k hk => rfl) (fun k hk => rfl) (fun x hx => rfl) (fun x hx => rfl) (fun x hx => c42 x) (fun x hx => rfl) (fun x hx => rfl) (fun x hx => rfl) (fun q hq => rfl) (fun q hq => rfl)
  · rw [List.length_append]; rfl
  · rw [List.length_append]; rfl
  · have hi := gQ_lt e
    rw [List.length_append, List.length_singleton] at hi
    rw [c51, c52, c42]
    show (if 14 = 14 ∧ i = Q.length ∧ 0 = 0 then some f else gP s 14 i 0) = some x ∧ _
    by_cases c : i = Q.length
    · rw [if_pos ⟨rfl, c, rfl⟩, if_pos c, if_pos c]
      have : x = f := by
        rw [c, List.getElem?_append_right (Nat.le_refl _), Nat.sub_self] at e
        exact (Option.some.inj e).symm
      subst this
      rw [if_pos rfl]
      exact ⟨rfl, rfl, by decide⟩
    · rw [if_neg (fun z => c z.2.1), if_neg c, if_neg c]
      rw [List.getElem?_append_left (by omega)] at e
      rw [if_neg (hfQ x (List.mem_of_getElem? e))]
      exact q3 i x e
/-- what was chosen is kept -/
theorem rl_pc {v : Int32} (h : Rl g s t nf B Q) : ∃ c x n, RO s 1 c x ∧ gI t 11 44 0 = nI n ∧ gI s 10 11 0 = nI n ∧ n ≤ B ∧ Rl g (sI (pshF s 1 c x v.toInt64) 10 11 0 (nI (n + 1))) (sI (sI t 53 (n % 64) 0 v) 11 44 0 (nI (n + 1))) nf (B + 1) Q := by
  have h' := rl_B (B' := B + 1) (by omega) h
  obtain ⟨c, x, n, z1, z2, z3, z4, z5, z6⟩ := h.2.2.2.1.2.2.2.2.2.2.1
  refine ⟨c, x, n, z1, z2, z3, z4, ?_⟩
  have hcap : cap 1 = 64 := by decide
  have hrg : RG s 1 n (fun i => (gI t 53 i 0).toInt64) c x := ⟨z1, by rw [hcap]; exact z5, fun e he => by rw [hcap]; exact z6 e he⟩
  obtain ⟨c', x', r1, r2, r3⟩ := ring_push (v := v.toInt64) hrg
  have k9 : rw9 s (pshF s 1 c x v.toInt64) 1 := psh_9
  have hC : re_C (sI (pshF s 1 c x v.toInt64) 10 11 0 (nI (n + 1))) (sI (sI t 53 (n % 64) 0 v) 11 44 0 (nI (n + 1))) (B + 1) := by
    refine ⟨c', x', n + 1, r1, rfl, rfl, by omega, by rw [hcap] at r2; exact r2, fun e he => ?_⟩
    have := r3 e he
    rw [hcap] at this
    dsimp only at this
    show gJ (pshF s 1 c x v.toInt64) 19 (rix 1 x' e) 1 = (gI (sI t 53 (n % 64) 0 v) 53 ((n + 1 - c' + e) % 64) 0).toInt64
    rw [this, gI_sI]
    by_cases q : (n + 1 - c' + e) % 64 = n % 64
    · rw [if_pos q, if_pos ⟨rfl, q, rfl⟩]
    · rw [if_neg q, if_neg (fun z => q z.2.1)]
  obtain ⟨⟨l1, l2, l3⟩, ⟨j0, bb, ww, nn, hh⟩, ⟨ff1, pp, ll, mm, ss, qq⟩, ⟨rr, aa, xx, tt, uu, yy, cc, dd⟩, oo, kk⟩ := h'
  have k9' : rw9 s (sI (pshF s 1 c x v.toInt64) 10 11 0 (nI (n + 1))) 1 := ⟨fun r' c f hr ho => k9.1 r' c f hr ho, fun r' y hr => k9.2 r' y hr⟩
  have hT := re_T_9 (fun j hj => by omega) k9' tt
  have hU := re_U_9 (fun j hj => by omega) k9' uu
  have hY := re_Y_9 (by omega) k9' yy
  have hD := re_D_9 (by omega) k9' (show gI (sI (pshF s 1 c x v.toInt64) 10 11 0 (nI (n + 1))) 7 1 0 = gI s 7 1 0 from pshF_gI (by decide)) dd
  have hLC : LC (sI (pshF s 1 c x v.toInt64) 10 11 0 (nI (n + 1))) nf := LC_sI (LC_pshF l1) (by omega)
  unfold pshF at hC hT hU hY hD hLC ⊢
  by_cases c0 : c < cap 1
  · rw [if_pos c0] at hC hT hU hY hD hLC ⊢
    exact ⟨⟨hLC, LR_sI (by omega) (LR_sI (by omega) l2), l3⟩, ⟨j0, bb, ww, nn, hh⟩, ⟨ff1, pp, ll, mm, ss, qq⟩, ⟨rr, aa, xx, hT, hU, hY, hC, hD⟩, oo, kk⟩
  · rw [if_neg c0] at hC hT hU hY hD hLC ⊢
    exact ⟨⟨hLC, LR_sI (by omega) (LR_sI (by omega) l2), l3⟩, ⟨j0, bb, ww, nn, hh⟩, ⟨ff1, pp, ll, mm, ss, qq⟩, ⟨rr, aa, xx, hT, hU, hY, hC, hD⟩, oo, kk⟩
end Kee1
