/-! loading: blocks first, words later, or each in its turn -/
def alF (t : Sg) (j k : Nat) : Sg := match slotF t (nI j) (nI k) with
  | some _ => t
  | none => match ff (nslP t) 0 64, ff (freP t) 0 64 with
    | some a, some p => alR t j (nI k) a p
    | _, _ => t
def alN (j : Nat) : Sg → Nat → Nat → Sg
  | t, _, 0 => t
  | t, k, m + 1 => alN j (alF t j k) (k + 1) m
/-- how many of the blocks from k on, m of them, the job has not -/
def cN (t : Sg) (j k m : Nat) : Nat := cf (fun x => slotF t (nI j) (nI x) = none) k m
section Alo1
variable {g : Nat → Nat → Nat} {s t u : Sg} {X : Sg × Option Av} {nf B n : Nat} {Q : List Nat} {j : Nat}
theorem sl_J {x : Nat} {v : Int64} {a b : Int32} : slotF (sJ t 40 x 0 v) a b = slotF t a b := by
  unfold slotF
  exact ff_cg (fun m _ _ => Iff.rfl)
theorem nsl_J {x : Nat} {v : Int64} : ff (nslP (sJ t 40 x 0 v)) 0 64 = ff (nslP t) 0 64 := ff_cg (fun m _ _ => Iff.rfl)
theorem fre_J {x : Nat} {v : Int64} : ff (freP (sJ t 40 x 0 v)) 0 64 = ff (freP t) 0 64 := ff_cg (fun m _ _ => Iff.rfl)
theorem alR_J {a p k e : Nat} {b : Int32} {v : Int64} (h : ¬ k = a) (he : e < 512) : alR (sJ t 40 (512 * k + e) 0 v) j b a p = sJ (alR t j b a p) 40 (512 * k + e) 0 v := by
  unfold alR nslF
  rw [zerF_eq, zerF_eq]
  refine Prod.ext rfl (Prod.ext ?_ rfl)
  funext c m i
  show (if c = 40 ∧ i = 0 ∧ 512 * a + 0 ≤ m ∧ m < 512 * a + 0 + 512 then (0 : Int64) else if c = 40 ∧ m = 512 * k + e ∧ i = 0 then v else t.2.1 c m i) = (if c = 40 ∧ m = 512 * k + e ∧ i = 0 then v else if c = 40 ∧ i = 0 ∧ 512 * a + 0 ≤ m ∧ m < 512 * a + 0 + 512 then (0 : Int64) else t.2.1 c m i)
  by_cases q : c = 40 ∧ m = 512 * k + e ∧ i = 0
  · rw [if_pos q, if_neg (by omega), if_pos q]
  · rw [if_neg q, if_neg q]
theorem alF_J {k0 k e : Nat} {v : Int64} (h : ¬ gI t 38 k0 0 = -1) (he : e < 512) : alF (sJ t 40 (512 * k0 + e) 0 v) j k = sJ (alF t j k) 40 (512 * k0 + e) 0 v := by
  unfold alF
  rw [sl_J, nsl_J, fre_J]
  cases e1 : slotF t (nI j) (nI k) with
  | some x => rfl
  | none =>
    dsimp only
    cases e2 : ff (nslP t) 0 64 with
    | none => rfl
    | some a =>
      cases e3 : ff (freP t) 0 64 with
      | none => rfl
      | some p =>
        dsimp only
        refine alR_J (fun z => h ?_) he
        rw [z]
        exact (ff_some e2).2.2.1
theorem alF_38 {k0 k : Nat} (h : ¬ gI t 38 k0 0 = -1) : gI (alF t j k) 38 k0 0 = gI t 38 k0 0 := by
  unfold alF
  split
  · rfl
  · split
    · rename_i a p e2 e3
      rw [al_38, if_neg (fun z => h ?_)]
      rw [z]
      exact (ff_some e2).2.2.1
    · rfl
theorem alN_J {k0 e : Nat} {v : Int64} (he : e < 512) : ∀ m k (t : Sg), ¬ gI t 38 k0 0 = -1 → alN j (sJ t 40 (512 * k0 + e) 0 v) k m = sJ (alN j t k m) 40 (512 * k0 + e) 0 v
  | 0, _, _, _ => rfl
  | m + 1, k, t, h => by
    rw [alN, alN, alF_J h he]
    exact alN_J he m (k + 1) (alF t j k) (by rw [alF_38 h]; exact h)
theorem alF_sl {k : Nat} {b : Int32} {x : Nat} (hj : j < 4) (h : slotF t (nI j) b = some x) : slotF (alF t j k) (nI j) b = some x := by
  unfold alF
  cases e1 : slotF t (nI j) (nI k) with
  | some y => exact h
  | none =>
    dsimp only
    cases e2 : ff (nslP t) 0 64 with
    | none => exact h
    | some a =>
      cases e3 : ff (freP t) 0 64 with
      | none => exact h
      | some p =>
        dsimp only
        rw [al_slot hj e2 e1, if_neg (fun z => by rw [z, e1] at h; cases h)]
        exact h
theorem alN_sl {b : Int32} {x : Nat} (hj : j < 4) : ∀ m k (t : Sg), slotF t (nI j) b = some x → slotF (alN j t k m) (nI j) b = some x
  | 0, _, _, h => h
  | m + 1, k, t, h => alN_sl hj m (k + 1) _ (alF_sl hj h)
theorem alR_21 {a p i : Nat} {b : Int32} : gJ (alR t j b a p) 21 i 0 = gJ t 21 i 0 := by
  unfold alR nslF
  rw [zerF_eq]
  rfl
theorem alF_21 {k i : Nat} : gJ (alF t j k) 21 i 0 = gJ t 21 i 0 := by
  unfold alF
  split
  · rfl
  · split
    · exact alR_21
    · rfl
theorem alN_21 {i : Nat} : ∀ m k (t : Sg), gJ (alN j t k m) 21 i 0 = gJ t 21 i 0
  | 0, _, _ => rfl
  | m + 1, k, t => by rw [alN, alN_21 m (k + 1), alF_21]
/-- one block, in both programs -/
theorem al_step (hg : ∀ i, g 16 (i + 1) = g 16 i + 1) {k m : Nat} (hk : k + m + 1 < 2147483648) (h : Rl g s t nf B Q) (hj : j < 4) (hs : gI t 22 j 0 = 0) (hb : BG t (cN t j k (m + 1))) (hf : cN t j k (m + 1) ≤ freF t) : (∃ x, slotF t (nI j) (nI k) = some x ∧ alF t j k = t ∧ BG t (cN t j (k + 1) m) ∧ cN t j (k + 1) m ≤ freF t) ∨ ∃ a p, slotF t (nI j) (nI k) = none ∧ ff (nslP t) 0 64 = some a ∧ ff (freP t) 0 64 = some p ∧ a < 64 ∧ p < 64 ∧ alF t j k = alR t j (nI k) a p ∧ Rl g (alC s j (nI k) a p) (alR t j (nI k) a p) nf B Q ∧ gI (alR t j (nI k) a p) 22 j 0 = 0 ∧ slotF (alR t j (nI k) a p) (nI j) (nI k) = some a ∧ BG (alR t j (nI k) a p) (cN (alR t j (nI k) a p) j (k + 1) m) ∧ cN (alR t j (nI k) a p) j (k + 1) m ≤ freF (alR t j (nI k) a p) := by
  have hc : cN t j k (m + 1) = (if slotF t (nI j) (nI k) = none then 1 else 0) + cN t j (k + 1) m := by
    unfold cN
    rw [cf]
  cases e : slotF t (nI j) (nI k) with
  | some x =>
    rw [e, if_neg (fun z => by cases z), Nat.zero_add] at hc
    rw [hc] at hb hf
    exact Or.inl ⟨x, rfl, by unfold alF; rw [e], hb, hf⟩
  | none =>
    rw [e, if_pos rfl] at hc
    rw [hc, Nat.add_comm] at hb hf
    obtain ⟨p, hp⟩ : ∃ p, ff (freP t) 0 64 = some p := by
      cases ep : ff (freP t) 0 64 with
      | some p => exact ⟨p, rfl⟩
      | none =>
        have : freF t = 0 := cf_pos (ff_none ep)
        omega
    obtain ⟨a, x1, x2, x3, x4, x5, x6⟩ := rl_alloc hg h hj hs e hb hp
    have hsl : ∀ b', slotF (alR t j (nI k) a p) (nI j) b' = if b' = nI k then some a else slotF t (nI j) b' := fun b' => al_slot hj x1 e
    have hcn : cN (alR t j (nI k) a p) j (k + 1) m = cN t j (k + 1) m := by
      unfold cN
      refine cf_cg (fun i hi1 hi2 => ?_)
      rw [hsl, if_neg (fun z => by have := (nI_eq (by omega) (by omega)).mp z; omega)]
    have hfr : freF t = freF (alR t j (nI k) a p) + 1 := by
      unfold freF
      obtain ⟨y1, y2, y3, y4⟩ := ff_some hp
      refine cf_up (a := p) (by omega) (by omega) ?_ y3 (fun i hi1 hi2 hi3 => ?_)
      · show ¬ gI (alR t j (nI k) a p) 49 p 0 = -1
        rw [al_49, if_pos rfl]
        exact nI_nm (by omega)
      · show gI (alR t j (nI k) a p) 49 i 0 = -1 ↔ gI t 49 i 0 = -1
        rw [al_49, if_neg hi3]
    refine Or.inr ⟨a, p, rfl, x1, hp, x2, x3, by unfold alF; rw [e, x1, hp], x4, x6, by rw [hsl, if_pos rfl], by rw [hcn]; exact x5, by rw [hcn]; omega⟩
end Alo1
