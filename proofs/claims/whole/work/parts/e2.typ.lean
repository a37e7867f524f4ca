/-! what kind of answer a method gives -/
section Typ1
variable {g : Nat → Nat → Nat} {mi pc len : Nat} {i : Instr} {lo : Lo} {st : List Av} {σ : Sg}
theorem st1_ty {X : Option Av} (hor : okR mi (pc, i, len) = true) (h : st1 g mi pc i lo st σ = some (.inr X)) : ((rT mi = some .int ∨ rT mi = some .boolean) → ∃ x, X = some (.inl x)) ∧ (rT mi = some .long → ∃ x, X = some (.inr (.inl x))) := by
  cases i with
  | ireturn =>
    simp only [st1] at h
    split at h
    · split at h
      · rename_i hc
        cases h
        refine ⟨fun _ => ⟨_, rfl⟩, fun z => ?_⟩
        rcases hc with hc | ⟨hc, -⟩
        · rw [hc] at z; cases z
        · rw [hc] at z; cases z
      · cases h
    · cases h
  | lreturn =>
    simp only [st1] at h
    split at h
    · split at h
      · rename_i hc
        cases h
        refine ⟨fun z => ?_, fun _ => ⟨_, rfl⟩⟩
        rcases z with z | z
        · rw [hc] at z; cases z
        · rw [hc] at z; cases z
      · cases h
    · cases h
  | areturn =>
    simp only [okR] at hor
    refine ⟨fun z => ?_, fun z => ?_⟩
    · rcases z with z | z <;> rw [z] at hor <;> cases hor
    · rw [z] at hor; cases hor
  | return_ =>
    simp only [okR, decide_eq_true_eq] at hor
    refine ⟨fun z => ?_, fun z => ?_⟩
    · rcases z with z | z <;> rw [hor] at z <;> cases z
    · rw [hor] at z; cases z
  | if_acmp q0 off =>
    exfalso
    simp only [st1] at h
    split at h
    · split at h
      · exact brn_no h
      · cases h
    · cases h
  | _ =>
    exfalso
    revert h
    simp only [st1, ldI, ldJ, ldP, toI, toJ, toP, jp, brn, go]
    first
      | (intro h; obtain ⟨_, _, h⟩ := Option.bind_eq_some_iff.mp h; cases h; done)
      | (split <;> (intro h; cases h); done)
      | (split
         · intro h; obtain ⟨_, _, h⟩ := Option.bind_eq_some_iff.mp h; cases h
         · intro h; cases h
         done)
      | (split
         · split
           · intro h; cases h
           · split <;> (intro h; cases h)
         · intro h; cases h
         done)
      | (split
         · split
           · split
             · intro h; cases h
             · split <;> (intro h; cases h)
           · intro h; cases h
         · intro h; cases h
         done)
      | (split
         · split
           · split <;> (intro h; cases h)
           · intro h; cases h
         · intro h; cases h
         done)
      | (split
         · intro h
           obtain ⟨_, _, h⟩ := Option.bind_eq_some_iff.mp h
           split at h
           · obtain ⟨_, _, h⟩ := Option.bind_eq_some_iff.mp h; cases h
           · cases h
         · intro h; cases h
         done)
      | (split
         · intro h
           obtain ⟨_, _, h⟩ := Option.bind_eq_some_iff.mp h
           split at h <;> cases h
         · intro h; cases h
         done)
      | (split
         · intro h
           obtain ⟨_, _, h⟩ := Option.bind_eq_some_iff.mp h
           obtain ⟨_, _, h⟩ := Option.bind_eq_some_iff.mp h
           split at h <;> cases h
         · intro h; cases h
         done)
      | (split
         · split <;> (intro h; cases h)
         · intro h; cases h
         done)
      | (intro h
         obtain ⟨_, _, h⟩ := Option.bind_eq_some_iff.mp h
         split at h <;> cases h
         done)
theorem ex_ty : ∀ (n mi pc : Nat) (lo : Lo) (st : List Av) (σ : Sg) (X : Sg × Option Av), ex g n mi pc lo st σ = some X → mi < 184 → ((rT mi = some .int ∨ rT mi = some .boolean) → ∃ x, X.2 = some (.inl x)) ∧ (rT mi = some .long → ∃ x, X.2 = some (.inr (.inl x))) := by
  intro n
  induction n with
  | zero => intro mi pc lo st σ X h; simp [ex] at h
  | succ n ih =>
    intro mi pc lo st σ X h hm
    rw [ex] at h
    split at h
    · cases h
    · rename_i i len hi
      have hor := ii_okR hm hi
      split at h
      · split at h
        · cases h
        · rename_i r hr
          cases h
          exact st1_ty hor hr
        · exact ih _ _ _ _ _ _ h hm
      · split at h
        · exact ih _ _ _ _ _ _ h hm
        · split at h
          · cases h
          · split at h
            · cases h
            · exact ih _ _ _ _ _ _ h hm
end Typ1
