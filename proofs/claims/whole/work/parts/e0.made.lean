/-! WHAT A RUN MAKES: the reference makes nothing behind its constructor; slots by cells -/
def isNw (i : Instr) : Bool := match i with
  | .new _ => true
  | .newarray _ => true
  | .anewarray _ => true
  | _ => false
theorem kd_all : ∀ x ∈ KD, x.length ≤ 65536 := by decide +kernel
theorem kd_len (c : Nat) : ((KD[c]?).getD []).length ≤ 65536 := by
  cases h : KD[c]? with
  | none => exact Nat.zero_le _
  | some x => exact kd_all x (List.mem_of_getElem? h)
theorem st1_gw {g : Nat → Nat → Nat} {mi pc : Nat} {i : Instr} {lo : Lo} {st : List Av} {σ : Sg} {q : Nat × Lo × List Av × Sg} (h : st1 g mi pc i lo st σ = some (.inl q)) : q.2.2.2.2.2.2 = σ.2.2.2 ∨ (isNw i = true ∧ ∃ c n, q.2.2.2 = nw σ c n ∧ n ≤ 65536) := by
  cases i with
  | putfield x =>
    simp only [st1] at h
    split at h
    · obtain ⟨f, hf, h⟩ := Option.bind_eq_some_iff.mp h
      split at h
      · obtain ⟨τ, hw, h⟩ := Option.bind_eq_some_iff.mp h
        cases go_inv h
        exact Or.inl (wr_gh hw)
      · cases h
    · cases h
  | new x =>
    simp only [st1] at h
    obtain ⟨f, hf, h⟩ := Option.bind_eq_some_iff.mp h
    split at h
    · rename_i hz
      cases go_inv h
      exact Or.inr ⟨rfl, _, _, rfl, kd_len _⟩
    · cases h
  | newarray t =>
    simp only [st1] at h
    split at h
    · obtain ⟨f, hf, h⟩ := Option.bind_eq_some_iff.mp h
      split at h
      · rename_i hz
        cases go_inv h
        exact Or.inr ⟨rfl, _, _, rfl, hz.2.2.1⟩
      · cases h
    · cases h
  | anewarray x =>
    simp only [st1] at h
    split at h
    · obtain ⟨f, hf, h⟩ := Option.bind_eq_some_iff.mp h
      obtain ⟨f2, hf2, h⟩ := Option.bind_eq_some_iff.mp h
      split at h
      · rename_i hz
        cases go_inv h
        exact Or.inr ⟨rfl, _, _, rfl, hz.2.2.1⟩
      · cases h
    · cases h
  | iastore =>
    simp only [st1] at h
    split at h
    · split at h
      · cases go_inv h
        exact Or.inl rfl
      · cases h
    · cases h
  | lastore =>
    simp only [st1] at h
    split at h
    · split at h
      · cases go_inv h
        exact Or.inl rfl
      · cases h
    · cases h
  | aastore =>
    simp only [st1] at h
    split at h
    · split at h
      · cases go_inv h
        exact Or.inl rfl
      · cases h
    · cases h
  | ldc x =>
    simp only [st1] at h
    obtain ⟨f, hf, h⟩ := Option.bind_eq_some_iff.mp h
    cases go_inv h
    exact Or.inl rfl
  | ldc2_w x =>
    simp only [st1] at h
    obtain ⟨f, hf, h⟩ := Option.bind_eq_some_iff.mp h
    cases go_inv h
    exact Or.inl rfl
  | iload_n k =>
    simp only [st1, ldI] at h
    split at h
    · cases go_inv h
      exact Or.inl rfl
    · cases h
  | iload k =>
    simp only [st1, ldI] at h
    split at h
    · cases go_inv h
      exact Or.inl rfl
    · cases h
  | lload_n k =>
    simp only [st1, ldJ] at h
    split at h
    · cases go_inv h
      exact Or.inl rfl
    · cases h
  | lload k =>
    simp only [st1, ldJ] at h
    split at h
    · cases go_inv h
      exact Or.inl rfl
    · cases h
  | aload_n k =>
    simp only [st1, ldP] at h
    split at h
    · cases go_inv h
      exact Or.inl rfl
    · cases h
  | aload k =>
    simp only [st1, ldP] at h
    split at h
    · cases go_inv h
      exact Or.inl rfl
    · cases h
  | istore_n k =>
    simp only [st1, toI] at h
    split at h
    · obtain ⟨f, hf, h⟩ := Option.bind_eq_some_iff.mp h
      cases go_inv h
      exact Or.inl rfl
    · cases h
  | istore k =>
    simp only [st1, toI] at h
    split at h
    · obtain ⟨f, hf, h⟩ := Option.bind_eq_some_iff.mp h
      cases go_inv h
      exact Or.inl rfl
    · cases h
  | lstore_n k =>
    simp only [st1, toJ] at h
    split at h
    · obtain ⟨f, hf, h⟩ := Option.bind_eq_some_iff.mp h
      cases go_inv h
      exact Or.inl rfl
    · cases h
  | lstore k =>
    simp only [st1, toJ] at h
    split at h
    · obtain ⟨f, hf, h⟩ := Option.bind_eq_some_iff.mp h
      cases go_inv h
      exact Or.inl rfl
    · cases h
  | astore_n k =>
    simp only [st1, toP] at h
    split at h
    · obtain ⟨f, hf, h⟩ := Option.bind_eq_some_iff.mp h
      cases go_inv h
      exact Or.inl rfl
    · cases h
  | astore k =>
    simp only [st1, toP] at h
    split at h
    · obtain ⟨f, hf, h⟩ := Option.bind_eq_some_iff.mp h
      cases go_inv h
      exact Or.inl rfl
    · cases h
  | iinc k n =>
    simp only [st1] at h
    split at h
    · obtain ⟨f, hf, h⟩ := Option.bind_eq_some_iff.mp h
      cases go_inv h
      exact Or.inl rfl
    · cases h
  | goto off =>
    obtain ⟨a, b, d, τ⟩ := q
    obtain ⟨_, _, _, rfl⟩ := jp_inv h
    exact Or.inl rfl
  | ifCond q0 off =>
    obtain ⟨a, b, d, τ⟩ := q
    simp only [st1] at h
    split at h
    · obtain ⟨_, _, _, rfl⟩ := brn_inv h
      exact Or.inl rfl
    · cases h
  | if_icmp q0 off =>
    obtain ⟨a, b, d, τ⟩ := q
    simp only [st1] at h
    split at h
    · obtain ⟨_, _, _, rfl⟩ := brn_inv h
      exact Or.inl rfl
    · cases h
  | ifnull off =>
    obtain ⟨a, b, d, τ⟩ := q
    simp only [st1] at h
    split at h
    · obtain ⟨_, _, _, rfl⟩ := brn_inv h
      exact Or.inl rfl
    · cases h
  | ifnonnull off =>
    obtain ⟨a, b, d, τ⟩ := q
    simp only [st1] at h
    split at h
    · obtain ⟨_, _, _, rfl⟩ := brn_inv h
      exact Or.inl rfl
    · cases h
  | if_acmp q0 off =>
    obtain ⟨a, b, d, τ⟩ := q
    simp only [st1] at h
    split at h
    · split at h
      · obtain ⟨_, _, _, rfl⟩ := brn_inv h
        exact Or.inl rfl
      · cases h
    · cases h
  | tableswitch d0 l0 h0 offs =>
    obtain ⟨a, b, d, τ⟩ := q
    simp only [st1] at h
    split at h
    · split at h
      · obtain ⟨_, _, _, rfl⟩ := jp_inv h
        exact Or.inl rfl
      · cases h
    · cases h
  | lookupswitch d0 ps =>
    obtain ⟨a, b, d, τ⟩ := q
    simp only [st1] at h
    split at h
    · split at h
      · obtain ⟨_, _, _, rfl⟩ := jp_inv h
        exact Or.inl rfl
      · cases h
    · cases h
  | getfield x =>
    simp only [st1] at h
    split at h
    · obtain ⟨f, hf, h⟩ := Option.bind_eq_some_iff.mp h
      split at h
      · cases go_inv h
        exact Or.inl rfl
      · cases h
    · cases h
  | arraylength =>
    simp only [st1] at h
    split at h
    · split at h
      · cases go_inv h
        exact Or.inl rfl
      · cases h
    · cases h
  | iaload =>
    simp only [st1] at h
    split at h
    · split at h
      · cases go_inv h
        exact Or.inl rfl
      · cases h
    · cases h
  | laload =>
    simp only [st1] at h
    split at h
    · split at h
      · cases go_inv h
        exact Or.inl rfl
      · cases h
    · cases h
  | aaload =>
    simp only [st1] at h
    split at h
    · split at h
      · cases go_inv h
        exact Or.inl rfl
      · cases h
    · cases h
  | ireturn =>
    simp only [st1] at h
    split at h
    · split at h <;> cases h
    · cases h
  | lreturn =>
    simp only [st1] at h
    split at h
    · split at h <;> cases h
    · cases h
  | areturn =>
    simp only [st1] at h
    split at h <;> cases h
  | return_ =>
    simp only [st1] at h
    split at h <;> cases h
  | _ =>
    simp only [st1] at h
    obtain ⟨f, hf, h⟩ := Option.bind_eq_some_iff.mp h
    cases go_inv h
    exact Or.inl rfl
/-- slots by cells -/
theorem ex_sl {g : Nat → Nat → Nat} : ∀ (n mi pc : Nat) (lo : Lo) (st : List Av) (σ : Sg) (X : Sg × Option Av), ex g n mi pc lo st σ = some X → sz σ ≤ sz X.1 ∧ sl X.1 + 65536 * sz σ ≤ sl σ + 65536 * sz X.1 := by
  intro n
  induction n with
  | zero => intro mi pc lo st σ X h; simp [ex] at h
  | succ n ih =>
    intro mi pc lo st σ X h
    rw [ex] at h
    split at h
    · cases h
    · split at h
      · split at h
        · cases h
        · cases h; exact ⟨Nat.le_refl _, Nat.le_refl _⟩
        · rename_i q hq
          obtain ⟨b1, b2⟩ := ih _ _ _ _ _ _ h
          rcases st1_gw hq with a | ⟨-, c, m, a, a2⟩
          · obtain ⟨h1, h2, h3⟩ := sz_gh a
            omega
          · rw [a] at b1 b2
            rw [sz_nw] at b1 b2
            rw [sl_nw] at b2
            omega
      · split at h
        · exact ih _ _ _ _ _ _ h
        · split at h
          · cases h
          · split at h
            · cases h
            · rename_i w hw
              have a := ih _ _ _ _ _ _ hw
              have b := ih _ _ _ _ _ _ h
              omega
/-- the methods that make nothing: the reference's, its constructor apart -/
def nNw (mi : Nat) : Bool := decide (121 ≤ mi ∧ mi < 179)
def okW (q : Nat × Instr × Nat) (mi : Nat) : Bool := !isNw q.2.1 && (match cI q.2.1 with
  | none => true
  | some (x, _) => (match mL.lookup (ow mi, x) with
    | none => true
    | some e => nNw e.1))
theorem okW_all : ∀ mi, mi < 179 → 121 ≤ mi → ∀ q ∈ (iT[mi]?).getD [], okW q mi = true := by decide +kernel
theorem ex_nw {g : Nat → Nat → Nat} : ∀ (n mi pc : Nat) (lo : Lo) (st : List Av) (σ : Sg) (X : Sg × Option Av), ex g n mi pc lo st σ = some X → 121 ≤ mi → mi < 179 → sz X.1 = sz σ ∧ sl X.1 = sl σ := by
  intro n
  induction n with
  | zero => intro mi pc lo st σ X h; simp [ex] at h
  | succ n ih =>
    intro mi pc lo st σ X h m1 m2
    rw [ex] at h
    split at h
    · cases h
    · rename_i i len hi
      have hok := okW_all mi m2 m1 _ (look_mem hi)
      unfold okW at hok
      simp only [Bool.and_eq_true, Bool.not_eq_true'] at hok
      obtain ⟨k1, k2⟩ := hok
      split at h
      · split at h
        · cases h
        · cases h; exact ⟨rfl, rfl⟩
        · rename_i q hq
          obtain ⟨b1, b2⟩ := ih _ _ _ _ _ _ h m1 m2
          rcases st1_gw hq with a | ⟨a, -⟩
          · obtain ⟨h1, h2, h3⟩ := sz_gh a
            exact ⟨b1.trans h1, b2.trans h2⟩
          · rw [k1] at a; cases a
      · rename_i x ks hci
        split at h
        · exact ih _ _ _ _ _ _ h m1 m2
        · split at h
          · cases h
          · rename_i q hq
            split at h
            · cases h
            · rename_i w hw
              rw [hci] at k2
              dsimp only at k2
              have hmj : 121 ≤ q.1 ∧ q.1 < 179 := by
                unfold c1 at hq
                obtain ⟨e, he, hc⟩ := Option.bind_eq_some_iff.mp hq
                rw [he] at k2
                dsimp only at k2
                unfold nNw at k2
                rw [decide_eq_true_eq] at k2
                split at hc
                case isFalse => cases hc
                obtain ⟨a, -, hc⟩ := Option.bind_eq_some_iff.mp hc
                split at hc
                case isFalse => cases hc
                simp only [Option.some.injEq] at hc
                rw [← hc]
                exact k2
              obtain ⟨a1, a2⟩ := ih _ _ _ _ _ _ hw hmj.1 hmj.2
              obtain ⟨b1, b2⟩ := ih _ _ _ _ _ _ h m1 m2
              exact ⟨b1.trans a1, b2.trans a2⟩
