/-! soundness: one instruction that is no call -/
theorem go_inv {pc : Nat} {lo : Lo} {st : List Av} {σ : Sg} {q : Nat × Lo × List Av × Sg} (h : go pc lo st σ = some (.inl q)) : q = (pc, lo, st, σ) := by
  unfold go at h
  exact (Sum.inl.inj (Option.some.inj h)).symm
theorem wr_gh {σ τ : Sg} {c k i : Nat} {v : Av} (h : wr σ c k i v = some τ) : τ.2.2.2 = σ.2.2.2 := (wrk_spec rfl h).1
theorem sz_gh {σ τ : Sg} (h : τ.2.2.2 = σ.2.2.2) : sz τ = sz σ ∧ sl τ = sl σ ∧ ∀ c, cn τ c = cn σ c := by
  unfold sz sl cn; rw [h]; exact ⟨rfl, rfl, fun _ => rfl⟩
section Snd5
variable {p : Program} {l : Launch} {e : Env} {R : Room} {s : State} {m : MethodId} {args : Array Value} {below : List Frame} {meth : Method} {cd : Code} {H : Heap} {locs : List Loc} {cells slots : Nat} {Q : State → Prop} {pc pc' mi len : Nat} {ls : Array Slot} {g : Nat → Nat → Nat} {D : va_G} {E : Nat → ClassId} {A : Nat → Prop} {H0 : Heap} {σ τ : Sg} {i : Instr} {lo lo' : Lo} {st st' : List Av}
/-- where the memory stays as it is -/
theorem S_same (C : Cx D E p R s m args meth cd mi) (hd : decode (bC mi) pc = .ok (i, len)) (hlen : il i = len ∨ il i = 0) (h : st1 g mi pc i lo st σ = some (.inl (pc', lo', st', τ))) (hl : lvr g ls (mx mi) lo) (hP : HP g D E σ H)
    (kk : τ = σ → ∀ ls', lvr g ls' (mx mi) lo' → W p l e R s m args below meth cd H locs cells slots Q (F0 m pc' ls' (st'.map (av g)))) : (W p l e R s m args below meth cd H locs cells slots Q (F0 m pc ls (st.map (av g)))) ∨ (∃ x, i = .putfield x ∨ i = .new x ∨ i = .anewarray x) ∨ (∃ t, i = .newarray t) ∨ i = .iastore ∨ i = .lastore ∨ i = .aastore := by
  obtain ⟨hx, hb, hml, hown, hts, hK, -, -, -, -, -⟩ := C
  have hg : ∀ {k : Nat} {v : Av}, lg lo k = some v → ls[k]? = some (Slot.val (av g v)) := fun h => hl.2.2.2 _ _ (lg_some.mp h)
  have hll := hl.2.2.1
  cases i with
  | putfield x => exact Or.inr (Or.inl ⟨x, Or.inl rfl⟩)
  | new x => exact Or.inr (Or.inl ⟨x, Or.inr (Or.inl rfl)⟩)
  | anewarray x => exact Or.inr (Or.inl ⟨x, Or.inr (Or.inr rfl)⟩)
  | newarray t => exact Or.inr (Or.inr (Or.inl ⟨t, rfl⟩))
  | iastore => exact Or.inr (Or.inr (Or.inr (Or.inl rfl)))
  | lastore => exact Or.inr (Or.inr (Or.inr (Or.inr (Or.inl rfl))))
  | aastore => exact Or.inr (Or.inr (Or.inr (Or.inr (Or.inr rfl))))
  | ldc x =>
    left
    simp only [il] at hlen
    obtain rfl : len = 2 := by omega
    simp only [st1] at h
    obtain ⟨q, hq, h⟩ := Option.bind_eq_some_iff.mp h
    cases go_inv h
    exact lv_ldc hx hb hown (hts _ (GT_at (kI_ok _ (look_mem hq)) rfl)) hd (kk rfl _ hl)
  | ldc2_w x =>
    left
    simp only [il] at hlen
    obtain rfl : len = 3 := by omega
    simp only [st1] at h
    obtain ⟨q, hq, h⟩ := Option.bind_eq_some_iff.mp h
    cases go_inv h
    exact lv_ldc2 hx hb hown (hts _ (GT_at (kJ_ok _ (look_mem hq)) rfl)) hd (kk rfl _ hl)
  | iload_n k =>
    left
    simp only [il] at hlen
    obtain rfl : len = 1 := by omega
    simp only [st1, ldI] at h
    split at h
    · rename_i z hz
      cases go_inv h
      exact lv_iload_n hx hb hd rfl (hg hz) (kk rfl _ hl)
    · cases h
  | iload k =>
    left
    simp only [il] at hlen
    obtain rfl : len = 2 := by omega
    simp only [st1, ldI] at h
    split at h
    · rename_i z hz
      cases go_inv h
      exact lv_iload hx hb hd (hg hz) (kk rfl _ hl)
    · cases h
  | lload_n k =>
    left
    simp only [il] at hlen
    obtain rfl : len = 1 := by omega
    simp only [st1, ldJ] at h
    split at h
    · rename_i z hz
      cases go_inv h
      exact lv_lload_n hx hb hd rfl (hg hz) (kk rfl _ hl)
    · cases h
  | lload k =>
    left
    simp only [il] at hlen
    obtain rfl : len = 2 := by omega
    simp only [st1, ldJ] at h
    split at h
    · rename_i z hz
      cases go_inv h
      exact lv_lload hx hb hd (hg hz) (kk rfl _ hl)
    · cases h
  | aload_n k =>
    left
    simp only [il] at hlen
    obtain rfl : len = 1 := by omega
    simp only [st1, ldP] at h
    split at h
    · rename_i z hz
      cases go_inv h
      cases z with
      | none => exact lv_aload_nN hx hb hd rfl (hg hz) (kk rfl _ hl)
      | some q => exact lv_aload_n hx hb hd rfl (hg hz) (kk rfl _ hl)
    · cases h
  | aload k =>
    left
    simp only [il] at hlen
    obtain rfl : len = 2 := by omega
    simp only [st1, ldP] at h
    split at h
    · rename_i z hz
      cases go_inv h
      cases z with
      | none => exact lv_aloadN hx hb hd (hg hz) (kk rfl _ hl)
      | some q => exact lv_aload hx hb hd (hg hz) (kk rfl _ hl)
    · cases h
  | istore_n k =>
    left
    simp only [il] at hlen
    obtain rfl : len = 1 := by omega
    simp only [st1, toI] at h
    split at h
    · obtain ⟨lo2, h2, h⟩ := Option.bind_eq_some_iff.mp h
      cases go_inv h
      exact lv_istore_n hx hb hd rfl hl.has (hll ▸ (s1_spec h2).2.1) rfl (fun ls' hl' => kk rfl _ (lvr_s1 hll h2 hl'))
    · cases h
  | istore k =>
    left
    simp only [il] at hlen
    obtain rfl : len = 2 := by omega
    simp only [st1, toI] at h
    split at h
    · obtain ⟨lo2, h2, h⟩ := Option.bind_eq_some_iff.mp h
      cases go_inv h
      exact lv_istore hx hb hd hl.has (hll ▸ (s1_spec h2).2.1) rfl (fun ls' hl' => kk rfl _ (lvr_s1 hll h2 hl'))
    · cases h
  | lstore_n k =>
    left
    simp only [il] at hlen
    obtain rfl : len = 1 := by omega
    simp only [st1, toJ] at h
    split at h
    · obtain ⟨lo2, h2, h⟩ := Option.bind_eq_some_iff.mp h
      cases go_inv h
      exact lv_lstore_n hx hb hd rfl hl.has (hll ▸ (s2_spec h2).2.1) rfl (fun ls' hl' => kk rfl _ (lvr_s2 hll h2 hl'))
    · cases h
  | lstore k =>
    left
    simp only [il] at hlen
    obtain rfl : len = 2 := by omega
    simp only [st1, toJ] at h
    split at h
    · obtain ⟨lo2, h2, h⟩ := Option.bind_eq_some_iff.mp h
      cases go_inv h
      exact lv_lstore hx hb hd hl.has (hll ▸ (s2_spec h2).2.1) rfl (fun ls' hl' => kk rfl _ (lvr_s2 hll h2 hl'))
    · cases h
  | astore_n k =>
    left
    simp only [il] at hlen
    obtain rfl : len = 1 := by omega
    simp only [st1, toP] at h
    split at h
    · rename_i z r
      obtain ⟨lo2, h2, h⟩ := Option.bind_eq_some_iff.mp h
      cases go_inv h
      cases z with
      | none => exact lv_astore_nN hx hb hd rfl hl.has (hll ▸ (s1_spec h2).2.1) rfl (fun ls' hl' => kk rfl _ (lvr_s1 hll h2 hl'))
      | some q => exact lv_astore_n hx hb hd rfl hl.has (hll ▸ (s1_spec h2).2.1) rfl (fun ls' hl' => kk rfl _ (lvr_s1 hll h2 hl'))
    · cases h
  | astore k =>
    left
    simp only [il] at hlen
    obtain rfl : len = 2 := by omega
    simp only [st1, toP] at h
    split at h
    · rename_i z r
      obtain ⟨lo2, h2, h⟩ := Option.bind_eq_some_iff.mp h
      cases go_inv h
      cases z with
      | none => exact lv_astoreN hx hb hd hl.has (hll ▸ (s1_spec h2).2.1) rfl (fun ls' hl' => kk rfl _ (lvr_s1 hll h2 hl'))
      | some q => exact lv_astore hx hb hd hl.has (hll ▸ (s1_spec h2).2.1) rfl (fun ls' hl' => kk rfl _ (lvr_s1 hll h2 hl'))
    · cases h
  | iinc k n =>
    left
    simp only [il] at hlen
    obtain rfl : len = 3 := by omega
    simp only [st1] at h
    split at h
    · rename_i z hz
      obtain ⟨lo2, h2, h⟩ := Option.bind_eq_some_iff.mp h
      cases go_inv h
      have hmem : (k, Value.int z) ∈ asl g lo := asl_mem.mpr ⟨.inl z, lg_some.mp hz, rfl⟩
      obtain ⟨kq, hkq⟩ := List.getElem?_of_mem hmem
      exact lv_iinc hx hb hd hl.has hkq rfl (hll ▸ (s1_spec h2).2.1) rfl (fun ls' hl' => kk rfl _ (lvr_s1 hll h2 hl'))
    · cases h
  | goto off =>
    left
    simp only [il] at hlen
    obtain rfl : len = 3 := by omega
    obtain ⟨h1, rfl, rfl, rfl⟩ := jp_inv h
    exact lv_goto hx hb hd h1 (kk rfl _ hl)
  | ifCond q off =>
    left
    simp only [il] at hlen
    obtain rfl : len = 3 := by omega
    simp only [st1] at h
    split at h
    · obtain ⟨⟨t, h1, rfl⟩, rfl, rfl, rfl⟩ := brn_inv h
      exact S_if hx hb hd h1 (kk rfl _ hl)
    · cases h
  | if_icmp q off =>
    left
    simp only [il] at hlen
    obtain rfl : len = 3 := by omega
    simp only [st1] at h
    split at h
    · obtain ⟨⟨t, h1, rfl⟩, rfl, rfl, rfl⟩ := brn_inv h
      exact S_icmp hx hb hd h1 (kk rfl _ hl)
    · cases h
  | ifnull off =>
    left
    simp only [il] at hlen
    obtain rfl : len = 3 := by omega
    simp only [st1] at h
    split at h
    · obtain ⟨⟨t, h1, rfl⟩, rfl, rfl, rfl⟩ := brn_inv h
      exact S_null hx hb hd h1 (kk rfl _ hl)
    · cases h
  | ifnonnull off =>
    left
    simp only [il] at hlen
    obtain rfl : len = 3 := by omega
    simp only [st1] at h
    split at h
    · obtain ⟨⟨t, h1, rfl⟩, rfl, rfl, rfl⟩ := brn_inv h
      exact S_nonnull hx hb hd h1 (kk rfl _ hl)
    · cases h
  | if_acmp q off =>
    left
    simp only [il] at hlen
    obtain rfl : len = 3 := by omega
    simp only [st1] at h
    split at h
    · rename_i y z r
      split at h
      · rename_i he
        simp only [Bool.and_eq_true] at he
        obtain ⟨⟨t, h1, rfl⟩, rfl, rfl, rfl⟩ := brn_inv h
        have hv : ∀ u : Option (Nat × Nat), av g (.inr (.inr u)) = va_rf (u.map (fun w => g w.1 w.2)) := fun u => by cases u <;> rfl
        have hinj : (z.map (fun w => g w.1 w.2) = y.map (fun w => g w.1 w.2)) ↔ z = y := by
          constructor
          · intro w
            cases z with
            | none => cases y with
              | none => rfl
              | some b => simp at w
            | some a => cases y with
              | none => simp at w
              | some b =>
                simp only [exi, decide_eq_true_eq] at he
                have := hP.2.2 _ _ _ _ he.1 he.2 (by simpa using w)
                exact congrArg some (Prod.ext this.1 this.2)
          · intro w; rw [w]
        show W p l e R s m args below meth cd H locs cells slots Q (F0 m pc ls (av g (.inr (.inr y)) :: av g (.inr (.inr z)) :: st'.map (av g)))
        rw [hv y, hv z]
        cases q with
        | eq => exact lv_acmp_eq hx hb hd h1 (fun w => by have := kk rfl _ hl; simpa [hinj.mp w] using this) (fun w => by have := kk rfl _ hl; simpa [show ¬ z = y from fun u => w (hinj.mpr u)] using this)
        | ne => exact lv_acmp_ne hx hb hd h1 (fun w => by have := kk rfl _ hl; simpa [show ¬ z = y from fun u => w (hinj.mpr u)] using this) (fun w => by have := kk rfl _ hl; simpa [hinj.mp w] using this)
      · cases h
    · cases h
  | tableswitch d l0 h0 offs =>
    left
    simp only [st1] at h
    split at h
    · split at h
      · rename_i hh
        obtain ⟨h1, rfl, rfl, rfl⟩ := jp_inv h
        exact S_table hx hb hd hh h1 (kk rfl _ hl)
      · cases h
    · cases h
  | lookupswitch d ps =>
    left
    simp only [st1] at h
    split at h
    · split at h
      · rename_i hh
        obtain ⟨h1, rfl, rfl, rfl⟩ := jp_inv h
        exact lv_lookup hx hb hd hh (swo_look _ _ _) h1 (kk rfl _ hl)
      · cases h
    · cases h
  | getfield x =>
    left
    simp only [il] at hlen
    obtain rfl : len = 3 := by omega
    simp only [st1] at h
    split at h
    · rename_i q r
      obtain ⟨⟨c, k, j⟩, hf, h⟩ := Option.bind_eq_some_iff.mp h
      split at h
      · rename_i hc
        cases go_inv h
        obtain ⟨qc, qi⟩ := q
        obtain ⟨rfl, h2⟩ := hc
        exact S_get hx hb hts hown hK hP hf h2 hd (kk rfl _ hl)
      · cases h
    · cases h
  | arraylength =>
    left
    simp only [il] at hlen
    obtain rfl : len = 1 := by omega
    simp only [st1] at h
    split at h
    · split at h
      · rename_i hc
        cases go_inv h
        exact S_alen hx hb hK hP hc.1 hc.2.1 hc.2.2 hd (kk rfl _ hl)
      · cases h
    · cases h
  | iaload =>
    left
    simp only [il] at hlen
    obtain rfl : len = 1 := by omega
    simp only [st1] at h
    split at h
    · split at h
      · rename_i hc
        cases go_inv h
        exact S_iald hx hb hK hP hc.1 hc.2.1 hc.2.2.1 hc.2.2.2.1 hc.2.2.2.2 hd (kk rfl _ hl)
      · cases h
    · cases h
  | laload =>
    left
    simp only [il] at hlen
    obtain rfl : len = 1 := by omega
    simp only [st1] at h
    split at h
    · split at h
      · rename_i hc
        cases go_inv h
        exact S_lald hx hb hK hP hc.1 hc.2.1 hc.2.2.1 hc.2.2.2.1 hc.2.2.2.2 hd (kk rfl _ hl)
      · cases h
    · cases h
  | aaload =>
    left
    simp only [il] at hlen
    obtain rfl : len = 1 := by omega
    simp only [st1] at h
    split at h
    · split at h
      · rename_i hc
        cases go_inv h
        exact S_aald hx hb hK hP hc.1 hc.2.1 hc.2.2.1 hc.2.2.2.1 hc.2.2.2.2 hd (kk rfl _ hl)
      · cases h
    · cases h
  | ireturn =>
    exfalso
    simp only [st1] at h
    split at h
    · split at h <;> cases h
    · cases h
  | lreturn =>
    exfalso
    simp only [st1] at h
    split at h
    · split at h <;> cases h
    · cases h
  | areturn =>
    exfalso
    simp only [st1] at h
    split at h <;> cases h
  | return_ =>
    exfalso
    simp only [st1] at h
    split at h <;> cases h
  | _ =>
    left
    simp only [st1] at h
    obtain ⟨q, hq, h⟩ := Option.bind_eq_some_iff.mp h
    cases go_inv h
    refine S_pu hx hb hq ?_ (kk rfl _ hl)
    simp only [il] at hlen ⊢
    first | (obtain rfl : len = 1 := by omega
             exact hd) | (obtain rfl : len = 2 := by omega
                          exact hd) | (obtain rfl : len = 3 := by omega
                                       exact hd) | (simp [pu] at hq)
end Snd5
