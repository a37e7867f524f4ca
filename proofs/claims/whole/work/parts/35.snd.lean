/-! SOUNDNESS, the whole: a run of the abstract machine is a contract of the machine -/
theorem st1_gh {g : Nat → Nat → Nat} {mi pc : Nat} {i : Instr} {lo : Lo} {st : List Av} {σ : Sg} {q : Nat × Lo × List Av × Sg} (h : st1 g mi pc i lo st σ = some (.inl q)) : q.2.2.2.2.2.2 = σ.2.2.2 ∨ ∃ c n, q.2.2.2 = nw σ c n ∧ sz σ = g c (cn σ c) := by
  cases i with
  | putfield x =>
    simp only [st1] at h
    split at h
    · obtain ⟨f, hf, h⟩ := Option.bind_eq_some_iff.mp h
      split at h
      · obtain ⟨τ, hw, h⟩ := Option.bind_eq_some_iff.mp h
        cases go_inv h
        exact Or.inl (wr_gh hw)
      · cases h
    · cases h
  | new x =>
    simp only [st1] at h
    obtain ⟨f, hf, h⟩ := Option.bind_eq_some_iff.mp h
    split at h
    · rename_i hz
      cases go_inv h
      exact Or.inr ⟨_, _, rfl, hz⟩
    · cases h
  | newarray t =>
    simp only [st1] at h
    split at h
    · obtain ⟨f, hf, h⟩ := Option.bind_eq_some_iff.mp h
      split at h
      · rename_i hz
        cases go_inv h
        exact Or.inr ⟨_, _, rfl, hz.1⟩
      · cases h
    · cases h
  | anewarray x =>
    simp only [st1] at h
    split at h
    · obtain ⟨f, hf, h⟩ := Option.bind_eq_some_iff.mp h
      obtain ⟨f2, hf2, h⟩ := Option.bind_eq_some_iff.mp h
      split at h
      · rename_i hz
        cases go_inv h
        exact Or.inr ⟨_, _, rfl, hz.1⟩
      · cases h
    · cases h
  | iastore =>
    simp only [st1] at h
    split at h
    · split at h
      · cases go_inv h
        exact Or.inl rfl
      · cases h
    · cases h
  | lastore =>
    simp only [st1] at h
    split at h
    · split at h
      · cases go_inv h
        exact Or.inl rfl
      · cases h
    · cases h
  | aastore =>
    simp only [st1] at h
    split at h
    · split at h
      · cases go_inv h
        exact Or.inl rfl
      · cases h
    · cases h
  | ldc x =>
    simp only [st1] at h
    obtain ⟨f, hf, h⟩ := Option.bind_eq_some_iff.mp h
    cases go_inv h
    exact Or.inl rfl
  | ldc2_w x =>
    simp only [st1] at h
    obtain ⟨f, hf, h⟩ := Option.bind_eq_some_iff.mp h
    cases go_inv h
    exact Or.inl rfl
  | iload_n k =>
    simp only [st1, ldI] at h
    split at h
    · cases go_inv h
      exact Or.inl rfl
    · cases h
  | iload k =>
    simp only [st1, ldI] at h
    split at h
    · cases go_inv h
      exact Or.inl rfl
    · cases h
  | lload_n k =>
    simp only [st1, ldJ] at h
    split at h
    · cases go_inv h
      exact Or.inl rfl
    · cases h
  | lload k =>
    simp only [st1, ldJ] at h
    split at h
    · cases go_inv h
      exact Or.inl rfl
    · cases h
  | aload_n k =>
    simp only [st1, ldP] at h
    split at h
    · cases go_inv h
      exact Or.inl rfl
    · cases h
  | aload k =>
    simp only [st1, ldP] at h
    split at h
    · cases go_inv h
      exact Or.inl rfl
    · cases h
  | istore_n k =>
    simp only [st1, toI] at h
    split at h
    · obtain ⟨f, hf, h⟩ := Option.bind_eq_some_iff.mp h
      cases go_inv h
      exact Or.inl rfl
    · cases h
  | istore k =>
    simp only [st1, toI] at h
    split at h
    · obtain ⟨f, hf, h⟩ := Option.bind_eq_some_iff.mp h
      cases go_inv h
      exact Or.inl rfl
    · cases h
  | lstore_n k =>
    simp only [st1, toJ] at h
    split at h
    · obtain ⟨f, hf, h⟩ := Option.bind_eq_some_iff.mp h
      cases go_inv h
      exact Or.inl rfl
    · cases h
  | lstore k =>
    simp only [st1, toJ] at h
    split at h
    · obtain ⟨f, hf, h⟩ := Option.bind_eq_some_iff.mp h
      cases go_inv h
      exact Or.inl rfl
    · cases h
  | astore_n k =>
    simp only [st1, toP] at h
    split at h
    · obtain ⟨f, hf, h⟩ := Option.bind_eq_some_iff.mp h
      cases go_inv h
      exact Or.inl rfl
    · cases h
  | astore k =>
    simp only [st1, toP] at h
    split at h
    · obtain ⟨f, hf, h⟩ := Option.bind_eq_some_iff.mp h
      cases go_inv h
      exact Or.inl rfl
    · cases h
  | iinc k n =>
    simp only [st1] at h
    split at h
    · obtain ⟨f, hf, h⟩ := Option.bind_eq_some_iff.mp h
      cases go_inv h
      exact Or.inl rfl
    · cases h
  | goto off =>
    obtain ⟨a, b, d, τ⟩ := q
    obtain ⟨_, _, _, rfl⟩ := jp_inv h
    exact Or.inl rfl
  | ifCond q0 off =>
    obtain ⟨a, b, d, τ⟩ := q
    simp only [st1] at h
    split at h
    · obtain ⟨_, _, _, rfl⟩ := brn_inv h
      exact Or.inl rfl
    · cases h
  | if_icmp q0 off =>
    obtain ⟨a, b, d, τ⟩ := q
    simp only [st1] at h
    split at h
    · obtain ⟨_, _, _, rfl⟩ := brn_inv h
      exact Or.inl rfl
    · cases h
  | ifnull off =>
    obtain ⟨a, b, d, τ⟩ := q
    simp only [st1] at h
    split at h
    · obtain ⟨_, _, _, rfl⟩ := brn_inv h
      exact Or.inl rfl
    · cases h
  | ifnonnull off =>
    obtain ⟨a, b, d, τ⟩ := q
    simp only [st1] at h
    split at h
    · obtain ⟨_, _, _, rfl⟩ := brn_inv h
      exact Or.inl rfl
    · cases h
  | if_acmp q0 off =>
    obtain ⟨a, b, d, τ⟩ := q
    simp only [st1] at h
    split at h
    · split at h
      · obtain ⟨_, _, _, rfl⟩ := brn_inv h
        exact Or.inl rfl
      · cases h
    · cases h
  | tableswitch d0 l0 h0 offs =>
    obtain ⟨a, b, d, τ⟩ := q
    simp only [st1] at h
    split at h
    · split at h
      · obtain ⟨_, _, _, rfl⟩ := jp_inv h
        exact Or.inl rfl
      · cases h
    · cases h
  | lookupswitch d0 ps =>
    obtain ⟨a, b, d, τ⟩ := q
    simp only [st1] at h
    split at h
    · split at h
      · obtain ⟨_, _, _, rfl⟩ := jp_inv h
        exact Or.inl rfl
      · cases h
    · cases h
  | getfield x =>
    simp only [st1] at h
    split at h
    · obtain ⟨f, hf, h⟩ := Option.bind_eq_some_iff.mp h
      split at h
      · cases go_inv h
        exact Or.inl rfl
      · cases h
    · cases h
  | arraylength =>
    simp only [st1] at h
    split at h
    · split at h
      · cases go_inv h
        exact Or.inl rfl
      · cases h
    · cases h
  | iaload =>
    simp only [st1] at h
    split at h
    · split at h
      · cases go_inv h
        exact Or.inl rfl
      · cases h
    · cases h
  | laload =>
    simp only [st1] at h
    split at h
    · split at h
      · cases go_inv h
        exact Or.inl rfl
      · cases h
    · cases h
  | aaload =>
    simp only [st1] at h
    split at h
    · split at h
      · cases go_inv h
        exact Or.inl rfl
      · cases h
    · cases h
  | ireturn =>
    simp only [st1] at h
    split at h
    · split at h <;> cases h
    · cases h
  | lreturn =>
    simp only [st1] at h
    split at h
    · split at h <;> cases h
    · cases h
  | areturn =>
    simp only [st1] at h
    split at h <;> cases h
  | return_ =>
    simp only [st1] at h
    split at h <;> cases h
  | _ =>
    simp only [st1] at h
    obtain ⟨f, hf, h⟩ := Option.bind_eq_some_iff.mp h
    cases go_inv h
    exact Or.inl rfl
theorem st1_sz {g : Nat → Nat → Nat} {mi pc : Nat} {i : Instr} {lo : Lo} {st : List Av} {σ : Sg} {q : Nat × Lo × List Av × Sg} (h : st1 g mi pc i lo st σ = some (.inl q)) : sz σ ≤ sz q.2.2.2 ∧ sl σ ≤ sl q.2.2.2 ∧ ∀ c i, i < cn q.2.2.2 c → i < cn σ c ∨ (g c i = sz σ) := by
  rcases st1_gh h with h | ⟨c, n, h, hz⟩
  · obtain ⟨h1, h2, h3⟩ := sz_gh h
    exact ⟨by omega, by omega, fun c i hi => Or.inl (by rw [← h3]; exact hi)⟩
  · rw [h]
    refine ⟨Nat.le_succ _, Nat.le_add_right _ _, fun c' i hi => ?_⟩
    have : cn (nw σ c n) c' = if c' = c then cn σ c + 1 else cn σ c' := rfl
    rw [this] at hi
    split at hi
    · rename_i hc
      subst hc
      by_cases hq : i < cn σ c'
      · exact Or.inl hq
      · right
        rw [show i = cn σ c' by omega, hz]
    · exact Or.inl hi
theorem ex_sz {g : Nat → Nat → Nat} : ∀ (n mi pc : Nat) (lo : Lo) (st : List Av) (σ : Sg) (X : Sg × Option Av), ex g n mi pc lo st σ = some X → sz σ ≤ sz X.1 ∧ sl σ ≤ sl X.1 ∧ ∀ c i, i < cn X.1 c → i < cn σ c ∨ sz σ ≤ g c i := by
  intro n
  induction n with
  | zero => intro mi pc lo st σ X h; simp [ex] at h
  | succ n ih =>
    intro mi pc lo st σ X h
    rw [ex] at h
    split at h
    · cases h
    · split at h
      · split at h
        · cases h
        · cases h; exact ⟨Nat.le_refl _, Nat.le_refl _, fun c i hi => Or.inl hi⟩
        · rename_i q hq
          obtain ⟨a1, a2, a3⟩ := st1_sz hq
          obtain ⟨b1, b2, b3⟩ := ih _ _ _ _ _ _ h
          refine ⟨by omega, by omega, fun c i hi => ?_⟩
          rcases b3 c i hi with h | h
          · rcases a3 c i h with h | h
            · exact Or.inl h
            · exact Or.inr (by omega)
          · exact Or.inr (by omega)
      · split at h
        · exact ih _ _ _ _ _ _ h
        · split at h
          · cases h
          · split at h
            · cases h
            · rename_i w hw
              obtain ⟨a1, a2, a3⟩ := ih _ _ _ _ _ _ hw
              obtain ⟨b1, b2, b3⟩ := ih _ _ _ _ _ _ h
              refine ⟨by omega, by omega, fun c i hi => ?_⟩
              rcases b3 c i hi with h | h
              · rcases a3 c i h with h | h
                · exact Or.inl h
                · exact Or.inr h
              · exact Or.inr (by omega)
theorem brn_no {b : Bool} {pc : Nat} {off : Int} {lo : Lo} {st : List Av} {σ : Sg} {X : Option Av} (h : brn b pc off lo st σ = some (.inr X)) : False := by
  unfold brn go at h
  split at h
  · cases h
  · split at h <;> cases h
section Snd6
variable {p : Program} {l : Launch} {e : Env} {R : Room} {s : State} {m : MethodId} {args : Array Value} {below : List Frame} {meth : Method} {cd : Code} {H : Heap} {locs : List Loc} {cells slots : Nat} {Q : State → Prop} {pc pc' mi len : Nat} {ls : Array Slot} {g : Nat → Nat → Nat} {D : va_G} {E : Nat → ClassId} {A : Nat → Prop} {H0 : Heap} {σ τ : Sg} {i : Instr} {lo lo' : Lo} {st st' : List Av}
/-- one instruction that is no call -/
theorem S_one (C : Cx D E p R s m args meth cd mi) (hd : decode (bC mi) pc = .ok (i, len)) (hlen : il i = len ∨ il i = 0) (hpf : ∀ x, i = .putfield x → ∀ f, fL.lookup (ow mi, x) = some f → (cT f.1 f.2.1).2.2.2 = true → isIni mi = true ∧ ow mi = f.1) (h : st1 g mi pc i lo st σ = some (.inl (pc', lo', st', τ))) (hl : lvr g ls (mx mi) lo) (hP : HP g D E σ H) (hS : va_S A H0 H locs) (hA1 : ∀ c i, i < cn σ c → A (g c i)) (hR : cells + (sz τ - sz σ) ≤ R.cells ∧ slots + (sl τ - sl σ) ≤ R.slots)
    (kk : ∀ ls' H' locs', lvr g ls' (mx mi) lo' → HP g D E τ H' → va_S A H0 H' locs' → W p l e R s m args below meth cd H' locs' (cells + (sz τ - sz σ)) (slots + (sl τ - sl σ)) Q (F0 m pc' ls' (st'.map (av g)))) : W p l e R s m args below meth cd H locs cells slots Q (F0 m pc ls (st.map (av g))) := by
  have hsame : τ.2.2.2 = σ.2.2.2 → ∀ ls' H' locs', lvr g ls' (mx mi) lo' → HP g D E τ H' → va_S A H0 H' locs' → W p l e R s m args below meth cd H' locs' cells slots Q (F0 m pc' ls' (st'.map (av g))) := by
    intro hq ls' H' locs' a b d
    obtain ⟨h1, h2, -⟩ := sz_gh hq
    have := kk ls' H' locs' a b d
    rw [h1, h2, Nat.sub_self, Nat.sub_self, Nat.add_zero, Nat.add_zero] at this
    exact this
  have hnew : ∀ c n, τ = nw σ c n → cells + 1 ≤ R.cells ∧ slots + n ≤ R.slots ∧ (∀ ls' H' locs', lvr g ls' (mx mi) lo' → HP g D E τ H' → va_S A H0 H' locs' → W p l e R s m args below meth cd H' locs' (cells + 1) (slots + n) Q (F0 m pc' ls' (st'.map (av g)))) := by
    intro c n hq
    have h1 : sz τ - sz σ = 1 := by rw [hq]; show sz σ + 1 - sz σ = 1; omega
    have h2 : sl τ - sl σ = n := by rw [hq]; show sl σ + n - sl σ = n; omega
    rw [h1, h2] at hR
    rw [h1, h2] at kk
    exact ⟨hR.1, hR.2, kk⟩
  rcases S_same (locs := locs) (cells := cells) (slots := slots) (Q := Q) (l := l) (e := e) (below := below) C hd hlen h hl hP (fun hq ls' hl' => hsame (by rw [hq]) ls' H locs hl' (by rw [hq]; exact hP) hS) with hW | ⟨x, rfl | rfl | rfl⟩ | ⟨t, rfl⟩ | rfl | rfl | rfl
  · exact hW
  all_goals obtain ⟨hx, hb, hml, hown, hts, hK, -, -, hnm, -, -⟩ := C
  all_goals simp only [il] at hlen
  · obtain rfl : len = 3 := by omega
    simp only [st1] at h
    split at h
    · rename_i v q r
      obtain ⟨⟨c, k, j⟩, hf, h⟩ := Option.bind_eq_some_iff.mp h
      split at h
      · rename_i hc
        obtain ⟨τ2, hw, h⟩ := Option.bind_eq_some_iff.mp h
        cases go_inv h
        obtain ⟨qc, qi⟩ := q
        obtain ⟨rfl, h2⟩ := hc
        exact S_put hx hb hts hown hK hP hS (hA1 _ _ h2) hf (fun hfin => by obtain ⟨a, b⟩ := hpf x rfl _ hf hfin; exact ⟨hnm a, b⟩) h2 hw hd (fun H1 locs1 hP1 hS1 => hsame (wr_gh hw) _ H1 locs1 hl hP1 hS1)
      · cases h
    · cases h
  · obtain rfl : len = 3 := by omega
    simp only [st1] at h
    obtain ⟨⟨c, j⟩, hf, h⟩ := Option.bind_eq_some_iff.mp h
    split at h
    · rename_i hz
      cases go_inv h
      obtain ⟨r1, r2, r3⟩ := hnew _ _ rfl
      exact S_new hx hb hts hown hK hP hS hf hz r1 r2 hd (fun H1 hP1 hS1 => r3 _ H1 _ hl hP1 hS1)
    · cases h
  · obtain rfl : len = 3 := by omega
    simp only [st1] at h
    split at h
    · obtain ⟨c, hc, h⟩ := Option.bind_eq_some_iff.mp h
      obtain ⟨⟨f, j⟩, hf, h⟩ := Option.bind_eq_some_iff.mp h
      split at h
      · rename_i hz
        cases go_inv h
        obtain ⟨r1, r2, r3⟩ := hnew _ _ rfl
        exact S_anew hx hb hts hown hK hP hS (sL_ok _ (look_mem hc)) hf hz.2.2.2 hz.1 hz.2.1 hz.2.2.1 r1 r2 hd (fun H1 hP1 hS1 => r3 _ H1 _ hl hP1 hS1)
      · cases h
    · cases h
  · obtain rfl : len = 2 := by omega
    simp only [st1] at h
    split at h
    · obtain ⟨c, hc, h⟩ := Option.bind_eq_some_iff.mp h
      split at h
      · rename_i hz
        cases go_inv h
        obtain ⟨r1, r2, r3⟩ := hnew _ _ rfl
        exact S_newa hx hb hts hK hP hS (sL_ok _ (look_mem hc)) hz.1 hz.2.1 hz.2.2.1 hz.2.2.2 r1 r2 hd (fun H1 hP1 hS1 => r3 _ H1 _ hl hP1 hS1)
      · cases h
    · cases h
  · obtain rfl : len = 1 := by omega
    simp only [st1] at h
    split at h
    · split at h
      · rename_i hc
        cases go_inv h
        exact S_iast hx hb hK hP hS (hA1 _ _ hc.2.2.2.1) hc.1 hc.2.1 hc.2.2.1 hc.2.2.2.1 hc.2.2.2.2 hd (fun H1 locs1 hP1 hS1 => hsame rfl _ H1 locs1 hl hP1 hS1)
      · cases h
    · cases h
  · obtain rfl : len = 1 := by omega
    simp only [st1] at h
    split at h
    · split at h
      · rename_i hc
        cases go_inv h
        exact S_last hx hb hK hP hS (hA1 _ _ hc.2.2.2.1) hc.1 hc.2.1 hc.2.2.1 hc.2.2.2.1 hc.2.2.2.2 hd (fun H1 locs1 hP1 hS1 => hsame rfl _ H1 locs1 hl hP1 hS1)
      · cases h
    · cases h
  · obtain rfl : len = 1 := by omega
    simp only [st1] at h
    split at h
    · split at h
      · rename_i hc
        cases go_inv h
        exact S_aast hx hb hK hP hS (hA1 _ _ hc.2.2.2.1) hc.1 hc.2.1 hc.2.2.1 hc.2.2.2.1 hc.2.2.2.2.1 hc.2.2.2.2.2.1 hc.2.2.2.2.2.2 hd (fun H1 locs1 hP1 hS1 => hsame rfl _ H1 locs1 hl hP1 hS1)
      · cases h
    · cases h
/-- a return -/
theorem S_ret {X : Option Av} (C : Cx D E p R s m args meth cd mi) (hd : decode (bC mi) pc = .ok (i, len)) (hlen : il i = len ∨ il i = 0) (hor : okR mi (pc, i, len) = true) (h : st1 g mi pc i lo st σ = some (.inr X)) (hP : HP g D E σ H) (hS : va_S A s.heap H locs) : W p l e R s m args below meth cd H locs cells slots (MQ below (Qx g D E A (σ, X)) args s cells slots A) (F0 m pc ls (st.map (av g))) := by
  obtain ⟨hx, hb, hml, hown, hts, hK, hr, hlocks, -, -, -⟩ := C
  have hq : ∀ (v : Option Value), v = X.map (av g) → ∀ t : State, t.heap = H → s.WarmedH t.vm → Qx g D E A (σ, X) args s (.returned v) t := fun v hv t ht _ => ⟨by rw [hv], by rw [ht]; exact hP, hS.F ht⟩
  cases i with
  | ireturn =>
    simp only [il] at hlen
    obtain rfl : len = 1 := by omega
    simp only [st1] at h
    split at h
    · split at h
      · rename_i hc
        cases h
        rcases hc with hc | ⟨hc, hv⟩
        · exact W.iret hx hb (hr.trans hc) (hq _ rfl) hS.2.2 hd
        · exact W.zret hx hb (hr.trans hc) (by rcases hv with rfl | rfl <;> rfl) (hq _ rfl) hS.2.2 hd
      · cases h
    · cases h
  | lreturn =>
    simp only [il] at hlen
    obtain rfl : len = 1 := by omega
    simp only [st1] at h
    split at h
    · split at h
      · rename_i hc
        cases h
        exact W.lret hx hb (hr.trans hc) (hq _ rfl) hS.2.2 hd
      · cases h
    · cases h
  | areturn =>
    simp only [il] at hlen
    obtain rfl : len = 1 := by omega
    simp only [st1] at h
    split at h
    · rename_i z
      cases h
      simp only [okR] at hor
      have hro : ∃ rt, rT mi = some rt ∧ ((∃ n, rt = .object n) ∨ ∃ t, rt = .array t) := by
        unfold rfT at hor
        split at hor
        · rename_i n hn; exact ⟨_, hn, Or.inl ⟨n, rfl⟩⟩
        · rename_i n hn; exact ⟨_, hn, Or.inr ⟨n, rfl⟩⟩
        · cases hor
      obtain ⟨rt, h1, h2⟩ := hro
      exact W.aret hx hb (hr.trans h1) h2 (by cases z <;> simp [av]) (hq _ rfl) hS.2.2 hd
    · cases h
  | return_ =>
    simp only [il] at hlen
    obtain rfl : len = 1 := by omega
    simp only [okR, decide_eq_true_eq] at hor
    simp only [st1] at h
    split at h
    · cases h
      exact W.vret hx hb (hr.trans hor) (hq _ rfl) hS.2.2 hd
    · cases h
  | if_acmp q0 off =>
    exfalso
    simp only [st1] at h
    split at h
    · split at h
      · exact brn_no h
      · cases h
    · cases h
  | _ =>
    exfalso
    revert h
    simp only [st1, ldI, ldJ, ldP, toI, toJ, toP, jp, brn, go]
    first
      | (intro h; obtain ⟨_, _, h⟩ := Option.bind_eq_some_iff.mp h; cases h; done)
      | (split <;> (intro h; cases h); done)
      | (split
         · intro h; obtain ⟨_, _, h⟩ := Option.bind_eq_some_iff.mp h; cases h
         · intro h; cases h
         done)
      | (split
         · split
           · intro h; cases h
           · split <;> (intro h; cases h)
         · intro h; cases h
         done)
      | (split
         · split
           · split
             · intro h; cases h
             · split <;> (intro h; cases h)
           · intro h; cases h
         · intro h; cases h
         done)
      | (split
         · split
           · split <;> (intro h; cases h)
           · intro h; cases h
         · intro h; cases h
         done)
      | (split
         · intro h
           obtain ⟨_, _, h⟩ := Option.bind_eq_some_iff.mp h
           split at h
           · obtain ⟨_, _, h⟩ := Option.bind_eq_some_iff.mp h; cases h
           · cases h
         · intro h; cases h
         done)
      | (split
         · intro h
           obtain ⟨_, _, h⟩ := Option.bind_eq_some_iff.mp h
           split at h <;> cases h
         · intro h; cases h
         done)
      | (split
         · intro h
           obtain ⟨_, _, h⟩ := Option.bind_eq_some_iff.mp h
           obtain ⟨_, _, h⟩ := Option.bind_eq_some_iff.mp h
           split at h <;> cases h
         · intro h; cases h
         done)
      | (split
         · split <;> (intro h; cases h)
         · intro h; cases h
         done)
      | (intro h
         obtain ⟨_, _, h⟩ := Option.bind_eq_some_iff.mp h
         split at h <;> cases h
         done)
end Snd6
