/-! SOUNDNESS, the end: every run of the abstract machine is a contract -/
theorem entry_al (g : Nat → Nat → Nat) : ∀ (as : List Av), (lg_sl (as.map (av g))).length = (al as).length ∧ ∀ (i : Nat) (v : Av), (al as)[i]? = some (some v) → (lg_sl (as.map (av g)))[i]? = some (Slot.val (av g v))
  | [] => ⟨rfl, fun i v h => by simp [al] at h⟩
  | .inl x :: r => by
    obtain ⟨h1, h2⟩ := entry_al g r
    have e1 : lg_sl ((Sum.inl x :: r).map (av g)) = Slot.val (.int x) :: lg_sl (r.map (av g)) := rfl
    have e2 : al (Sum.inl x :: r) = some (.inl x) :: al r := rfl
    rw [e1, e2]
    refine ⟨by simp [h1], fun i v h => ?_⟩
    cases i with
    | zero => simp at h; subst h; rfl
    | succ i => exact h2 i v (by simpa using h)
  | .inr (.inl x) :: r => by
    obtain ⟨h1, h2⟩ := entry_al g r
    have e1 : lg_sl ((Sum.inr (Sum.inl x) :: r).map (av g)) = Slot.val (.long x) :: Slot.second :: lg_sl (r.map (av g)) := rfl
    have e2 : al (Sum.inr (Sum.inl x) :: r) = some (.inr (.inl x)) :: none :: al r := rfl
    rw [e1, e2]
    refine ⟨by simp [h1], fun i v h => ?_⟩
    match i with
    | 0 => simp at h; subst h; rfl
    | 1 => simp at h
    | i + 2 => exact h2 i v (by simpa using h)
  | .inr (.inr x) :: r => by
    obtain ⟨h1, h2⟩ := entry_al g r
    have e1 : lg_sl ((Sum.inr (Sum.inr x) :: r).map (av g)) = Slot.val (av g (.inr (.inr x))) :: lg_sl (r.map (av g)) := by
      cases x <;> rfl
    have e2 : al (Sum.inr (Sum.inr x) :: r) = some (.inr (.inr x)) :: al r := rfl
    rw [e1, e2]
    refine ⟨by simp [h1], fun i v h => ?_⟩
    cases i with
    | zero => simp at h; subst h; rfl
    | succ i => exact h2 i v (by simpa using h)
theorem entry_lvr (g : Nat → Nat → Nat) (as : List Av) (n : Nat) (h : (al as).length ≤ n) : lvr g (lg_sl (as.map (av g)) ++ List.replicate (n - (lg_sl (as.map (av g))).length) Slot.unset).toArray n (pd n (al as)) := by
  obtain ⟨h1, h2⟩ := entry_al g as
  have he := lv_entry (as.map (av g)) (n := n) (by rw [h1]; exact h)
  refine ⟨he.1, he.2.1, by unfold pd; simp; omega, fun i v hi => ?_⟩
  unfold pd at hi
  rw [List.getElem?_toArray]
  by_cases hl : i < (al as).length
  · rw [List.getElem?_append_left hl] at hi
    rw [List.getElem?_append_left (by rw [h1]; exact hl)]
    exact h2 i v hi
  · rw [List.getElem?_append_right (by omega)] at hi
    have := List.mem_of_getElem? hi
    simp at this
theorem sound (l : Launch) (g : Nat → Nat → Nat) (D : va_G) (E : Nat → ClassId) : ∀ (n mi pc : Nat) (lo : Lo) (st : List Av) (σ : Sg) (X : Sg × Option Av), ex g n mi pc lo st σ = some X → mi < 184 → ∀ (A : Nat → Prop) (p : Program) (e : Env) (R : Room) (s : State) (m : MethodId) (args : Array Value) (below : List Frame) (meth : Method) (cd : Code) (ls : Array Slot) (H : Heap) (locs : List Loc) (cells slots : Nat), Cx D E p R s m args meth cd mi → lvr g ls (mx mi) lo → HP g D E σ H → va_S A s.heap H locs → (∀ c i, i < cn σ c → A (g c i)) → (∀ q, s.heap.size ≤ q → A q) → cells + (sz X.1 - sz σ) ≤ R.cells → slots + (sl X.1 - sl σ) ≤ R.slots → W p l e R s m args below meth cd H locs cells slots (MQ below (Qx g D E A X) args s (cells + (sz X.1 - sz σ)) (slots + (sl X.1 - sl σ)) A) (F0 m pc ls (st.map (av g))) := by
  intro n
  induction n with
  | zero => intro mi pc lo st σ X h; simp [ex] at h
  | succ n ih =>
    intro mi pc lo st σ X h hm A p e R s m args below meth cd ls H locs cells slots C hl hP hS hA1 hA2 hR1 hR2
    rw [ex] at h
    split at h
    · cases h
    rename_i i len hi
    have hok := ii_ok hm hi
    have hor := ii_okR hm hi
    simp only [okI, Bool.and_eq_true, decide_eq_true_eq, Bool.or_eq_true, beq_iff_eq] at hok
    obtain ⟨⟨hd, hlen⟩, hpf⟩ := hok
    have hszle : s.heap.size ≤ sz σ := by rw [← hP.1]; exact hS.1
    split at h
    · split at h
      · cases h
      · rename_i r hr
        cases h
        have e1 : cells + (sz σ - sz σ) = cells := by omega
        have e2 : slots + (sl σ - sl σ) = slots := by omega
        dsimp only
        rw [e1, e2]
        exact S_ret C hd hlen hor hr hP hS
      · rename_i q hq
        obtain ⟨pc', lo', st', τ⟩ := q
        obtain ⟨a1, a2, a3⟩ := st1_sz hq
        obtain ⟨b1, b2, b3⟩ := ex_sz _ _ _ _ _ _ _ h
        dsimp only at a1 a2 a3 b1 b2 b3 h
        have hA1' : ∀ c i, i < cn τ c → A (g c i) := by
          intro c i hi
          rcases a3 c i hi with h | h
          · exact hA1 c i h
          · exact hA2 _ (by omega)
        refine S_one C hd hlen ?_ hq hl hP hS hA1 ⟨by omega, by omega⟩ (fun ls' H' locs' hl' hP' hS' => ?_)
        · intro x hx f hf hfin
          subst hx
          simp only [hf, Bool.or_eq_true, Bool.not_eq_true', Bool.and_eq_true, beq_iff_eq] at hpf
          rcases hpf with h | h
          · rw [hfin] at h; cases h
          · exact h
        · have := ih _ _ _ _ _ _ h hm A p e R s m args below meth cd ls' H' locs' (cells + (sz τ - sz σ)) (slots + (sl τ - sl σ)) C hl' hP' hS' hA1' hA2 (by omega) (by omega)
          rw [show cells + (sz τ - sz σ) + (sz X.1 - sz τ) = cells + (sz X.1 - sz σ) by omega, show slots + (sl τ - sl σ) + (sl X.1 - sl τ) = slots + (sl X.1 - sl σ) by omega] at this
          exact this
    · rename_i x ks hci
      have hlen3 : len = 3 := by
        unfold cI at hci
        split at hci <;> simp only [il] at hlen <;> first | omega | cases hci
      subst hlen3
      split at h
      · rename_i r hr
        obtain ⟨b1, b2, b3⟩ := ex_sz _ _ _ _ _ _ _ h
        exact S_c0 C hl.1 hci hr hd ⟨by omega, by omega⟩ (ih _ _ _ _ _ _ h hm A p e R s m args below meth cd ls H locs cells slots C hl hP hS hA1 hA2 hR1 hR2)
      · split at h
        · cases h
        rename_i q hq
        obtain ⟨mj, as, rest⟩ := q
        dsimp only at h
        split at h
        · cases h
        rename_i Y hY
        obtain ⟨a1, a2, a3⟩ := ex_sz _ _ _ _ _ _ _ hY
        obtain ⟨b1, b2, b3⟩ := ex_sz _ _ _ _ _ _ _ h
        have hal : (al as).length ≤ mx mj := by
          unfold c1 at hq
          obtain ⟨q, -, hc⟩ := Option.bind_eq_some_iff.mp hq
          split at hc
          case isFalse => cases hc
          obtain ⟨a, -, hc⟩ := Option.bind_eq_some_iff.mp hc
          split at hc
          case isFalse => cases hc
          rename_i h2
          simp only [Option.some.injEq, Prod.mk.injEq] at hc
          obtain ⟨rfl, rfl, rfl⟩ := hc
          simp only [c2, Bool.and_eq_true, decide_eq_true_eq] at h2
          exact h2.1.2
        have hA2' : ∀ q, sz σ ≤ q → A q := fun q h => hA2 q (by omega)
        have hA1' : ∀ c i, i < cn Y.1 c → A (g c i) := by
          intro c i hi
          rcases a3 c i hi with h | h
          · exact hA1 c i h
          · exact hA2' _ h
        have hM : mj < 184 → ow mj ≠ 13 → Met l (yN mj) (wsA mj) (rmA mj (sz Y.1 - sz σ) (sl Y.1 - sl σ)) (Pm g D E A σ as) (Qx g D E A Y) (sz Y.1 - sz σ) (sl Y.1 - sl σ) A := by
          intro hmj how
          obtain ⟨t1, t2, t3, t4, t5⟩ := mt_ok mj hmj
          refine Met.ofW (cc := bC mj) (maxL := mx mj) (ret := rT mj) (t3 how) rfl ?_
          intro p' e' s' m' args' below' meth' c' s₁ B hml hv
          obtain ⟨rfl, hP', hK', hA1', hA2'⟩ := hv
          have hts' := atoms_spec (ws := wsA mj) B.pre
          have hown' : s'.vm.findClass (oN (ow mj)) = some m'.cls := by rw [← t2]; exact findClass_of_methodNamed B.named
          have C' : Cx D E p' (headSpec (wsA mj) (rmA mj (sz Y.1 - sz σ) (sl Y.1 - sl σ))).room s' m' (as.map (av g)).toArray meth' c' mj := ⟨B.exec, B.bytes, hml, hown', fun w hw => hts' w (List.mem_cons_of_mem _ hw), hK', B.returns, B.notSynchronized, fun hi => by have := (name_of_methodNamed B.named B.method).1; rw [this]; simpa [isIni] using hi, Nat.le_refl _, Nat.le_refl _⟩
          rw [lg_entry_eq]
          have := ih _ _ _ _ _ _ hY hmj A p' e' (headSpec (wsA mj) (rmA mj (sz Y.1 - sz σ) (sl Y.1 - sl σ))).room s' m' (as.map (av g)).toArray below' meth' c' _ s'.heap [] 0 0 C' (entry_lvr g as (mx mj) hal) hP' va_S.rf hA1' (fun q h => hA2' q (by rw [← hP'.1]; exact h)) (by rw [Nat.zero_add]; exact Nat.le_refl _) (by rw [Nat.zero_add]; exact Nat.le_refl _)
          rw [Nat.zero_add, Nat.zero_add] at this
          exact this
        refine S_call hm C hP hS hA1 hA2' hl.1 hci hq hd hM ⟨by omega, by omega⟩ (fun H1 locs1 hP1 hS1 => ?_)
        have := ih _ _ _ _ _ _ h hm A p e R s m args below meth cd ls H1 locs1 (cells + (sz Y.1 - sz σ)) (slots + (sl Y.1 - sl σ)) C hl hP1 hS1 hA1' hA2 (by omega) (by omega)
        rw [show cells + (sz Y.1 - sz σ) + (sz X.1 - sz Y.1) = cells + (sz X.1 - sz σ) by omega, show slots + (sl Y.1 - sl σ) + (sl X.1 - sl Y.1) = slots + (sl X.1 - sl σ) by omega] at this
        exact this
/-- A RUN IS A CONTRACT -/
theorem met_of (l : Launch) (g : Nat → Nat → Nat) (D : va_G) (E : Nat → ClassId) (A : Nat → Prop) {mj : Nat} {as : List Av} {lo : Lo} {σ : Sg} {Y : Sg × Option Av} (hmj : mj < 184) (how : ow mj ≠ 13) (hal : (al as).length ≤ mx mj) (hlo : pd (mx mj) (al as) = lo) (h : Rn g mj 0 lo [] σ Y) : Met l (yN mj) (wsA mj) (rmA mj (sz Y.1 - sz σ) (sl Y.1 - sl σ)) (Pm g D E A σ as) (Qx g D E A Y) (sz Y.1 - sz σ) (sl Y.1 - sl σ) A := by
  obtain ⟨n, hY⟩ := h
  subst hlo
  obtain ⟨t1, t2, t3, t4, t5⟩ := mt_ok mj hmj
  refine Met.ofW (cc := bC mj) (maxL := mx mj) (ret := rT mj) (t3 how) rfl ?_
  intro p' e' s' m' args' below' meth' c' s₁ B hml hv
  obtain ⟨rfl, hP', hK', hA1', hA2'⟩ := hv
  have hts' := atoms_spec (ws := wsA mj) B.pre
  have hown' : s'.vm.findClass (oN (ow mj)) = some m'.cls := by rw [← t2]; exact findClass_of_methodNamed B.named
  have C' : Cx D E p' (headSpec (wsA mj) (rmA mj (sz Y.1 - sz σ) (sl Y.1 - sl σ))).room s' m' (as.map (av g)).toArray meth' c' mj := ⟨B.exec, B.bytes, hml, hown', fun w hw => hts' w (List.mem_cons_of_mem _ hw), hK', B.returns, B.notSynchronized, fun hi => by have := (name_of_methodNamed B.named B.method).1; rw [this]; simpa [isIni] using hi, Nat.le_refl _, Nat.le_refl _⟩
  rw [lg_entry_eq]
  have := sound l g D E _ _ _ _ _ _ _ hY hmj A p' e' (headSpec (wsA mj) (rmA mj (sz Y.1 - sz σ) (sl Y.1 - sl σ))).room s' m' (as.map (av g)).toArray below' meth' c' _ s'.heap [] 0 0 C' (entry_lvr g as (mx mj) hal) hP' va_S.rf hA1' (fun q h => hA2' q (by rw [← hP'.1]; exact h)) (by rw [Nat.zero_add]; exact Nat.le_refl _) (by rw [Nat.zero_add]; exact Nat.le_refl _)
  rw [Nat.zero_add, Nat.zero_add] at this
  exact this
