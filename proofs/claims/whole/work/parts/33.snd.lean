/-! soundness: calls, and the whole -/
/-- what holds of a method's own start -/
def Cx (D : va_G) (E : Nat → ClassId) (p : Program) (R : Room) (s : State) (m : MethodId) (args : Array Value) (meth : Method) (c : Code) (mi : Nat) : Prop :=
  p.tables.exec = Jvm.exec ∧ c.code = bC mi ∧ c.maxLocals = mx mi ∧ s.vm.findClass (oN (ow mi)) = some m.cls ∧ (∀ w ∈ GT, w.before args s = true) ∧ KK D E s ∧ meth.sig.returnType = rT mi ∧ meth.locks = false ∧ (isIni mi = true → meth.name = "<init>") ∧ fN mi ≤ R.frames ∧ lW mi ≤ R.locals
def Pm (g : Nat → Nat → Nat) (D : va_G) (E : Nat → ClassId) (A : Nat → Prop) (σ : Sg) (as : List Av) : Array Value → State → Prop := va_Pc (as.map (av g)) (fun U => HP g D E σ U.heap ∧ KK D E U ∧ (∀ c i, i < cn σ c → A (g c i)) ∧ ∀ q, sz σ ≤ q → A q)
def rmA (mi mc ms : Nat) : Room := { frames := fN mi, cells := mc, slots := ms, locals := lW mi }
theorem Pm_blind {g : Nat → Nat → Nat} {D : va_G} {E : Nat → ClassId} {A : Nat → Prop} {σ : Sg} {as : List Av} : FrameBlind (Pm g D E A σ as) := by
  intro a U f mk h
  obtain ⟨h1, h2, h3, h4⟩ := h
  exact ⟨h1, h2, KK.same (s := U) rfl h3, h4⟩
theorem goodGT : ∀ w ∈ GT, w ∈ GT ∧ ((w.onTables && w.keeps) = true ∨ ∃ ty, w = .arrayClass ty) := fun w h => ⟨h, good_of_word (List.mem_filter.mp h).2⟩
theorem goodA {mi : Nat} (hm : mi < 184) : GoodIn GT (wsA mi) := by
  intro w hw
  rcases List.mem_cons.mp hw with rfl | h
  · exact goodGT _ (GT_in (ckA mi hm) rfl)
  · exact goodGT _ h
theorem map_tk : ∀ {n : Nat} {a st as r : List Av}, tk n a st = some (as, r) → as.length = a.length + n ∧ as.reverse ++ r = a.reverse ++ st
  | 0, a, st, as, r, h => by simp only [tk, Option.some.injEq, Prod.mk.injEq] at h; obtain ⟨rfl, rfl⟩ := h; simp
  | n + 1, a, v :: st, as, r, h => by
    simp only [tk] at h
    obtain ⟨h1, h2⟩ := map_tk h
    refine ⟨by rw [h1]; simp; omega, by rw [h2]; simp⟩
  | n + 1, a, [], as, r, h => by simp [tk] at h
theorem cw_map (g : Nat → Nat → Nat) (st : List Av) : ((st.map (av g)).map (fun v => v.category)).sum = cw st := by
  unfold cw
  rw [List.map_map]
  congr 1
  apply List.map_congr_left
  intro v _
  simp [av_cat]
theorem rcv_inv {mj : Nat} {as : List Av} {σ : Sg} (h : rcv mj as σ = true) : ∃ i as', as = .inr (.inr (some (ow mj, i))) :: as' ∧ i < cn σ (ow mj) := by
  unfold rcv at h
  split at h
  · rename_i q as'
    simp only [decide_eq_true_eq] at h
    obtain ⟨qc, qi⟩ := q
    obtain ⟨rfl, h2⟩ := h
    exact ⟨qi, as', rfl, h2⟩
  · cases h
theorem rc1_inv {as : List Av} (h : rc1 as = true) : ∃ q as', as = .inr (.inr (some q)) :: as' := by
  unfold rc1 at h
  split at h
  · rename_i q as'
    exact ⟨q, as', rfl⟩
  · cases h
theorem c0_inv {mi x : Nat} {ks : List Nat} {st st' : List Av} (h : c0 mi x ks st = some st') : ∃ q r, mL.lookup (ow mi, x) = some q ∧ 1 ≤ fN mi ∧ cw r + 13 ≤ lW mi ∧ ((q.2.1 = 5 ∧ 5 ∈ ks ∧ st' = r ∧ ∃ z, st = .inr (.inr (some z)) :: r) ∨ (∃ a b, st = .inl b :: .inl a :: r ∧ ((q.2.1 = 7 ∧ 7 ∈ ks ∧ st' = .inl (if a < b then b else a) :: r) ∨ (q.2.1 = 8 ∧ 8 ∈ ks ∧ st' = .inl (if b < a then b else a) :: r)))) := by
  unfold c0 at h
  obtain ⟨q, hq, h⟩ := Option.bind_eq_some_iff.mp h
  unfold c0k at h
  split at h
  · split at h
    · rename_i h1
      simp only [Option.some.injEq] at h
      subst h
      exact ⟨q, _, hq, h1.2.1, h1.2.2, Or.inl ⟨by assumption, h1.1, rfl, _, rfl⟩⟩
    · cases h
  · split at h
    · rename_i h1
      simp only [Option.some.injEq] at h
      subst h
      exact ⟨q, _, hq, h1.2.1, h1.2.2, Or.inr ⟨_, _, rfl, Or.inl ⟨by assumption, h1.1, rfl⟩⟩⟩
    · cases h
  · split at h
    · rename_i h1
      simp only [Option.some.injEq] at h
      subst h
      exact ⟨q, _, hq, h1.2.1, h1.2.2, Or.inr ⟨_, _, rfl, Or.inr ⟨by assumption, h1.1, rfl⟩⟩⟩
    · cases h
  · cases h
theorem mLp_n {e : (Nat × Nat) × (Nat × Nat × Nat)} (h : ¬ e.2.2.1 = 5) (h' : ¬ (e.2.2.1 = 3 ∨ e.2.2.1 = 4)) : mLp e = .methodLink (oN e.1.1) e.1.2 (yN e.2.1) := by
  unfold mLp; rw [if_neg h, if_neg h']
theorem mLp_3 {e : (Nat × Nat) × (Nat × Nat × Nat)} (h : e.2.2.1 = 3 ∨ e.2.2.1 = 4) : mLp e = .methodLinkNest (oN e.1.1) e.1.2 (yN e.2.1) "OneLevelStore" := by
  unfold mLp; rw [if_neg (by omega), if_pos h]
theorem mLp_5 {e : (Nat × Nat) × (Nat × Nat × Nat)} (h : e.2.2.1 = 5) : mLp e = .methodLink (oN e.1.1) e.1.2 objectInit := by
  unfold mLp; rw [if_pos h]
section Snd4
variable {p : Program} {l : Launch} {e : Env} {R : Room} {s : State} {m : MethodId} {args : Array Value} {below : List Frame} {meth : Method} {cd : Code} {H : Heap} {locs : List Loc} {cells slots : Nat} {Q : State → Prop} {pc : Nat} {ls : Array Slot} {g : Nat → Nat → Nat} {D : va_G} {E : Nat → ClassId} {A : Nat → Prop} {H0 : Heap} {σ : Sg} {X : Sg × Option Av}
theorem S_ret1 {mc ms : Nat} {st0 : List Value} {rest : List Av} {a : Array Value} (hr : va_Run p l e R s m args below meth cd H locs cells slots mc ms (F0 m pc ls st0) (rest.map (av g)) (Qx g D E A X a) A) (hS : va_S A H0 H locs)
    (kk : ∀ (H1 : Heap) (locs1 : List Loc), HP g D E X.1 H1 → va_S A H0 H1 locs1 → W p l e R s m args below meth cd H1 locs1 (cells + mc) (slots + ms) Q (F0 m (pc + 3) ls ((X.2.toList ++ rest).map (av g)))) : W p l e R s m args below meth cd H locs cells slots Q (F0 m pc ls st0) := by
  intro T hT Y
  obtain ⟨v, st₀, t, T', L, h0, X', hL, e1, e2, ⟨hv, hp, hz, hk⟩, st⟩ := hr T hT Y
  rw [h0] at hz hk
  have hv' : v = X.2.map (av g) := Outcome.returned.inj hv
  obtain ⟨t2, a1, b1⟩ := kk T'.heap (locs ++ L) (by rw [e1]; exact hp)
    ⟨Nat.le_trans hS.1 (by rw [e1]; exact hz), fun q h1 h2 => by rw [e1, hk q (Nat.lt_of_lt_of_le h1 hS.1) h2]; exact hS.2.1 q h1 h2, fun q hq => by
      rcases List.mem_append.mp hq with h | h
      · exact hS.2.2 q h
      · exact hL q h⟩ T' rfl X'
  refine ⟨t2, st t2 ?_, b1⟩
  have : v.toList ++ rest.map (av g) = (X.2.toList ++ rest).map (av g) := by
    rw [hv', List.map_append]
    cases X.2 <;> rfl
  rw [this]
  exact a1
theorem S_call {i : Instr} {x mi mj mc ms : Nat} {ks : List Nat} {st as rest : List Av} (hm : mi < 184) (C : Cx D E p R s m args meth cd mi) (hP : HP g D E σ H) (hS : va_S A H0 H locs) (hA1 : ∀ c i, i < cn σ c → A (g c i)) (hA2 : ∀ q, sz σ ≤ q → A q) (hls : ls.size = mx mi) (hi : cI i = some (x, ks)) (hc : c1 mi x ks st σ = some (mj, as, rest)) (hd : decode (bC mi) pc = .ok (i, 3))
    (hM : mj < 184 → ow mj ≠ 13 → Met l (yN mj) (wsA mj) (rmA mj mc ms) (Pm g D E A σ as) (Qx g D E A X) mc ms A) (hf : cells + mc ≤ R.cells ∧ slots + ms ≤ R.slots)
    (kk : ∀ (H1 : Heap) (locs1 : List Loc), HP g D E X.1 H1 → va_S A H0 H1 locs1 → W p l e R s m args below meth cd H1 locs1 (cells + mc) (slots + ms) Q (F0 m (pc + 3) ls ((X.2.toList ++ rest).map (av g)))) : W p l e R s m args below meth cd H locs cells slots Q (F0 m pc ls (st.map (av g))) := by
  obtain ⟨hx, hb, hml, hown, hts, hK, -, -, -, hfr, hlo⟩ := C
  unfold c1 at hc
  obtain ⟨q, hq, hc⟩ := Option.bind_eq_some_iff.mp hc
  split at hc
  case isFalse => cases hc
  rename_i hq1
  obtain ⟨q1, q2, q3⟩ := hq1
  obtain ⟨a, ha, hc⟩ := Option.bind_eq_some_iff.mp hc
  split at hc
  case isFalse => cases hc
  rename_i h2
  simp only [Option.some.injEq, Prod.mk.injEq] at hc
  obtain ⟨rfl, rfl, rfl⟩ := hc
  obtain ⟨mj, k, j⟩ := q
  obtain ⟨as, rest⟩ := a
  dsimp only at *
  have hmem := look_mem hq
  obtain ⟨l1, -, -, l4⟩ := mL_ok _ hmem
  have hk := mk_ok _ hmem q2
  dsimp only at l1 l4 hk
  have hM := hM q3 (l4 q2)
  obtain ⟨t1, t2, t3, t4, t5⟩ := mt_ok mj q3
  simp only [c2, Bool.and_eq_true, decide_eq_true_eq] at h2
  obtain ⟨⟨⟨⟨w1, w2⟩, w3⟩, w4⟩, w5⟩ := h2
  obtain ⟨n1, n2⟩ := map_tk ha
  simp only [List.length_nil, Nat.zero_add, List.reverse_nil, List.nil_append] at n1 n2
  have hst : st.map (av g) = (as.map (av g)).reverse ++ rest.map (av g) := by rw [← n2, List.map_append, List.map_reverse]
  have hW : 2 * (F0 m pc ls (st.map (av g))).monitorRoom + ((rest.map (av g)).map fun v => v.category).sum ≤ 8 := lv_room (by rw [cw_map]; exact w1)
  have hR : (rmA mj mc ms).frames + 1 ≤ R.frames ∧ 8 + (mx mj + 11) + (rmA mj mc ms).locals ≤ R.locals := ⟨Nat.le_trans w2 hfr, Nat.le_trans w3 hlo⟩
  have hpre : ∀ U : State, U.heap = H → s.WarmedH U.vm → Pm g D E A σ as (as.map (av g)).toArray U := fun U hU hWm => ⟨rfl, by rw [hU]; exact hP, KK.moved hWm hK, hA1, hA2⟩
  have hini := hts _ (GT_at t1 rfl)
  have hfix : CallFix p m cd (bC mi) (mx mi) s args GT (oN (ow mi)) := ⟨hx, hb, hml, hown, hts⟩
  unfold cI at hi
  split at hi <;> simp only [Option.some.injEq, Prod.mk.injEq, reduceCtorEq] at hi
  · -- virtual
    obtain ⟨rfl, rfl⟩ := hi
    have hk0 : k = 0 := by simpa using q1
    subst hk0
    simp only [if_pos] at w5 hk
    unfold kOK at hk
    simp only [if_pos, decide_eq_true_eq] at hk
    obtain ⟨k1, k2, k3, k4, k5⟩ := hk
    rw [mLp_n (by simp) (by simp)] at l1
    obtain ⟨qi, as', rfl, v2⟩ := rcv_inv w5
    have hcB : ∃ cellB : Cell, H[g (ow mj) qi]? = some cellB ∧ cellB.vm.isStatics = false ∧ s.vm.findClass (yN mj).cls = some cellB.cls := by
      obtain ⟨cell, g1, g2, g3, -⟩ := cel_obj hP v2 k5
      refine ⟨cell, g1, by rw [g3]; rfl, ?_⟩
      rw [t2, (cp_ok _ k5).2.2.1, g2]
      exact (hK.1.1 _ _ (vw_at k5)).2.1
    refine S_ret1 (va_runV (As := as'.map (av g)) (b := g (ow mj) qi) hfix hM (cwV (nP mj - 1) hts ?_ rfl rfl rfl ⟨rfl, t4.1, t4.2, k3⟩ hR) ⟨Pm_blind, hcB, fun U hU hWm => hpre U hU hWm⟩ rfl (by simp at n1 ⊢; omega) hls ?_ hW hd hf) hS kk
    · intro w hw
      unfold wsV at hw
      rcases List.mem_append.mp hw with h | h
      · simp only [List.mem_cons, List.not_mem_nil, or_false] at h
        rcases h with rfl | rfl | rfl | rfl
        · exact goodGT _ (GT_at l1 rfl)
        · exact goodGT _ (GT_at k1 rfl)
        · exact goodGT _ (GT_at k2 rfl)
        · exact goodGT _ (GT_at t1 rfl)
      · exact goodA q3 w h
    · show st.map (av g) = _
      rw [hst]
      simp [av]
  · -- special
    obtain ⟨rfl, rfl⟩ := hi
    have hk13 : k = 1 ∨ k = 3 := by simp at q1; omega
    have hk0 : ¬ k = 0 := by omega
    rw [if_neg hk0, if_pos hk13] at w5
    unfold kOK at hk
    rw [if_neg hk0, if_pos hk13] at hk
    simp only [decide_eq_true_eq] at hk
    obtain ⟨k1, k2, k3, k4⟩ := hk
    obtain ⟨q, as', rfl⟩ := rc1_inv w5
    have hy1 : (yN mj).name = "<init>" := by simpa [isIni] using k2
    have hret := t5 k2
    rw [show wsA mj = .code (yN mj) (bC mj) (mx mj) none :: GT by unfold wsA; rw [hret]] at hM
    have hG : GoodIn GT (.code (yN mj) (bC mj) (mx mj) none :: GT) := by have := goodA q3; unfold wsA at this; rw [hret] at this; exact this
    have hp : PreS s H (Pm g D E A σ (.inr (.inr (some q)) :: as')) (.ref (g q.1 q.2) :: as'.map (av g)) := ⟨Pm_blind, fun U hU hWm => hpre U hU hWm⟩
    have hst' : (F0 m pc ls (st.map (av g))).stack = (as'.map (av g)).reverse ++ .ref (g q.1 q.2) :: rest.map (av g) := by
      show st.map (av g) = _
      rw [hst]
      simp [av]
    have hn : (as'.map (av g)).length = nP mj - 1 := by simp at n1 ⊢; omega
    rcases hk13 with rfl | rfl
    · rw [mLp_n (by simp) (by simp)] at l1
      exact S_ret1 (va_runI hfix hM (cwI (nP mj - 1) hts hG rfl rfl rfl hini (hts _ (GT_at l1 rfl)) (hts _ (GT_at k1 rfl)) hy1 ⟨t4.1, t4.2, k3⟩ hR) hp rfl hn hls hst' hW hd hf) hS kk
    · rw [mLp_3 (by simp)] at l1
      exact S_ret1 (va_runIN hfix hM ⟨va_cnB (nP mj - 1) hts hG rfl rfl rfl (hK.2.1 _ (List.mem_filter.mpr ⟨List.mem_of_getElem? l1, rfl⟩)) hini ⟨t4.1, t4.2, k3⟩ hR, hy1, hts _ (GT_at k1 rfl)⟩ hp rfl hn hls hst' hW hd hf) hS kk
  · -- static
    obtain ⟨rfl, rfl⟩ := hi
    have hk24 : k = 2 ∨ k = 4 := by simp at q1; omega
    have hk0 : ¬ k = 0 := by omega
    have hk1 : ¬ (k = 1 ∨ k = 3) := by omega
    unfold kOK at hk
    rw [if_neg hk0, if_neg hk1] at hk
    simp only [decide_eq_true_eq] at hk
    obtain ⟨k1, k3⟩ := hk
    have hp : PreS s H (Pm g D E A σ as) (as.map (av g)) := ⟨Pm_blind, fun U hU hWm => hpre U hU hWm⟩
    have hn : (as.map (av g)).length = nP mj := by simp; exact n1
    rcases hk24 with rfl | rfl
    · rw [mLp_n (by simp) (by simp)] at l1
      exact S_ret1 (va_runS hfix hM ⟨callB_of (nP mj) hts (goodA q3) rfl rfl rfl hini (hts _ (GT_at l1 rfl)) ⟨t4.1, t4.2, k3⟩ hR, hts _ (GT_at k1 rfl)⟩ hp rfl hn hls hst hW hd hf) hS kk
    · rw [mLp_3 (by simp)] at l1
      exact S_ret1 (va_runSN hfix hM ⟨va_cnB (nP mj) hts (goodA q3) rfl rfl rfl (hK.2.1 _ (List.mem_filter.mpr ⟨List.mem_of_getElem? l1, rfl⟩)) hini ⟨t4.1, t4.2, k3⟩ hR, hts _ (GT_at k1 rfl), trivial⟩ hp rfl hn hls hst hW hd hf) hS kk
theorem S_c0 {i : Instr} {x mi : Nat} {ks : List Nat} {st st' : List Av} (C : Cx D E p R s m args meth cd mi) (hls : ls.size = mx mi) (hi : cI i = some (x, ks)) (h : c0 mi x ks st = some st') (hd : decode (bC mi) pc = .ok (i, 3)) (hcl : cells ≤ R.cells ∧ slots ≤ R.slots) (kk : W p l e R s m args below meth cd H locs cells slots Q (F0 m (pc + 3) ls (st'.map (av g)))) : W p l e R s m args below meth cd H locs cells slots Q (F0 m pc ls (st.map (av g))) := by
  obtain ⟨hx, hb, hml, hown, hts, hK, -, -, -, hfr, hlo⟩ := C
  obtain ⟨q, r, hq, f1, f2, h⟩ := c0_inv h
  have hmem := look_mem hq
  obtain ⟨l1, l2, l3, -⟩ := mL_ok _ hmem
  dsimp only at l1 l2 l3
  have hcw : ((r.map (av g)).map fun v => v.category).sum + 13 ≤ R.locals := by rw [cw_map]; exact Nat.le_trans f2 hlo
  rcases h with ⟨h5, hk, rfl, z, rfl⟩ | ⟨a, b, rfl, ⟨h7, hk, rfl⟩ | ⟨h8, hk, rfl⟩⟩
  · rw [mLp_5 h5] at l1
    unfold cI at hi
    split at hi <;> simp only [Option.some.injEq, Prod.mk.injEq, reduceCtorEq] at hi <;> obtain ⟨rfl, rfl⟩ := hi
    · simp at hk
    · exact W.objInit hx hb hown (hts _ (GT_at l1 rfl)) (hts _ (GT_at obj_ok.1 rfl)) (hts _ (GT_in obj_ok.2 rfl)) rfl (by rw [hml]; exact hls) rfl hd (Nat.le_trans f1 hfr) (by show 2 * 0 + _ + 12 ≤ _; omega) kk
    · simp at hk
  · rw [mLp_n (by dsimp only; omega) (by dsimp only; omega)] at l1
    dsimp only at l1
    rw [l2 h7] at l1
    unfold cI at hi
    split at hi <;> simp only [Option.some.injEq, Prod.mk.injEq, reduceCtorEq] at hi <;> obtain ⟨rfl, rfl⟩ := hi
    · simp at hk
    · simp at hk
    · exact va_mmax hx hb (by rw [hml]; exact hls.symm) hown (hts _ (GT_at l1 rfl)) (hts _ (GT_at mth_ok.1 rfl)) (hts _ (GT_at mth_ok.2.2.1 rfl)) (hts _ (GT_in mth_ok.2.2.2.1 rfl)) (Nat.le_trans f1 hfr) hcw hcl.1 hcl.2 hd kk
  · rw [mLp_n (by dsimp only; omega) (by dsimp only; omega)] at l1
    dsimp only at l1
    rw [l3 h8] at l1
    unfold cI at hi
    split at hi <;> simp only [Option.some.injEq, Prod.mk.injEq, reduceCtorEq] at hi <;> obtain ⟨rfl, rfl⟩ := hi
    · simp at hk
    · simp at hk
    · exact va_mmin hx hb (by rw [hml]; exact hls.symm) hown (hts _ (GT_at l1 rfl)) (hts _ (GT_at mth_ok.2.1 rfl)) (hts _ (GT_at mth_ok.2.2.1 rfl)) (hts _ (GT_in mth_ok.2.2.2.2 rfl)) (Nat.le_trans f1 hfr) hcw hcl.1 hcl.2 hd kk
end Snd4
