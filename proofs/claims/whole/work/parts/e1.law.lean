/-! THE LAW: what holds at its start; calls out of it (the words of the walk's end stand as the skeleton has them) -/
def R_law : String := "OneLevelStoreLaw"
def lw_P (b : Addr) (xs : List Int32) (args : Array Value) (s : State) : Prop := args = #[.ref b] ∧ s.IntsAt b xs ∧ xs.length ≤ 2561 ∧ (Jvm.Cond.and given_1 narrow_1).before args s = true
def lw_Q (_ : Array Value) (s : State) (o : Outcome) (t : State) : Prop := o = .returned (some (.int 1)) ∧ Framed s o t [] 600000 7302250
def lw_Z (below : List Frame) (a : Array Value) (s : State) : State → Prop := fun t => ∃ o, t.status = .running ∧ Ended t below o ∧ lw_Q a s o t
/-- the law's own end, with 1 on the stack, nothing written that was there before, its room as the claim has it -/
theorem lw_ret {p : Program} {l : Launch} {e : Env} {s : State} {m : MethodId} {below : List Frame} {meth : Method} {c : Code} {b : Nat} (hx : p.tables.exec = Jvm.exec) (hb : c.code = code) (hr : meth.sig.returnType = ret) (hlocks : meth.locks = false) {pc : Nat} {H : Heap} {ls : Array Slot} (hdg : decode code pc = .ok (.ireturn, 1)) : W p l e room_1 s m #[Value.ref b] below meth c H [] 600000 7302250 (lw_Z below #[Value.ref b] s) (F0 m pc ls [.int 1]) := by
  intro T hT X
  obtain ⟨fs, hret, hrun, hended, hW, hframe⟩ := X.leave (v := some (.int 1)) (hlocks := hlocks) (fun h => by rw [hr] at h; cases h)
  have hmeth' : T.vm.method? m = some meth := X.method'
  refine ⟨T.setFrames fs, ?_, .returned (some (.int 1)), hrun, hended, rfl, ⟨_, rfl⟩, hW, hframe⟩
  jvm_step X.here [X.here.top, hx, hb, hdg, hmeth', hr, ret, narrow_b1]
  (try refine ⟨rfl, ?_⟩); (try refine ⟨rfl, ?_⟩)
  first | (intro acts; rw [hret _ acts rfl rfl rfl]) | rw [hret _ _ rfl rfl rfl]
  exact Steps.refl _
/-- what holds at the law's entry: the machine, the code, the tables' words (any of lw_tbl by 'hts w (by decide +kernel)'), the script of L ints xs at the cell b, what the Statement gives of the start (any of its parts by flat_of_before) -/
def lw_At (p : Program) (s : State) (m : MethodId) (meth : Method) (c : Code) (b L : Nat) (xs : Nat → Int32) : Prop :=
  p.tables.exec = Jvm.exec ∧ c.code = code ∧ meth.sig.returnType = ret ∧ c.maxLocals = 4 ∧ s.vm.findClass R_law = some m.cls ∧ (∀ w ∈ lw_tbl, w.before #[Value.ref b] s = true) ∧ va_X b L xs s s.heap ∧ b < s.heap.size ∧ meth.locks = false ∧ (Jvm.Cond.and given_1 narrow_1).before #[Value.ref b] s = true
theorem ao_ok : ∀ C ∈ [RX2, RX4, RX6, RX3], Cond.arrayOver (.object C) ∈ lw_tbl := by decide +kernel
theorem law_KK {s : State} {args : Array Value} (h : ∀ w ∈ lw_tbl, w.before args s = true) : ∃ (D : va_G) (E : Nat → ClassId), KK D E s := by
  have hG : ∀ w ∈ GT, w.before args s = true := fun w hw => h w (List.mem_filter.mp hw).1
  have h1 : ∀ c, ∃ q : ClassId × (Nat → Nat), c < 12 → u_Kn s (cR c) (cT c) (cF c) q.1 q.2 := fun c => by
    by_cases hc : c < 12
    · obtain ⟨p1, -⟩ := cp_ok c hc
      obtain ⟨cC, iS, hk⟩ := u_known hG (lays_in hc) (hG _ (GT_at p1 rfl))
      exact ⟨(cC, iS), fun _ => hk⟩
    · obtain ⟨p1, -⟩ := cp_ok 0 (by omega)
      obtain ⟨cC, iS, hk⟩ := u_known hG (lays_in (c := 0) (by omega)) (hG _ (GT_at p1 rfl))
      exact ⟨(cC, iS), fun z => absurd z hc⟩
  obtain ⟨f, hf⟩ := Classical.axiomOfChoice h1
  have hao : ∀ C ∈ [RX2, RX4, RX6, RX3], va_AO C s := fun C hC => va_AO.of (h _ (ao_ok C hC))
  have ho : ∀ C, va_AO C s → ∃ cA, ArrOfT s cA (.object C) ∧ va_RA s cA (.object C) := fun C z => by
    obtain ⟨comp, c, k, q1, q2, q3, q4, q5⟩ := Cond.arrayOver_spec z
    exact ⟨c, fun N z => ⟨(fun k h => by cases h), k, q3, comp, q4⟩, k, comp, q3, q4, q1, q5⟩
  have hi : ∃ cA, ArrOfT s cA .int ∧ va_RA s cA .int := by
    obtain ⟨cA, kA, comp, q1, q2, q3⟩ := Cond.arrayClass_spec (hG _ (GT_at arr_ok.1 rfl))
    exact ⟨cA, fun n z => ⟨fun k h => (by cases h), kA, q2, comp, q3⟩, q1⟩
  have hl : ∃ cA, ArrOfT s cA .long ∧ va_RA s cA .long := by
    obtain ⟨cA, kA, comp, q1, q2, q3⟩ := Cond.arrayClass_spec (hG _ (GT_at arr_ok.2 rfl))
    exact ⟨cA, fun n z => ⟨fun k h => (by cases h), kA, q2, comp, q3⟩, q1⟩
  obtain ⟨e0, z0⟩ := hi
  obtain ⟨e1, z1⟩ := hl
  obtain ⟨e2, z2⟩ := ho RX2 (hao _ (by simp))
  obtain ⟨e3, z3⟩ := ho RX4 (hao _ (by simp))
  obtain ⟨e4, z4⟩ := ho RX6 (hao _ (by simp))
  obtain ⟨e5, z5⟩ := ho RX3 (hao _ (by simp))
  refine ⟨(fun c => (f c).1, fun c => (f c).2), fun k => match k with | 0 => e0 | 1 => e1 | 2 => e2 | 3 => e3 | 4 => e4 | _ => e5, ⟨fun c q hq => ?_, fun k q hk => ?_⟩, fun w hw => va_Nw.of (isNst_tab (List.mem_filter.mp hw).2) (h w (List.mem_filter.mp hw).1), hao⟩
  · have hc : c < 12 := (List.getElem?_eq_some_iff.mp hq).1
    rw [vw_at hc] at hq
    cases hq
    exact hf c hc
  · have hk6 : k < 6 := (List.getElem?_eq_some_iff.mp hk).1
    match k, hk6, hk with
    | 0, _, hk => cases hk; exact z0
    | 1, _, hk => cases hk; exact z1
    | 2, _, hk => cases hk; exact z2
    | 3, _, hk => cases hk; exact z3
    | 4, _, hk => cases hk; exact z4
    | 5, _, hk => cases hk; exact z5
section Law2
variable {p : Program} {l : Launch} {e : Env} {s : State} {m : MethodId} {below : List Frame} {meth : Method} {cd : Code} {H H0 : Heap} {locs : List Loc} {cells slots b : Nat} {Q : State → Prop} {pc : Nat} {ls : Array Slot} {g : Nat → Nat → Nat} {D : va_G} {E : Nat → ClassId} {A0 A1 : Nat → Prop} {σ : Sg} {X : Sg × Option Av}
/-- what is kept, is kept: another size of the heap, the same cells -/
theorem HP_keep {H1 : Heap} (hP : HP g D E σ H) (hk : ∀ c i, i < cn σ c → H1[g c i]? = H[g c i]?) : HP g D E (szF σ H1.size) H1 := by
  refine ⟨rfl, fun c i hi => ?_, hP.2.2⟩
  have h1 := hP.2.1 c i hi
  have h2 := hk c i hi
  rcases h1 with ⟨a1, a2⟩ | ⟨a1, a2, a3⟩
  · exact Or.inl ⟨a1, a2.kept h2⟩
  · exact Or.inr ⟨a1, a2, h2.trans a3⟩
theorem HP_sz (hP : HP g D E σ H) : szF σ H.size = σ := by
  obtain ⟨h1, -⟩ := hP
  obtain ⟨a1, a2, a3, a4, a5, a6, a7⟩ := σ
  have : H.size = a6 := h1
  rw [this]
  rfl
/-- the law's own frame -/
def LX (p : Program) (s : State) (m : MethodId) (cd : Code) (b : Nat) (D : va_G) (E : Nat → ClassId) : Prop := p.tables.exec = Jvm.exec ∧ cd.code = code ∧ cd.maxLocals = 4 ∧ s.vm.findClass R_law = some m.cls ∧ (∀ w ∈ GT, w.before #[Value.ref b] s = true) ∧ KK D E s
theorem L_ret {R : Room} {args : Array Value} {mc ms : Nat} {st0 rest : List Value} {a : Array Value} (hr : va_Run p l e R s m args below meth cd H locs cells slots mc ms (F0 m pc ls st0) rest (Qx g D E A1 X a) A1) (hS : va_S A0 H0 H locs) (hA : ∀ q, A1 q → A0 q)
    (kk : ∀ (H1 : Heap) (locs1 : List Loc), HP g D E X.1 H1 → va_S A0 H0 H1 locs1 → H.size ≤ H1.size → (∀ q, q < H.size → ¬ A1 q → H1[q]? = H[q]?) → W p l e R s m args below meth cd H1 locs1 (cells + mc) (slots + ms) Q (F0 m (pc + 3) ls ((X.2.map (av g)).toList ++ rest))) : W p l e R s m args below meth cd H locs cells slots Q (F0 m pc ls st0) := by
  intro T hT Y
  obtain ⟨v, st₀, t, T', L, h0, X', hL, e1, e2, ⟨hv, hp, hz, hk⟩, st⟩ := hr T hT Y
  rw [h0] at hz hk
  have hv' : v = X.2.map (av g) := Outcome.returned.inj hv
  obtain ⟨t2, a1, b1⟩ := kk T'.heap (locs ++ L) (by rw [e1]; exact hp)
    ⟨Nat.le_trans hS.1 (by rw [e1]; exact hz), fun q h1 h2 => by rw [e1, hk q (Nat.lt_of_lt_of_le h1 hS.1) (fun z => h2 (hA q z))]; exact hS.2.1 q h1 h2, fun q hq => by
      rcases List.mem_append.mp hq with h | h
      · exact hS.2.2 q h
      · exact hA _ (hL q h)⟩ (by rw [e1]; exact hz) (fun q h1 h2 => by rw [e1]; exact hk q h1 h2) T' rfl X'
  refine ⟨t2, st t2 ?_, b1⟩
  rw [hv']
  exact a1
/-- a method of one of the two objects, out of the law -/
theorem L_call {mj idx n c0 : Nat} {as : List Av} {rest st0 : List Value} {lo : Lo} (C : LX p s m cd b D E) (hmj : mj < 184) (hlk : lw_tbl[n]? = some (.methodLink R_law idx (yN mj))) (hk : kOK mj 0 = true) (hc0 : ow mj = c0) (h13 : c0 < 12) (hd : decode code pc = .ok (.invokevirtual idx, 3)) (hls : ls.size = 4) (hroom : fN mj + 1 ≤ 10 ∧ 8 + (mx mj + 11) + lW mj ≤ 360) (hn : as.length = nP mj - 1) (hcw : (rest.map fun v => v.category).sum ≤ 8) (hal : (al (.inr (.inr (some (c0, 0))) :: as)).length ≤ mx mj) (hlo : pd (mx mj) (al (.inr (.inr (some (c0, 0))) :: as)) = lo) (hst : st0 = (as.map (av g)).reverse ++ .ref (g c0 0) :: rest)
    (hR : Rn g mj 0 lo [] σ X) (hP : HP g D E σ H) (h0 : 0 < cn σ c0) (hA1 : ∀ c i, i < cn σ c → A1 (g c i)) (hA2 : ∀ q, H.size ≤ q → A1 q) (hS : va_S A0 H0 H locs) (hA : ∀ q, A1 q → A0 q) (hf : cells + (sz X.1 - sz σ) ≤ 600000 ∧ slots + (sl X.1 - sl σ) ≤ 7302250)
    (kk : ∀ (H1 : Heap) (locs1 : List Loc), HP g D E X.1 H1 → va_S A0 H0 H1 locs1 → H.size ≤ H1.size → (∀ q, q < H.size → ¬ A1 q → H1[q]? = H[q]?) → W p l e room_1 s m #[Value.ref b] below meth cd H1 locs1 (cells + (sz X.1 - sz σ)) (slots + (sl X.1 - sl σ)) Q (F0 m (pc + 3) ls ((X.2.map (av g)).toList ++ rest))) : W p l e room_1 s m #[Value.ref b] below meth cd H locs cells slots Q (F0 m pc ls st0) := by
  obtain ⟨hx, hb, hml, hown, hts, hK⟩ := C
  have h13' : ow mj ≠ 13 := by omega
  have hM := met_of l g D E A1 hmj h13' hal hlo hR
  obtain ⟨t1, t2, t3, t4, t5⟩ := mt_ok mj hmj
  unfold kOK at hk
  simp only [if_pos, decide_eq_true_eq] at hk
  obtain ⟨k1, k2, k3, k4, k5⟩ := hk
  have hpre : ∀ U : State, U.heap = H → s.WarmedH U.vm → Pm g D E A1 σ (.inr (.inr (some (c0, 0))) :: as) ((.inr (.inr (some (c0, 0))) :: as).map (av g)).toArray U := fun U hU hWm => ⟨rfl, by rw [hU]; exact hP, KK.moved hWm hK, hA1, fun q hq => hA2 q (by rw [hP.1]; exact hq)⟩
  have hcB : ∃ cellB : Cell, H[g c0 0]? = some cellB ∧ cellB.vm.isStatics = false ∧ s.vm.findClass (yN mj).cls = some cellB.cls := by
    obtain ⟨cell, g1, g2, g3, -⟩ := cel_obj hP h0 h13
    refine ⟨cell, g1, by rw [g3]; rfl, ?_⟩
    rw [t2, hc0, (cp_ok _ h13).2.2.1, g2]
    exact (hK.1.1 _ _ (vw_at h13)).2.1
  have hR : (rmA mj (sz X.1 - sz σ) (sl X.1 - sl σ)).frames + 1 ≤ room_1.frames ∧ 8 + (mx mj + 11) + (rmA mj (sz X.1 - sz σ) (sl X.1 - sl σ)).locals ≤ room_1.locals := hroom
  refine L_ret (va_runV (As := as.map (av g)) (b := g c0 0) (rest := rest) ⟨hx, hb, hml, hown, hts⟩ hM (cwV (nP mj - 1) hts ?_ rfl rfl rfl ⟨rfl, t4.1, t4.2, k3⟩ hR) ⟨Pm_blind, hcB, fun U hU hWm => hpre U hU hWm⟩ rfl (by rw [List.length_map]; exact hn) hls hst (lv_room hcw) hd hf) hS hA kk
  intro w hw
  unfold wsV at hw
  rcases List.mem_append.mp hw with h | h
  · simp only [List.mem_cons, List.not_mem_nil, or_false] at h
    rcases h with rfl | rfl | rfl | rfl
    · exact goodGT _ (GT_at hlk rfl)
    · exact goodGT _ (GT_at k1 rfl)
    · exact goodGT _ (GT_at k2 rfl)
    · exact goodGT _ (GT_at t1 rfl)
  · exact goodA hmj w h
/-- a constructor, out of the law -/
theorem L_init {mj idx n c0 : Nat} {as : List Av} {rest st0 : List Value} {lo : Lo} (C : LX p s m cd b D E) (hmj : mj < 184) (hlk : lw_tbl[n]? = some (.methodLink R_law idx (yN mj))) (hk : kOK mj 1 = true) (hc0 : ow mj = c0) (h13 : c0 < 12) (hd : decode code pc = .ok (.invokespecial idx, 3)) (hls : ls.size = 4) (hroom : fN mj + 1 ≤ 10 ∧ 8 + (mx mj + 11) + lW mj ≤ 360) (hn : as.length = nP mj - 1) (hcw : (rest.map fun v => v.category).sum ≤ 8) (hal : (al (.inr (.inr (some (c0, 0))) :: as)).length ≤ mx mj) (hlo : pd (mx mj) (al (.inr (.inr (some (c0, 0))) :: as)) = lo) (hst : st0 = (as.map (av g)).reverse ++ .ref (g c0 0) :: rest)
    (hR : Rn g mj 0 lo [] σ X) (hP : HP g D E σ H) (hA1 : ∀ c i, i < cn σ c → A1 (g c i)) (hA2 : ∀ q, H.size ≤ q → A1 q) (hS : va_S A0 H0 H locs) (hA : ∀ q, A1 q → A0 q) (hf : cells + (sz X.1 - sz σ) ≤ 600000 ∧ slots + (sl X.1 - sl σ) ≤ 7302250)
    (kk : ∀ (H1 : Heap) (locs1 : List Loc), HP g D E X.1 H1 → va_S A0 H0 H1 locs1 → H.size ≤ H1.size → (∀ q, q < H.size → ¬ A1 q → H1[q]? = H[q]?) → W p l e room_1 s m #[Value.ref b] below meth cd H1 locs1 (cells + (sz X.1 - sz σ)) (slots + (sl X.1 - sl σ)) Q (F0 m (pc + 3) ls ((X.2.map (av g)).toList ++ rest))) : W p l e room_1 s m #[Value.ref b] below meth cd H locs cells slots Q (F0 m pc ls st0) := by
  obtain ⟨hx, hb, hml, hown, hts, hK⟩ := C
  have h13' : ow mj ≠ 13 := by omega
  have hM := met_of l g D E A1 hmj h13' hal hlo hR
  obtain ⟨t1, t2, t3, t4, t5⟩ := mt_ok mj hmj
  unfold kOK at hk
  rw [if_neg (by omega), if_pos (Or.inl rfl)] at hk
  simp only [decide_eq_true_eq] at hk
  obtain ⟨k1, k2, k3, k4⟩ := hk
  have hy1 : (yN mj).name = "<init>" := by simpa [isIni] using k2
  have hret := t5 k2
  have hini := hts _ (GT_at t1 rfl)
  rw [show wsA mj = .code (yN mj) (bC mj) (mx mj) none :: GT by unfold wsA; rw [hret]] at hM
  have hG : GoodIn GT (.code (yN mj) (bC mj) (mx mj) none :: GT) := by have := goodA hmj; unfold wsA at this; rw [hret] at this; exact this
  have hp : PreS s H (Pm g D E A1 σ (.inr (.inr (some (c0, 0))) :: as)) (.ref (g c0 0) :: as.map (av g)) := ⟨Pm_blind, fun U hU hWm => ⟨rfl, by rw [hU]; exact hP, KK.moved hWm hK, hA1, fun q hq => hA2 q (by rw [hP.1]; exact hq)⟩⟩
  have hR : (rmA mj (sz X.1 - sz σ) (sl X.1 - sl σ)).frames + 1 ≤ room_1.frames ∧ 8 + (mx mj + 11) + (rmA mj (sz X.1 - sz σ) (sl X.1 - sl σ)).locals ≤ room_1.locals := hroom
  exact L_ret (va_runI (b := g c0 0) (As := as.map (av g)) (rest := rest) ⟨hx, hb, hml, hown, hts⟩ hM (cwI (nP mj - 1) hts hG rfl rfl rfl hini (hts _ (GT_at hlk rfl)) (hts _ (GT_at k1 rfl)) hy1 ⟨t4.1, t4.2, k3⟩ hR) hp rfl (by rw [List.length_map]; exact hn) hls hst (lv_room hcw) hd hf) hS hA kk
end Law2
