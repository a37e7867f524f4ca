/-! the law: its script, its two objects, a call of both -/
def wsCell : List Cond := [.code yL_cell cL_cell 2 (some .int)]
def rmCell : Room := { frames := 0, cells := 0, slots := 0, locals := 0 }
/-- the script's first int -/
def fst0 (L : Nat) (xs : Nat → Int32) : Int32 := if L = 0 then 0 else xs 0
theorem c_cell (l : Launch) (b L : Nat) (xs : Nat → Int32) (hL : L ≤ 2561) (Hh : Heap) : Met l yL_cell wsCell rmCell (va_Pc [.ref b, .int 0] (fun U => U.heap = Hh ∧ va_X b L xs U U.heap ∧ b < U.heap.size)) (va_Qi (fun (r : Int32) (_ : Unit) => r = fst0 L xs) (fun _ t => t.heap = Hh) (fun _ => False)) 0 0 (fun _ => False) := by
  refine Met.ofW (cc := cL_cell) (maxL := 2) (ret := some .int) (by decide) rfl ?_
  intro p e s m args below meth c s₁ B hml hv
  obtain ⟨rfl, rfl, hX, hbl⟩ := hv
  have hx := B.exec
  have hb := B.bytes
  have hr := B.returns
  have hlocks := B.notSynchronized
  have hS : va_S (fun _ => False) s.heap s.heap [] := va_S.rf
  have hl := lv_entry ([.ref b, .int 0]) (n := 2) (Nat.le_of_ble_eq_true rfl)
  rw [lg_entry_eq]
  generalize (lg_sl ([.ref b, .int 0]) ++ List.replicate (2 - (lg_sl ([.ref b, .int 0])).length) Slot.unset).toArray = ls at hl ⊢
  have hl : lv_has ls 2 [(0, .ref b), (1, .int 0)] := hl
  refine lv_iload_n hx hb dc0 rfl (lv_at hl 1 rfl) ?_
  refine lv_aload_n hx hb dc1 rfl (lv_at hl 0 rfl) ?_
  refine va_slen hx hb hX hbl (fun z => z) hS dc2 ?_
  refine lv_icmp_ge (tgt := 12) hx hb dc3 (by decide) (fun q => ?_) (fun q => ?_)
  · have h0 : L = 0 := Classical.byContradiction (fun z => nI_ge (a := 0) (b := L) (by omega) (by omega) q)
    refine lv_iconst (v := 0) hx hb dc12 (by decide) ?_
    exact W.iret hx hb hr (fun t ht hW => ⟨⟨0, (), rfl, by unfold fst0; rw [if_pos h0], ht⟩, hS.F ht⟩) hS.2.2 dc13
  · have h0 : ¬ L = 0 := fun z => q (by rw [z]; decide)
    refine lv_aload_n hx hb dc6 rfl (lv_at hl 0 rfl) ?_
    refine lv_iload_n hx hb dc7 rfl (lv_at hl 1 rfl) ?_
    refine va_sld hx hb hX hbl (fun z => z) hS (i := 0) (vp_in_nI (n := 0) (N := L) (by omega) (by omega)) dc8 ?_
    refine lv_goto (tgt := 13) hx hb dc9 (by decide) ?_
    exact W.iret hx hb hr (fun t ht hW => ⟨⟨_, (), rfl, by unfold fst0; rw [if_neg h0]; rfl, ht⟩, hS.F ht⟩) hS.2.2 dc13
section Law4
variable {p : Program} {l : Launch} {e : Env} {s : State} {m : MethodId} {below : List Frame} {meth : Method} {cd : Code} {H H0 : Heap} {locs : List Loc} {cells slots b L : Nat} {xs : Nat → Int32} {Q : State → Prop} {pc : Nat} {ls : Array Slot} {g : Nat → Nat → Nat} {D : va_G} {E : Nat → ClassId} {A0 A1 : Nat → Prop} {σ τ : Sg} {X : Sg × Option Av}
theorem L_cell {rest : List Value} (C : LX p s m cd b D E) (hX : va_X b L xs s s.heap) (hbl : b < s.heap.size) (hL : L ≤ 2561) (hS : va_S (fun q => s.heap.size ≤ q) s.heap H locs) (hcw : (rest.map fun v => v.category).sum ≤ 8) (hd : decode code pc = .ok (.invokestatic 9, 3)) (hls : ls.size = 4) (hf : cells ≤ 600000 ∧ slots ≤ 7302250)
    (kk : ∀ (locs1 : List Loc), va_S (fun q => s.heap.size ≤ q) s.heap H locs1 → W p l e room_1 s m #[Value.ref b] below meth cd H locs1 cells slots Q (F0 m (pc + 3) ls (.int (fst0 L xs) :: rest))) : W p l e room_1 s m #[Value.ref b] below meth cd H locs cells slots Q (F0 m pc ls (.int 0 :: .ref b :: rest)) := by
  obtain ⟨hx, hb, hml, hown, hts, hK⟩ := C
  have hX' : va_X b L xs s H := hX.kept (hS.2.1 b hbl (Nat.not_le.mpr hbl))
  have hG : GoodIn GT wsCell := by
    intro w hw
    unfold wsCell at hw
    simp only [List.mem_cons, List.not_mem_nil, or_false] at hw
    subst hw
    exact goodGT _ (GT_in wd_cellc rfl)
  refine va_calli (A0 := fun q => s.heap.size ≤ q) (va_runS (As := [.ref b, .int 0]) (rest := rest) ⟨hx, hb, hml, hown, hts⟩ (c_cell l b L xs hL H) ⟨callB_of 2 hts hG rfl rfl rfl (hts _ (GT_at wd_cell.2.2 rfl)) (hts _ (GT_at wd_cell.1 rfl)) (by decide +kernel) (by decide), hts _ (GT_at wd_cell.2.1 rfl)⟩ ⟨fun a U f mk q => by obtain ⟨q0, q1, q2, q3⟩ := q; exact ⟨q0, q1, va_X.moved (u := U) (U := U.calling f mk a) (Vm.Alike.refl U.vm) q2, q3⟩, fun U hU hW => ⟨rfl, hU, by rw [hU]; exact va_X.moved hW.alike hX', by rw [hU]; exact Nat.lt_of_lt_of_le hbl hS.1⟩⟩ rfl rfl hls rfl (lv_room hcw) hd hf) hS (fun q _ z => z.elim) (fun q z => z.elim) (fun r u t H1 locs1 ht hvm hp hB hz hk hS1 => ?_)
  have e1 : H1 = H := ht.symm.trans hB
  subst e1
  rw [hp]
  exact kk locs1 hS1
theorem L_new {x c n : Nat} {rest : List Value} (C : LX p s m cd b D E) (h1 : c < 12) (h2 : lw_tbl[n]? = some (.classLink R_law x (cR c))) (hP : HP g D E σ H) (hS0 : va_S A0 H0 H locs) (hg : sz σ = g c (cn σ c)) (hcells : cells + 1 ≤ 600000) (hslots : slots + ((KD[c]?).getD []).length ≤ 7302250) (hd : decode code pc = .ok (.new x, 3)) (kk : ∀ (H1 : Heap), HP g D E (nw σ c ((KD[c]?).getD []).length) H1 → va_S A0 H0 H1 locs → (∀ q, q < H.size → H1[q]? = H[q]?) → H1.size = H.size + 1 → W p l e room_1 s m #[Value.ref b] below meth cd H1 locs (cells + 1) (slots + ((KD[c]?).getD []).length) Q (F0 m (pc + 3) ls (.ref (g c (cn σ c)) :: rest))) : W p l e room_1 s m #[Value.ref b] below meth cd H locs cells slots Q (F0 m pc ls rest) := by
  obtain ⟨hx, hb, hml, hown, hts, hK⟩ := C
  obtain ⟨p1, p2, p3, p4, -⟩ := cp_ok c h1
  rw [← p4] at hslots kk
  have hKn := hK.1.1 c _ (vw_at h1)
  refine W.newcK hx hb hown (hts _ (GT_at h2 rfl)) (hts _ (GT_at p1 rfl)) (hts _ (GT_at p2 rfl)) rfl hd hcells hslots hKn.2.1 rfl fun H1 kC hkC e1 z1 o1 => ?_
  have hh : H.size = g c (cn σ c) := by rw [hP.1, hg]
  have := kk H1 (HP_new hP hg z1 o1 (Or.inl ⟨h1, ?_⟩)) ⟨Nat.le_trans hS0.1 (by omega), fun q a b => (o1 q (Nat.lt_of_lt_of_le a hS0.1)).trans (hS0.2.1 q a b), hS0.2.2⟩ o1 z1
  · rw [← hh] at this; exact this
  · rw [← hh]
    exact (u_born (tyF c) hts (lays_in h1) hKn hkC e1 (ty_ok c h1)).to (fun k hk => (fv_nw (kd_ok c h1 k hk)).symm)
/-- an int of the script -/
theorem la_arg {rest : List Value} {a1 a2 i j : Nat} {jz : Int} (C : LX p s m cd b D E) (hX : va_X b L xs s s.heap) (hbl : b < s.heap.size) (hS : va_S (fun q => s.heap.size ≤ q) s.heap H locs) (hl : lv_has ls 4 [(0, .ref b), (1, .ref a1), (2, .ref a2), (3, .int (nI i))]) (hi : i + 5 ≤ L) (hL : L ≤ 2561) (hj : j < 5) (hjz : Int32.ofInt jz = nI j) (d0 : decode code pc = .ok (.aload_n 0, 1)) (d1 : decode code (pc + 1) = .ok (.iload_n 3, 1)) (d2 : decode code (pc + 2) = .ok (.iconst jz, 1)) (d3 : decode code (pc + 3) = .ok (.iadd, 1)) (d4 : decode code (pc + 4) = .ok (.iaload, 1))
    (kk : W p l e room_1 s m #[Value.ref b] below meth cd H locs cells slots Q (F0 m (pc + 5) ls (.int (xs (i + j)) :: rest))) : W p l e room_1 s m #[Value.ref b] below meth cd H locs cells slots Q (F0 m pc ls rest) := by
  obtain ⟨hx, hb, hml, hown, hts, hK⟩ := C
  refine lv_aload_n hx hb d0 rfl (lv_at hl 0 rfl) ?_
  refine lv_iload_n hx hb d1 rfl (lv_at hl 3 rfl) ?_
  refine lv_iconst hx hb d2 hjz ?_
  refine lv_iadd hx hb d3 ?_
  rw [nI_add]
  refine va_sld hx hb hX hbl (Nat.not_le.mpr hbl) hS (i := nI (i + j)) (vp_in_nI (by omega) (by omega)) d4 ?_
  rw [nI_clamp (by omega)]
  exact kk
end Law4
/-- where the class's cells lie, and the reference's -/
def RC (s0 nf q : Nat) : Prop := s0 ≤ q ∧ ¬ (s0 + 170 + nf ≤ q ∧ q < s0 + 205 + nf)
def RR (s0 nf q : Nat) : Prop := s0 + 170 + nf ≤ q ∧ q < s0 + 205 + nf
/-- between two calls of the law, k calls done -/
def LI (s0 nf : Nat) (D : va_G) (E : Nat → ClassId) (σ τ : Sg) (H : Heap) (cells slots k : Nat) : Prop :=
  (HP (gC s0 nf) D E σ H ∧ HP (gC s0 nf) D E τ H) ∧ ((∀ c i, i < cn σ c → RC s0 nf (gC s0 nf c i)) ∧ ∀ c i, i < cn τ c → RR s0 nf (gC s0 nf c i)) ∧ (∃ B n Q, Rl (gC s0 nf) σ τ nf B Q ∧ gI σ 10 8 0 = nI n ∧ gI τ 11 47 0 = nI n ∧ B ≤ 4000 * k ∧ n ≤ 2000 * k) ∧ s0 + cells = H.size ∧ slots + 65536 * (s0 + 205 + nf) ≤ 100000 + 65536 * H.size
/-- a method that the law calls -/
def okC (mj c0 idx n na mxj : Nat) : Prop := mj < 184 ∧ lw_tbl[n]? = some (.methodLink R_law idx (yN mj)) ∧ kOK mj 0 = true ∧ ow mj = c0 ∧ (fN mj + 1 ≤ 10 ∧ 8 + (mx mj + 11) + lW mj ≤ 360) ∧ na = nP mj - 1 ∧ mx mj = mxj
theorem rl_sz {g : Nat → Nat → Nat} {σ τ : Sg} {nf B n : Nat} {Q : List Nat} (h : Rl g σ τ nf B Q) : Rl g σ (szF τ n) nf B Q := h
section Law5
variable {p : Program} {l : Launch} {e : Env} {s : State} {m : MethodId} {below : List Frame} {meth : Method} {cd : Code} {H : Heap} {locs : List Loc} {cells slots b L : Nat} {Q : State → Prop} {ls : Array Slot} {D : va_G} {E : Nat → ClassId} {σ τ : Sg}
/-- both objects are asked the same -/
theorem law_two {nf k mc mr n1 n2 i1 i2 pc1 pc2 na mx1 mx2 : Nat} {as : List Av} {lc lr : Lo} (C : LX p s m cd b D E) (hI : LI s.heap.size nf D E σ τ H cells slots k) (hS : va_S (fun q => s.heap.size ≤ q) s.heap H locs) (o1 : okC mc 10 i1 n1 na mx1) (o2 : okC mr 11 i2 n2 na mx2) (hr : 121 ≤ mr ∧ mr < 179) (hna : as.length = na) (a1 : (al (.inr (.inr (some (10, 0))) :: as)).length ≤ mx1) (a2 : (al (.inr (.inr (some (11, 0))) :: as)).length ≤ mx2) (hlc : pd mx1 (al (.inr (.inr (some (10, 0))) :: as)) = lc) (hlr : pd mx2 (al (.inr (.inr (some (11, 0))) :: as)) = lr) (d1 : decode code pc1 = .ok (.invokevirtual i1, 3)) (d2 : decode code pc2 = .ok (.invokevirtual i2, 3)) (hls : ls.size = 4)
    (hAN : ∀ (τ' : Sg) (B n : Nat) (Q : List Nat), Rl (gC s.heap.size nf) σ τ' nf B Q → gI σ 10 8 0 = nI n → gI τ' 11 47 0 = nI n → B ≤ 4000 * k → n ≤ 2000 * k → AN (gC s.heap.size nf) mc lc mr lr σ τ' nf B n)
    (mid : ∀ (H1 : Heap) (locs1 : List Loc) (c1 s1 : Nat) (u : Value), va_S (fun q => s.heap.size ≤ q) s.heap H1 locs1 → W p l e room_1 s m #[Value.ref b] below meth cd H1 locs1 c1 s1 Q (F0 m pc2 ls ((as.map (av (gC s.heap.size nf))).reverse ++ .ref (gC s.heap.size nf 11 0) :: [u])) → W p l e room_1 s m #[Value.ref b] below meth cd H1 locs1 c1 s1 Q (F0 m (pc1 + 3) ls [u]))
    (fin : ∀ (v : Av) (H2 : Heap) (locs2 : List Loc) (c2 s2 : Nat) (σ' τ' : Sg), ((rT mc = some .int ∨ rT mc = some .boolean) → ∃ x, v = .inl x) → (rT mc = some .long → ∃ x, v = .inr (.inl x)) → va_S (fun q => s.heap.size ≤ q) s.heap H2 locs2 → LI s.heap.size nf D E σ' τ' H2 c2 s2 (k + 1) → W p l e room_1 s m #[Value.ref b] below meth cd H2 locs2 c2 s2 Q (F0 m (pc2 + 3) ls [av (gC s.heap.size nf) v, av (gC s.heap.size nf) v])) : W p l e room_1 s m #[Value.ref b] below meth cd H locs cells slots Q (F0 m pc1 ls ((as.map (av (gC s.heap.size nf))).reverse ++ [.ref (gC s.heap.size nf 10 0)])) := by
  obtain ⟨⟨hP1, hP2⟩, ⟨hr1, hr2⟩, ⟨B, n, Qq, hRl, ht1, ht2, hB, hn⟩, hcl, hsl⟩ := hI
  obtain ⟨c1, c2, c3, c4, c5, c6, c7⟩ := o1
  obtain ⟨b1, b2, b3, b4, b5, b6, b7⟩ := o2
  subst c7
  subst b7
  obtain ⟨s', t', v, B', n', Q', e1, e2, e3, -⟩ := hAN τ B n Qq hRl ht1 ht2 hB hn
  have hR1 : Rn (gC s.heap.size nf) mc 0 lc [] σ (s', some v) := (e1 _).mpr rfl
  obtain ⟨N, hN⟩ := id hR1
  obtain ⟨x1, x2⟩ := ex_sl _ _ _ _ _ _ _ hN
  obtain ⟨-, -, x3⟩ := ex_sz _ _ _ _ _ _ _ hN
  obtain ⟨x4, x5⟩ := ex_ty _ _ _ _ _ _ _ hN c1
  dsimp only at x1 x2 x3 x4 x5
  have zs : sz σ = H.size := hP1.1.symm
  have hz0 : H.size = s.heap.size + 205 + nf + cn σ 16 := by
    rw [← zs, show sz σ = gC s.heap.size nf 16 (cn σ 16) from hRl.1.2.2]; rfl
  have hz1 : sz s' = s.heap.size + 205 + nf + cn s' 16 := by
    rw [show sz s' = gC s.heap.size nf 16 (cn s' 16) from e3.1.2.2]; rfl
  have h16 : nf ≤ 16 := e3.1.1.1.2
  have h64 : cn s' 16 ≤ 64 := e3.1.1.2.2.2.2.2.2.2.2.1
  have h10 : cn σ 10 = 1 := hRl.1.1.2.1.2.2.2.2.2.2.2.2.2.2.1
  have h11 : cn τ 11 = 1 := hRl.1.2.1.1.1
  refine L_call (A1 := RC s.heap.size nf) (A0 := fun q => s.heap.size ≤ q) (rest := []) C c1 c2 c3 c4 (by omega) d1 hls c5 (hna.trans c6) (by decide) a1 hlc rfl hR1 hP1 (by omega) hr1 (fun q hq => ⟨by omega, by omega⟩) hS (fun q hq => hq.1) (by dsimp only; omega) (fun H1 locs1 hp1 hs1 hzz1 hk1 => ?_)
  have zs1 : sz s' = H1.size := hp1.1.symm
  dsimp only at hp1 zs1
  have hQ1 : HP (gC s.heap.size nf) D E (szF τ H1.size) H1 := HP_keep hP2 (fun c i hi => hk1 _ (cel_lt hP2 hi) (fun z => z.2 (hr2 c i hi)))
  refine mid H1 locs1 _ _ (av (gC s.heap.size nf) v) hs1 ?_
  obtain ⟨s2, t2, v2, B2, n2', Q2, f1, f2, f3, f4, f5, f6, f7⟩ := hAN (szF τ H1.size) B n Qq (rl_sz hRl) ht1 ht2 hB hn
  have hsame := (e1 (s2, some v2)).mp ((f1 _).mpr rfl)
  have hs2 : s2 = s' := congrArg Prod.fst hsame
  have hv2 : v2 = v := Option.some.inj (congrArg Prod.snd hsame)
  subst hs2
  subst hv2
  have hR2 : Rn (gC s.heap.size nf) mr 0 lr [] (szF τ H1.size) (t2, some v2) := (f2 _).mpr rfl
  obtain ⟨N2, hN2⟩ := id hR2
  obtain ⟨y1, y2⟩ := ex_nw _ _ _ _ _ _ _ hN2 hr.1 hr.2
  obtain ⟨-, -, y3⟩ := ex_sz _ _ _ _ _ _ _ hN2
  dsimp only at y1 y2 y3
  have y1' : sz t2 = H1.size := y1
  have ysz : sz (szF τ H1.size) = H1.size := rfl
  refine L_call (A1 := fun q => RR s.heap.size nf q ∨ H1.size ≤ q) (A0 := fun q => s.heap.size ≤ q) (rest := [av (gC s.heap.size nf) v2]) C b1 b2 b3 b4 (by omega) d2 hls b5 (hna.trans b6) (by simp only [List.map_cons, List.map_nil, List.sum_cons, List.sum_nil, av_cat]; split <;> omega) a2 hlr rfl hR2 hQ1 (show 0 < cn τ 11 by omega) (fun c i hi => Or.inl (hr2 c i hi)) (fun q hq => Or.inr hq) hs1 (fun q hq => hq.elim (fun z => by have := z.1; omega) (fun z => by omega)) (by dsimp only; omega) (fun H2 locs2 hp2 hs2 hzz2 hk2 => ?_)
  have zs2 : sz t2 = H2.size := hp2.1.symm
  dsimp only at hp2 zs2
  have hHH : H2.size = H1.size := by omega
  have hQ2 : HP (gC s.heap.size nf) D E (szF s2 H2.size) H2 := HP_keep hp1 (fun c i hi => hk2 _ (cel_lt hp1 hi) (fun z => by
    have r1 := cel_lt hp1 hi
    rcases z with z | z
    · rcases x3 c i hi with q | q
      · exact (hr1 c i q).2 z
      · have := z.2; omega
    · omega))
  have hse : szF s2 H2.size = s2 := by rw [hHH]; exact HP_sz hp1
  rw [hse] at hQ2
  refine fin v2 H2 locs2 _ _ s2 t2 (fun z => ?_) (fun z => ?_) hs2 ⟨⟨hQ2, hp2⟩, ⟨fun c i hi => ?_, fun c i hi => ?_⟩, ⟨B2, n2', Q2, f3, f4, f5, by omega, by omega⟩, by dsimp only; omega, by dsimp only; omega⟩
  · obtain ⟨x, hx⟩ := x4 z; exact ⟨x, Option.some.inj hx⟩
  · obtain ⟨x, hx⟩ := x5 z; exact ⟨x, Option.some.inj hx⟩
  · rcases x3 c i hi with q | q
    · exact hr1 c i q
    · exact ⟨by omega, by omega⟩
  · rcases y3 c i hi with q | q
    · exact hr2 c i q
    · have := cel_lt hp2 hi
      omega
end Law5
