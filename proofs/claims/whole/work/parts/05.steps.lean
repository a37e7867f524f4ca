/-! a row an instruction: equations between a state of the abstract machine and the next one -/
section Steps1
variable {g : Nat → Nat → Nat} {mi pc : Nat} {lo : Lo} {st : List Av} {σ τ : Sg} {X : Sg × Option Av}
theorem E_ldc {v : Int32} (x : Nat) (h : ii mi pc = some (.ldc x, 2)) (hk : (kI.lookup (ow mi, x)).map (fun q => q.1) = some v) : Rn g mi pc lo st σ X = Rn g mi (pc + 2) lo (.inl v :: st) σ X := by
  refine Rn_go h rfl ?_
  obtain ⟨q, h1, h2⟩ := Option.map_eq_some_iff.mp hk
  simp [st1, h1, h2, go]
theorem E_ldc2 {v : Int64} (x : Nat) (h : ii mi pc = some (.ldc2_w x, 3)) (hk : (kJ.lookup (ow mi, x)).map (fun q => q.1) = some v) : Rn g mi pc lo st σ X = Rn g mi (pc + 3) lo (.inr (.inl v) :: st) σ X := by
  refine Rn_go h rfl ?_
  obtain ⟨q, h1, h2⟩ := Option.map_eq_some_iff.mp hk
  simp [st1, h1, h2, go]
theorem E_idiv {x y : Int32} (h : ii mi pc = some (.idiv, 1)) (hy : ¬ y = 0) : Rn g mi pc lo (.inl y :: .inl x :: st) σ X = Rn g mi (pc + 1) lo (.inl (x / y) :: st) σ X := Rn_go h rfl (by simp [st1, pu, bi, hy, go, il])
theorem E_irem {x y : Int32} (h : ii mi pc = some (.irem, 1)) (hy : ¬ y = 0) : Rn g mi pc lo (.inl y :: .inl x :: st) σ X = Rn g mi (pc + 1) lo (.inl (x - x / y * y) :: st) σ X := Rn_go h rfl (by simp [st1, pu, bi, hy, go, il])
theorem E_ldiv {x y : Int64} (h : ii mi pc = some (.ldiv, 1)) (hy : ¬ y = 0) : Rn g mi pc lo (.inr (.inl y) :: .inr (.inl x) :: st) σ X = Rn g mi (pc + 1) lo (.inr (.inl (x / y)) :: st) σ X := Rn_go h rfl (by simp [st1, pu, bj, hy, go, il])
theorem E_br {P : Prop} [Decidable P] {i : Instr} {len tgt : Nat} {off : Int} {r : List Av} (h : ii mi pc = some (i, len)) (hc : cI i = none) (hs : st1 g mi pc i lo st σ = brn (decide P) pc off lo r σ) (hj : ¬ (pc : Int) + off < 0 ∧ ((pc : Int) + off).toNat = tgt) : Rn g mi pc lo st σ X = if P then Rn g mi tgt lo r σ X else Rn g mi (pc + 3) lo r σ X := by
  by_cases hP : P
  · rw [if_pos hP]
    exact Rn_go h hc (by rw [hs]; simp [brn, hP, hj.1, hj.2, go])
  · rw [if_neg hP]
    exact Rn_go h hc (by rw [hs]; simp [brn, hP, hj.1, go])
theorem E_brN {P : Prop} [Decidable P] {i : Instr} {len tgt : Nat} {off : Int} {r : List Av} (h : ii mi pc = some (i, len)) (hc : cI i = none) (hs : st1 g mi pc i lo st σ = brn (!decide P) pc off lo r σ) (hj : ¬ (pc : Int) + off < 0 ∧ ((pc : Int) + off).toNat = tgt) : Rn g mi pc lo st σ X = if P then Rn g mi (pc + 3) lo r σ X else Rn g mi tgt lo r σ X := by
  by_cases hP : P
  · rw [if_pos hP]
    exact Rn_go h hc (by rw [hs]; simp [brn, hP, hj.1, go])
  · rw [if_neg hP]
    exact Rn_go h hc (by rw [hs]; simp [brn, hP, hj.1, hj.2, go])
theorem E_acmp {x y : Option (Nat × Nat)} {tgt : Nat} (off : Int) (h : ii mi pc = some (.if_acmp .eq off, 3)) (h1 : exi x σ = true) (h2 : exi y σ = true) (hj : ¬ (pc : Int) + off < 0 ∧ ((pc : Int) + off).toNat = tgt) : Rn g mi pc lo (.inr (.inr y) :: .inr (.inr x) :: st) σ X = if x = y then Rn g mi tgt lo st σ X else Rn g mi (pc + 3) lo st σ X :=
  E_br h rfl (by simp [st1, h1, h2]) hj
theorem E_acmpN {x y : Option (Nat × Nat)} {tgt : Nat} (off : Int) (h : ii mi pc = some (.if_acmp .ne off, 3)) (h1 : exi x σ = true) (h2 : exi y σ = true) (hj : ¬ (pc : Int) + off < 0 ∧ ((pc : Int) + off).toNat = tgt) : Rn g mi pc lo (.inr (.inr y) :: .inr (.inr x) :: st) σ X = if x = y then Rn g mi (pc + 3) lo st σ X else Rn g mi tgt lo st σ X :=
  E_brN h rfl (by simp [st1, h1, h2]) hj
def Jx (g : Nat → Nat → Nat) (mi pc : Nat) (off : Int) (lo : Lo) (st : List Av) (σ : Sg) (X : Sg × Option Av) : Prop := if (pc : Int) + off < 0 then False else Rn g mi ((pc : Int) + off).toNat lo st σ X
theorem Jx_of {i : Instr} {len : Nat} {off : Int} {r : List Av} (h : ii mi pc = some (i, len)) (hc : cI i = none) (hs : st1 g mi pc i lo st σ = jp pc off lo r σ) : Rn g mi pc lo st σ X = Jx g mi pc off lo r σ X := by
  unfold Jx
  by_cases hP : (pc : Int) + off < 0
  · rw [if_pos hP]
    apply propext
    constructor
    · rintro ⟨n, hn⟩
      cases n with
      | zero => simp [ex] at hn
      | succ n =>
        rw [ex, h] at hn
        simp only [hc, hs, jp, if_pos hP] at hn
        simp at hn
    · exact False.elim
  · rw [if_neg hP]
    exact Rn_go h hc (by rw [hs]; simp [jp, hP, go])
theorem E_tableswitch {x : Int32} {len : Nat} (d l hh : Int) (offs : Array Int) (h : ii mi pc = some (.tableswitch d l hh offs, len)) (hz : hh = l + offs.size - 1) : Rn g mi pc lo (.inl x :: st) σ X = Jx g mi pc (swo (tbl l offs.toList) d x) lo st σ X := Jx_of h rfl (by simp [st1, hz])
theorem E_lookupswitch {x : Int32} {len : Nat} (d : Int) (ps : Array (Int × Int)) (h : ii mi pc = some (.lookupswitch d ps, len)) (hz : (ps.toList.zip (ps.toList.drop 1)).all (fun (a, next) => a.1 < next.1) = true) : Rn g mi pc lo (.inl x :: st) σ X = Jx g mi pc (swo ps.toList d x) lo st σ X := Jx_of h rfl (by show (if _ then _ else _) = _; rw [if_pos hz])
theorem E_sw {x A : Int32} {a o d : Int} {r : List (Int × Int)} {tgt : Nat} {Z : Prop} (ha : A.toInt = a) (hn : ¬ (pc : Int) + o < 0) (ht : ((pc : Int) + o).toNat = tgt) (hr : Jx g mi pc (swo r d x) lo st σ X = Z) : Jx g mi pc (swo ((a, o) :: r) d x) lo st σ X = if x = A then Rn g mi tgt lo st σ X else Z := by
  subst ha; subst ht; subst hr
  by_cases hx : x = A
  · subst hx
    simp [swo, Jx, hn]
  · have : ¬ x.toInt = A.toInt := fun q => hx (Int32.toInt_inj.mp q)
    simp [swo, this, hx]
theorem E_swl {x : Int32} {d : Int} {tgt : Nat} (hn : ¬ (pc : Int) + d < 0) (ht : ((pc : Int) + d).toNat = tgt) : Jx g mi pc (swo [] d x) lo st σ X = Rn g mi tgt lo st σ X := by
  subst ht
  simp [swo, Jx, hn]
theorem E_get {q c k i : Nat} (x : Nat) (h : ii mi pc = some (.getfield x, 3)) (hf : (fL.lookup (ow mi, x)).map (fun f => (f.1, f.2.1)) = some (c, k)) (hk : kd c k = q) (hi : i < cn σ c) : Rn g mi pc lo (.inr (.inr (some (c, i))) :: st) σ X = Rn g mi (pc + 3) lo (rdk σ q c k i :: st) σ X := by
  refine Rn_go h rfl ?_
  obtain ⟨f, h1, h2⟩ := Option.map_eq_some_iff.mp hf
  cases h2
  simp [st1, h1, hi, go, rd, hk]
theorem E_put {q c k i : Nat} {v : Av} (x : Nat) (h : ii mi pc = some (.putfield x, 3)) (hf : (fL.lookup (ow mi, x)).map (fun f => (f.1, f.2.1)) = some (c, k)) (hk : kd c k = q) (hi : i < cn σ c) (hw : wrk σ q c k i v = some τ) : Rn g mi pc lo (v :: .inr (.inr (some (c, i))) :: st) σ X = Rn g mi (pc + 3) lo st τ X := by
  refine Rn_go h rfl ?_
  obtain ⟨f, h1, h2⟩ := Option.map_eq_some_iff.mp hf
  cases h2
  simp [st1, h1, hi, go, wr, hk, hw]
theorem wrk_mk (σ : Sg) (t c k i : Nat) (o : Option Nat) : wrk σ (t + 3) c k i (.inr (.inr (mk t o))) = some (sP σ c k i o) := by
  cases o <;> simp [wrk, mk]
theorem E_alen {c i : Nat} (h : ii mi pc = some (.arraylength, 1)) (hc : 12 ≤ c ∧ c < 55) (hi : i < cn σ c) : Rn g mi pc lo (.inr (.inr (some (c, i))) :: st) σ X = Rn g mi (pc + 1) lo (.inl (Int32.ofNat (ln σ c i)) :: st) σ X := Rn_go h rfl (by simp [st1, hc.1, hc.2, hi, go])
theorem E_iaload {c i : Nat} {j : Int32} (h : ii mi pc = some (.iaload, 1)) (hc : 12 ≤ c ∧ c < 55 ∧ kd c 0 = 0) (hi : i < cn σ c) (hj : vp_in j (ln σ c i)) : Rn g mi pc lo (.inl j :: .inr (.inr (some (c, i))) :: st) σ X = Rn g mi (pc + 1) lo (.inl (gI σ c j.toNatClampNeg i) :: st) σ X := Rn_go h rfl (by simp only [st1]; rw [if_pos ⟨hc.1, hc.2.1, hc.2.2, hi, hj⟩]; rfl)
theorem E_laload {c i : Nat} {j : Int32} (h : ii mi pc = some (.laload, 1)) (hc : 12 ≤ c ∧ c < 55 ∧ kd c 0 = 2) (hi : i < cn σ c) (hj : vp_in j (ln σ c i)) : Rn g mi pc lo (.inl j :: .inr (.inr (some (c, i))) :: st) σ X = Rn g mi (pc + 1) lo (.inr (.inl (gJ σ c j.toNatClampNeg i)) :: st) σ X := Rn_go h rfl (by simp only [st1]; rw [if_pos ⟨hc.1, hc.2.1, hc.2.2, hi, hj⟩]; rfl)
theorem E_aaload {c i t : Nat} {j : Int32} (h : ii mi pc = some (.aaload, 1)) (hc : 12 ≤ c ∧ c < 55 ∧ kd c 0 = t + 3) (hi : i < cn σ c) (hj : vp_in j (ln σ c i)) : Rn g mi pc lo (.inl j :: .inr (.inr (some (c, i))) :: st) σ X = Rn g mi (pc + 1) lo (.inr (.inr (mk t (gP σ c j.toNatClampNeg i))) :: st) σ X := Rn_go h rfl (by simp only [st1]; rw [if_pos ⟨hc.1, hc.2.1, by omega, hi, hj⟩, hc.2.2]; rfl)
theorem E_iastore {c i : Nat} {j x : Int32} (h : ii mi pc = some (.iastore, 1)) (hc : 12 ≤ c ∧ c < 55 ∧ kd c 0 = 0) (hi : i < cn σ c) (hj : vp_in j (ln σ c i)) : Rn g mi pc lo (.inl x :: .inl j :: .inr (.inr (some (c, i))) :: st) σ X = Rn g mi (pc + 1) lo st (sI σ c j.toNatClampNeg i x) X := Rn_go h rfl (by simp only [st1]; rw [if_pos ⟨hc.1, hc.2.1, hc.2.2, hi, hj⟩]; rfl)
theorem E_lastore {c i : Nat} {j : Int32} {x : Int64} (h : ii mi pc = some (.lastore, 1)) (hc : 12 ≤ c ∧ c < 55 ∧ kd c 0 = 2) (hi : i < cn σ c) (hj : vp_in j (ln σ c i)) : Rn g mi pc lo (.inr (.inl x) :: .inl j :: .inr (.inr (some (c, i))) :: st) σ X = Rn g mi (pc + 1) lo st (sJ σ c j.toNatClampNeg i x) X := Rn_go h rfl (by simp only [st1]; rw [if_pos ⟨hc.1, hc.2.1, hc.2.2, hi, hj⟩]; rfl)
theorem E_aastore {c i t : Nat} {o : Option Nat} {j : Int32} (h : ii mi pc = some (.aastore, 1)) (hc : 12 ≤ c ∧ c < 55 ∧ kd c 0 = t + 3) (hi : i < cn σ c) (hj : vp_in j (ln σ c i)) (hu : ∀ u, o = some u → u < cn σ t) : Rn g mi pc lo (.inr (.inr (mk t o)) :: .inl j :: .inr (.inr (some (c, i))) :: st) σ X = Rn g mi (pc + 1) lo st (sP σ c j.toNatClampNeg i o) X := by
  have h6 : exi (mk t o) σ = true := by
    cases o with
    | none => rfl
    | some u => simp [mk, exi, hu u rfl]
  have h7 : cko (mk t o) (kd c 0 - 3) = true := by
    rw [hc.2.2]
    cases o <;> simp [mk, cko]
  have h8 : (mk t o).map (fun z => z.2) = o := by cases o <;> simp [mk]
  refine Rn_go h rfl ?_
  simp only [st1]
  rw [if_pos ⟨hc.1, hc.2.1, by omega, hi, hj, h6, h7⟩, h8]
  rfl
theorem E_new {c n : Nat} (x : Nat) (h : ii mi pc = some (.new x, 3)) (hf : (cL.lookup (ow mi, x)).map (fun f => f.1) = some c) (hn : ((KD[c]?).getD []).length = n) (hz : sz σ = g c (cn σ c)) : Rn g mi pc lo st σ X = Rn g mi (pc + 3) lo (.inr (.inr (some (c, cn σ c))) :: st) (nw σ c n) X := by
  refine Rn_go h rfl ?_
  obtain ⟨f, h1, h2⟩ := Option.map_eq_some_iff.mp hf
  cases h2
  simp only [st1, h1, Option.bind_some]
  rw [if_pos hz, hn]
  rfl
theorem E_newarray {c : Nat} {n : Int32} (t : ArrayType) (h : ii mi pc = some (.newarray t, 2)) (hf : sL.lookup (mi, pc) = some c) (hz : sz σ = g c (cn σ c)) (hn : ¬ n < 0) (hm : n.toNatClampNeg ≤ 65536) (ht : (t = .int ∧ kd c 0 = 0) ∨ (t = .long ∧ kd c 0 = 2)) : Rn g mi pc lo (.inl n :: st) σ X = Rn g mi (pc + 2) lo (.inr (.inr (some (c, cn σ c))) :: st) (nw σ c n.toNatClampNeg) X := by
  refine Rn_go h rfl ?_
  simp only [st1, hf, Option.bind_some]
  rw [if_pos ⟨hz, hn, hm, ht⟩]
  rfl
theorem E_anewarray {c e : Nat} {n : Int32} (x : Nat) (h : ii mi pc = some (.anewarray x, 3)) (hf : sL.lookup (mi, pc) = some c) (he : (cL.lookup (ow mi, x)).map (fun f => f.1) = some e) (hz : sz σ = g c (cn σ c)) (hn : ¬ n < 0) (hm : n.toNatClampNeg ≤ 65536) (ht : kd c 0 = e + 3) : Rn g mi pc lo (.inl n :: st) σ X = Rn g mi (pc + 3) lo (.inr (.inr (some (c, cn σ c))) :: st) (nw σ c n.toNatClampNeg) X := by
  refine Rn_go h rfl ?_
  obtain ⟨f, h1, h2⟩ := Option.map_eq_some_iff.mp he
  cases h2
  simp only [st1, hf, h1, Option.bind_some]
  rw [if_pos ⟨hz, hn, hm, ht⟩]
  rfl
theorem E_c0 {x : Nat} {ks : List Nat} {q : Nat × Nat} {r : List Av} (hm : (mL.lookup (ow mi, x)).map (fun q => q.2.1) = some 5) (hk : 5 ∈ ks) (h1 : 1 ≤ fN mi) (h2 : cw r ≤ 8) (h3 : 21 ≤ lW mi) : c0 mi x ks (.inr (.inr (some q)) :: r) = some r := by
  obtain ⟨f, e1, e2⟩ := Option.map_eq_some_iff.mp hm
  simp only [c0, e1, Option.bind_some, e2, c0k]
  rw [if_pos ⟨hk, h1, by omega⟩]
theorem E_c7 {a b : Int32} {x : Nat} {ks : List Nat} {r : List Av} (hm : (mL.lookup (ow mi, x)).map (fun q => q.2.1) = some 7) (hk : 7 ∈ ks) (h1 : 1 ≤ fN mi) (h2 : cw r ≤ 8) (h3 : 21 ≤ lW mi) : c0 mi x ks (.inl b :: .inl a :: r) = some (.inl (if a < b then b else a) :: r) := by
  obtain ⟨f, e1, e2⟩ := Option.map_eq_some_iff.mp hm
  simp only [c0, e1, Option.bind_some, e2, c0k]
  rw [if_pos ⟨hk, h1, by omega⟩]
theorem E_c8 {a b : Int32} {x : Nat} {ks : List Nat} {r : List Av} (hm : (mL.lookup (ow mi, x)).map (fun q => q.2.1) = some 8) (hk : 8 ∈ ks) (h1 : 1 ≤ fN mi) (h2 : cw r ≤ 8) (h3 : 21 ≤ lW mi) : c0 mi x ks (.inl b :: .inl a :: r) = some (.inl (if b < a then b else a) :: r) := by
  obtain ⟨f, e1, e2⟩ := Option.map_eq_some_iff.mp hm
  simp only [c0, e1, Option.bind_some, e2, c0k]
  rw [if_pos ⟨hk, h1, by omega⟩]
theorem E_n0 {x k : Nat} {ks : List Nat} (hm : (mL.lookup (ow mi, x)).map (fun q => q.2.1) = some k) (hk : k < 5) : c0 mi x ks st = none := by
  obtain ⟨f, e1, e2⟩ := Option.map_eq_some_iff.mp hm
  simp only [c0, e1, Option.bind_some, e2]
  unfold c0k
  split
  · omega
  · omega
  · omega
  · rfl
theorem E_c1 {x mj k : Nat} {ks : List Nat} {as r : List Av} (hm : (mL.lookup (ow mi, x)).map (fun q => (q.1, q.2.1)) = some (mj, k)) (hk : k ∈ ks) (h5 : k < 5) (hj : mj < 184) (ht : tk (nP mj) [] st = some (as, r)) (h2 : c2 mi mj k (as, r) σ = true) : c1 mi x ks st σ = some (mj, as, r) := by
  obtain ⟨f, e1, e2⟩ := Option.map_eq_some_iff.mp hm
  cases e2
  simp only [c1, e1, Option.bind_some]
  rw [if_pos ⟨hk, h5, hj⟩, ht, Option.bind_some, if_pos h2]
theorem E_tk {mj n : Nat} {as r : List Av} (hn : nP mj = n) (h : tk n [] st = some (as, r)) : tk (nP mj) [] st = some (as, r) := by rw [hn]; exact h
theorem E_c2v {mj m c i : Nat} {as r : List Av} (hcw : cw r ≤ 8) (hf : fN mj + 1 ≤ fN mi ∧ 8 + (mx mj + 11) + lW mj ≤ lW mi) (ha : (al (.inr (.inr (some (c, i))) :: as)).length = m) (hm : m ≤ mx mj) (ho : ow mj = c) (hi : i < cn σ c) : c2 mi mj 0 (.inr (.inr (some (c, i))) :: as, r) σ = true := by
  subst ho
  rw [← ha] at hm
  simp [c2, hcw, hf.1, hf.2, hm, rcv, hi]
theorem E_c2i {mj m k : Nat} {q : Nat × Nat} {as r : List Av} (hcw : cw r ≤ 8) (hf : fN mj + 1 ≤ fN mi ∧ 8 + (mx mj + 11) + lW mj ≤ lW mi) (ha : (al (.inr (.inr (some q)) :: as)).length = m) (hm : m ≤ mx mj) (hk : k = 1 ∨ k = 3) : c2 mi mj k (.inr (.inr (some q)) :: as, r) σ = true := by
  rw [← ha] at hm
  have h0 : ¬ k = 0 := by omega
  simp [c2, hcw, hf.1, hf.2, hm, h0, hk, rc1]
theorem E_c2s {mj m k : Nat} {as r : List Av} (hcw : cw r ≤ 8) (hf : fN mj + 1 ≤ fN mi ∧ 8 + (mx mj + 11) + lW mj ≤ lW mi) (ha : (al as).length = m) (hm : m ≤ mx mj) (hk : k = 2 ∨ k = 4) : c2 mi mj k (as, r) σ = true := by
  rw [← ha] at hm
  have h0 : ¬ k = 0 := by omega
  have h1 : ¬ (k = 1 ∨ k = 3) := by omega
  simp [c2, hcw, hf.1, hf.2, hm, h0, h1]
theorem E_pd {mj m : Nat} {lj : Lo} {as : List Av} (hm : mx mj = m) (h : pd m (al as) = lj) : pd (mx mj) (al as) = lj := by rw [hm]; exact h
theorem E_iret {x : Int32} (h : ii mi pc = some (.ireturn, 1)) (hr : rT mi = some .int) : Rn g mi pc lo [.inl x] σ X = (X = (σ, some (.inl x))) := Rn_ret h rfl (by simp [st1, hr])
theorem E_iretb {x : Int32} (h : ii mi pc = some (.ireturn, 1)) (hr : rT mi = some .boolean) (hx : x = 0 ∨ x = 1) : Rn g mi pc lo [.inl x] σ X = (X = (σ, some (.inl x))) := Rn_ret h rfl (by simp [st1, hr, hx])
theorem E_lret {x : Int64} (h : ii mi pc = some (.lreturn, 1)) (hr : rT mi = some .long) : Rn g mi pc lo [.inr (.inl x)] σ X = (X = (σ, some (.inr (.inl x)))) := Rn_ret h rfl (by simp [st1, hr])
end Steps1
