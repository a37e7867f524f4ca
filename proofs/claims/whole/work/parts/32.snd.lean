/-! soundness: fields, arrays, new cells -/
theorem vw_at {c : Nat} (hc : c < 12) : vwCl[c]? = some (cR c, cT c, cF c) := by
  have h := (cp_ok c hc).2.2.2.2
  unfold cR cT cF cC
  obtain ⟨q, hq⟩ := Option.isSome_iff_exists.mp h
  rw [hq]
  rfl
theorem lays_in {c : Nat} (hc : c < 12) : ∀ w ∈ u_ws (cR c) (cT c) (cF c), w ∈ GT := by
  intro w hw
  obtain ⟨k, hk, rfl⟩ := List.mem_map.mp hw
  refine GT_at (lay_ok c hc k (List.mem_range.mp hk)) ?_
  unfold u_lay
  split <;> rfl
theorem tyE_at {E : Nat → ClassId} {k : Nat} (hk : k < 6) : (tyE E)[k]? = some (E k, aT k) := by
  match k, hk with
  | 0, _ => rfl
  | 1, _ => rfl
  | 2, _ => rfl
  | 3, _ => rfl
  | 4, _ => rfl
  | 5, _ => rfl
  | n + 6, h => omega
theorem fL_at {o x c k j : Nat} (h : fL.lookup (o, x) = some (c, k, j)) : c < 12 ∧ k < cF c ∧ Cond.fieldLink (oN o) x (cT c k).1 (cT c k).2.1 (cT c k).2.2.1 ∈ GT := by
  obtain ⟨h1, h2, h3⟩ := fL_ok _ (look_mem h)
  exact ⟨h1, h2, GT_at h3 rfl⟩
section Snd3
variable {p : Program} {l : Launch} {e : Env} {R : Room} {s : State} {m : MethodId} {args : Array Value} {below : List Frame} {meth : Method} {c0 : Code} {H : Heap} {locs : List Loc} {cells slots : Nat} {Q : State → Prop} {cc : ByteArray} {pc : Nat} {ls : Array Slot} {g : Nat → Nat → Nat} {D : va_G} {E : Nat → ClassId} {A : Nat → Prop} {H0 : Heap} {σ τ : Sg} {rest : List Value}
theorem S_get {o x c k j i : Nat} (hx : p.tables.exec = Jvm.exec) (hb : c0.code = cc) (hts : ∀ w ∈ GT, w.before args s = true) (hown : s.vm.findClass (oN o) = some m.cls) (hK : KK D E s) (hP : HP g D E σ H) (hf : fL.lookup (o, x) = some (c, k, j)) (hi : i < cn σ c) (hd : decode cc pc = .ok (.getfield x, 3)) (kk : W p l e R s m args below meth c0 H locs cells slots Q (F0 m (pc + 3) ls (av g (rd σ c k i) :: rest))) : W p l e R s m args below meth c0 H locs cells slots Q (F0 m pc ls (.ref (g c i) :: rest)) := by
  obtain ⟨h1, h2, h3⟩ := fL_at hf
  obtain ⟨cell, q1, q2, q3, q4⟩ := cel_obj hP hi h1
  obtain ⟨hS, hfc, kC, hkC, hkind⟩ := hK.1.1 c _ (vw_at h1)
  obtain ⟨cf, kf, fi, f, hfi, hsl⟩ := hS k h2
  refine W.getf hx hb hown (hts _ h3) hfi (u_facts hfc hkC (u_lays hts (lays_in h1) h2) hfi).1 q1 (by rw [q3]; exact fun h => by cases h) (v := av g (rd σ c k i)) ?_ rfl rfl hd kk
  rw [hsl, q4 k h2]
  rfl
theorem apart {c : Nat} (hts : ∀ w ∈ GT, w.before args s = true) (hK : KK D E s) (h1 : c < 12) : ∀ x y, x < cF c → y < cF c → x ≠ y → (D.2 c) x ≠ (D.2 c) y :=
  va_apart (own := "") hts (lays_in h1) (tyF c) (ty_ok c h1) (nm_ok c h1) hK.1 (vw_at h1)
theorem put_OB {c k i : Nat} {v : Av} {cell : Cell} {H' : Heap} (hk : k < cF c) (hap : ∀ x y, x < cF c → y < cF c → x ≠ y → (D.2 c) x ≠ (D.2 c) y) (q2 : cell.cls = D.1 c) (q3 : cell.vm = .none) (q4 : ∀ j, j < cF c → cell.slots[D.2 c j]? = some (fv g σ c i j)) (e1 : H'[g c i]? = some (cell.setSlot (D.2 c k) (av g v))) (hr : rd τ c k i = v) (ho : ∀ j, j ≠ k → rd τ c j i = rd σ c j i) : t_OB (g c i) (D.1 c) (cF c) (D.2 c) H' (fv g τ c i) := by
  refine t_OB.to (V := updV (fv g σ c i) k (av g v)) ⟨_, e1, q2, q3, t_set q4 hap hk (av g v)⟩ (fun j _ => ?_)
  unfold updV fv
  by_cases hj : j = k
  · subst hj; rw [if_pos rfl, hr]
  · rw [if_neg hj, ho j hj]
theorem S_put {o x c k j i : Nat} {v : Av} (hx : p.tables.exec = Jvm.exec) (hb : c0.code = cc) (hts : ∀ w ∈ GT, w.before args s = true) (hown : s.vm.findClass (oN o) = some m.cls) (hK : KK D E s) (hP : HP g D E σ H) (hS0 : va_S A H0 H locs) (hA : A (g c i)) (hf : fL.lookup (o, x) = some (c, k, j)) (hfin : (cT c k).2.2.2 = true → meth.name = "<init>" ∧ o = c) (hi : i < cn σ c) (hw : wr σ c k i v = some τ) (hd : decode cc pc = .ok (.putfield x, 3)) (kk : ∀ (H1 : Heap) (locs1 : List Loc), HP g D E τ H1 → va_S A H0 H1 locs1 → W p l e R s m args below meth c0 H1 locs1 cells slots Q (F0 m (pc + 3) ls rest)) : W p l e R s m args below meth c0 H locs cells slots Q (F0 m pc ls (av g v :: .ref (g c i) :: rest)) := by
  obtain ⟨h1, h2, h3⟩ := fL_at hf
  obtain ⟨cell, q1, q2, q3, q4⟩ := cel_obj hP hi h1
  obtain ⟨hS, hfc, kC, hkC, hkind⟩ := hK.1.1 c _ (vw_at h1)
  obtain ⟨cf, kf, fi, f, hfi, hsl⟩ := hS k h2
  have hst := (u_facts hfc hkC (u_lays hts (lays_in h1) h2) hfi).1
  have hlay := hts _ (lays_in h1 _ (u_in_lay h2))
  obtain ⟨w1, w2, w3, -⟩ := wrk_spec rfl hw
  obtain ⟨f1, f2⟩ := rdk_fits (g := g) (kd_ok c h1 k h2) hw
  have hap := apart (args := args) hts hK h1
  have fin : ∀ H' : Heap, H'[g c i]? = some (cell.setSlot f.slot (av g v)) → H'.size = H.size → (∀ q, q ≠ g c i → H'[q]? = H[q]?) → W p l e R s m args below meth c0 H' (locs ++ [⟨g c i, f.slot⟩]) cells slots Q (F0 m (pc + 3) ls rest) := by
    intro H' e1 e2 e3
    rw [hsl] at e1 ⊢
    refine kk H' _ (HP_put hP hi w1 e2 e3 (Or.inl ⟨h1, put_OB h2 hap q2 q3 q4 e1 w3 (fun j hj => w2 _ _ _ (fun z => hj z.2.1))⟩) (fun c' i' k' hn => w2 _ _ _ (fun z => hn ⟨z.1, z.2.2⟩))) (hS0.put e2 e3 hA)
  unfold u_lay at hlay
  by_cases hF : (cT c k).2.2.2 = true
  · rw [if_pos hF] at hlay
    obtain ⟨hin, hoc⟩ := hfin hF
    have hcf : m.cls = cf := by
      obtain ⟨_, _, c', _, _, _, -, -, hf', -, -, -, hown2, -⟩ := Cond.laysFinal_spec hlay
      have e1 : c' = cf := by have := hfi.symm.trans hf'; simp at this; exact this.1.symm
      rw [own_ok c h1 k h2, ← (cp_ok c h1).2.2.1, ← hoc] at hown2
      rw [← e1]; exact Option.some.inj (hown.symm.trans hown2)
    have h6 := u_fits hfc hkC hkind (Or.inr hlay) hfi (ty_ok c h1 k h2) f1 f2
    exact W.putFinK hx hb hown (hts _ h3) hfi hst hcf hin (by rw [q2]; exact h6) q1 q3 (by rw [hsl]; exact k2_hasslot (q4 k h2)) rfl rfl hd fin
  · rw [if_neg hF] at hlay
    have h6 := u_store hfc hkC hkind hlay hfi (ty_ok c h1 k h2) f1 f2
    exact W.putK hx hb (f := f) ⟨hown, hts _ h3, ⟨_, _, _, hfi⟩, hst⟩ (by rw [q2]; exact h6) q1 q3 (by rw [hsl]; exact k2_hasslot (q4 k h2)) rfl rfl hd fin
theorem kd_arr {c : Nat} (hc : 12 ≤ c) (k : Nat) : kd c k = kd c 0 := by
  unfold kd
  rw [if_neg (by omega), if_neg (by omega)]
theorem fv_int {c i k : Nat} (hc : 12 ≤ c) (hk : kd c 0 = 0) : fv g σ c i k = .int (gI σ c k i) := by
  unfold fv rd; rw [kd_arr hc, hk]; rfl
theorem fv_long {c i k : Nat} (hc : 12 ≤ c) (hk : kd c 0 = 2) : fv g σ c i k = .long (gJ σ c k i) := by
  unfold fv rd; rw [kd_arr hc, hk]; rfl
theorem fv_ref {c i k : Nat} (hc : 12 ≤ c) (hk : 3 ≤ kd c 0) : fv g σ c i k = av g (.inr (.inr (mk (kd c 0 - 3) (gP σ c k i)))) := by
  unfold fv rd; rw [kd_arr hc]
  obtain ⟨t, ht⟩ : ∃ t, kd c 0 = t + 3 := ⟨kd c 0 - 3, by omega⟩
  rw [ht]
  rfl
theorem arrOf {c : Nat} (hK : KK D E s) (hc : 12 ≤ c) (h5 : c < 55) : ArrOfT s (E (ai c)) (aT (ai c)) := (hK.1.2 _ _ (tyE_at (ai_ok c h5 hc).1)).1
theorem S_alen {c i : Nat} (hx : p.tables.exec = Jvm.exec) (hb : c0.code = cc) (hK : KK D E s) (hP : HP g D E σ H) (hc : 12 ≤ c) (h5 : c < 55) (hi : i < cn σ c) (hd : decode cc pc = .ok (.arraylength, 1)) (kk : W p l e R s m args below meth c0 H locs cells slots Q (F0 m (pc + 1) ls (.int (Int32.ofNat (ln σ c i)) :: rest))) : W p l e R s m args below meth c0 H locs cells slots Q (F0 m pc ls (.ref (g c i) :: rest)) :=
  W.alen (n := Int32.ofNat (ln σ c i)) hx hb (cel_arr hP hi hc) (arrOf hK hc h5 _ _) (by rw [arrV_size] <;> rfl) rfl rfl hd kk
theorem S_iald {c i : Nat} {j : Int32} (hx : p.tables.exec = Jvm.exec) (hb : c0.code = cc) (hK : KK D E s) (hP : HP g D E σ H) (hc : 12 ≤ c) (h5 : c < 55) (hk : kd c 0 = 0) (hi : i < cn σ c) (hj : ¬ (j < 0 ∨ ln σ c i ≤ j.toNatClampNeg)) (hd : decode cc pc = .ok (.iaload, 1)) (kk : W p l e R s m args below meth c0 H locs cells slots Q (F0 m (pc + 1) ls (.int (gI σ c j.toNatClampNeg i) :: rest))) : W p l e R s m args below meth c0 H locs cells slots Q (F0 m pc ls (.int j :: .ref (g c i) :: rest)) := by
  have hlt : j.toNatClampNeg < ln σ c i := Nat.not_le.mp fun q => hj (Or.inr q)
  have ha := arrOf hK hc h5 (ln σ c i) (fv g σ c i)
  rw [(ai_ok c h5 hc).2.1 hk] at ha
  exact W.iald (v := .int (gI σ c j.toNatClampNeg i)) hx hb (by rw [cel_arr hP hi hc, (ai_ok c h5 hc).2.1 hk]) ha (fun q => by cases q) (by rw [arrV_size]; exact hj) (by rw [arrV_read _ _ hlt, fv_int hc hk]) rfl rfl hd kk
theorem S_lald {c i : Nat} {j : Int32} (hx : p.tables.exec = Jvm.exec) (hb : c0.code = cc) (hK : KK D E s) (hP : HP g D E σ H) (hc : 12 ≤ c) (h5 : c < 55) (hk : kd c 0 = 2) (hi : i < cn σ c) (hj : ¬ (j < 0 ∨ ln σ c i ≤ j.toNatClampNeg)) (hd : decode cc pc = .ok (.laload, 1)) (kk : W p l e R s m args below meth c0 H locs cells slots Q (F0 m (pc + 1) ls (.long (gJ σ c j.toNatClampNeg i) :: rest))) : W p l e R s m args below meth c0 H locs cells slots Q (F0 m pc ls (.int j :: .ref (g c i) :: rest)) := by
  have hlt : j.toNatClampNeg < ln σ c i := Nat.not_le.mp fun q => hj (Or.inr q)
  have ha := arrOf hK hc h5 (ln σ c i) (fv g σ c i)
  rw [(ai_ok c h5 hc).2.2.1 hk] at ha
  exact W.lald (v := .long (gJ σ c j.toNatClampNeg i)) hx hb (by rw [cel_arr hP hi hc, (ai_ok c h5 hc).2.2.1 hk]) ha (fun q => by cases q) (by rw [arrV_size]; exact hj) (by rw [arrV_read _ _ hlt, fv_long hc hk]) rfl rfl hd kk
theorem S_aald {c i : Nat} {j : Int32} (hx : p.tables.exec = Jvm.exec) (hb : c0.code = cc) (hK : KK D E s) (hP : HP g D E σ H) (hc : 12 ≤ c) (h5 : c < 55) (hk : 3 ≤ kd c 0) (hi : i < cn σ c) (hj : ¬ (j < 0 ∨ ln σ c i ≤ j.toNatClampNeg)) (hd : decode cc pc = .ok (.aaload, 1)) (kk : W p l e R s m args below meth c0 H locs cells slots Q (F0 m (pc + 1) ls (av g (.inr (.inr (mk (kd c 0 - 3) (gP σ c j.toNatClampNeg i)))) :: rest))) : W p l e R s m args below meth c0 H locs cells slots Q (F0 m pc ls (.int j :: .ref (g c i) :: rest)) := by
  have hlt : j.toNatClampNeg < ln σ c i := Nat.not_le.mp fun q => hj (Or.inr q)
  have ha := arrOf hK hc h5 (ln σ c i) (fv g σ c i)
  exact W.aald (ty := aT (ai c)) hx hb (cel_arr hP hi hc) ha (by rw [((ai_ok c h5 hc).2.2.2.1 hk).2.1]; rfl) (fun q => by cases q) (by rw [arrV_size]; exact hj) (by rw [arrV_read _ _ hlt, fv_ref hc hk]) rfl rfl hd kk
theorem arr_put {c i k : Nat} {v : Value} {H' : Heap} (hP : HP g D E σ H) (hc : 12 ≤ c) (h5 : c < 55) (hi : i < cn σ c) (e1 : H'[g c i]? = some ((arrV (E (ai c)) (ln σ c i) (fv g σ c i)).setSlot k v)) (e2 : H'.size = H.size) (e3 : ∀ q, q ≠ g c i → H'[q]? = H[q]?) (hn : τ.2.2.2 = σ.2.2.2) (hv : fv g τ c i k = v) (ho : ∀ c' k' i', ¬ (c' = c ∧ k' = k ∧ i' = i) → rd τ c' k' i' = rd σ c' k' i') : HP g D E τ H' := by
  refine HP_put hP hi hn e2 e3 (Or.inr ⟨hc, h5, ?_⟩) (fun c' i' k' hz => ho _ _ _ (fun z => hz ⟨z.1, z.2.2⟩))
  rw [e1, arrV_store]
  have hl : ln τ c i = ln σ c i := by unfold ln; rw [hn]
  rw [hl]
  congr 2
  funext q
  unfold updV
  by_cases hq : q = k
  · subst hq; rw [if_pos rfl, hv]
  · rw [if_neg hq]; unfold fv; rw [ho _ _ _ (fun z => hq z.2.1)]
theorem S_iast {c i : Nat} {j x : Int32} (hx : p.tables.exec = Jvm.exec) (hb : c0.code = cc) (hK : KK D E s) (hP : HP g D E σ H) (hS0 : va_S A H0 H locs) (hA : A (g c i)) (hc : 12 ≤ c) (h5 : c < 55) (hk : kd c 0 = 0) (hi : i < cn σ c) (hj : ¬ (j < 0 ∨ ln σ c i ≤ j.toNatClampNeg)) (hd : decode cc pc = .ok (.iastore, 1)) (kk : ∀ (H1 : Heap) (locs1 : List Loc), HP g D E (sI σ c j.toNatClampNeg i x) H1 → va_S A H0 H1 locs1 → W p l e R s m args below meth c0 H1 locs1 cells slots Q (F0 m (pc + 1) ls rest)) : W p l e R s m args below meth c0 H locs cells slots Q (F0 m pc ls (.int x :: .int j :: .ref (g c i) :: rest)) := by
  have ha := arrOf hK hc h5 (ln σ c i) (fv g σ c i)
  rw [(ai_ok c h5 hc).2.1 hk] at ha
  refine W.iast hx hb (by rw [cel_arr hP hi hc, (ai_ok c h5 hc).2.1 hk]) ha (fun q => by cases q) (by rw [arrV_size]; exact hj) rfl rfl hd fun H1 e1 e2 e3 => ?_
  rw [← (ai_ok c h5 hc).2.1 hk] at e1
  exact kk H1 _ (arr_put hP hc h5 hi e1 e2 e3 rfl (by rw [fv_int hc hk]; simp [gI, sI]) (fun _ _ _ z => rd_sI z)) (hS0.put e2 e3 hA)
theorem S_last {c i : Nat} {j : Int32} {x : Int64} (hx : p.tables.exec = Jvm.exec) (hb : c0.code = cc) (hK : KK D E s) (hP : HP g D E σ H) (hS0 : va_S A H0 H locs) (hA : A (g c i)) (hc : 12 ≤ c) (h5 : c < 55) (hk : kd c 0 = 2) (hi : i < cn σ c) (hj : ¬ (j < 0 ∨ ln σ c i ≤ j.toNatClampNeg)) (hd : decode cc pc = .ok (.lastore, 1)) (kk : ∀ (H1 : Heap) (locs1 : List Loc), HP g D E (sJ σ c j.toNatClampNeg i x) H1 → va_S A H0 H1 locs1 → W p l e R s m args below meth c0 H1 locs1 cells slots Q (F0 m (pc + 1) ls rest)) : W p l e R s m args below meth c0 H locs cells slots Q (F0 m pc ls (.long x :: .int j :: .ref (g c i) :: rest)) := by
  have ha := arrOf hK hc h5 (ln σ c i) (fv g σ c i)
  rw [(ai_ok c h5 hc).2.2.1 hk] at ha
  refine W.last hx hb (by rw [cel_arr hP hi hc, (ai_ok c h5 hc).2.2.1 hk]) ha (fun q => by cases q) (by rw [arrV_size]; exact hj) rfl rfl hd fun H1 e1 e2 e3 => ?_
  rw [← (ai_ok c h5 hc).2.2.1 hk] at e1
  exact kk H1 _ (arr_put hP hc h5 hi e1 e2 e3 rfl (by rw [fv_long hc hk]; simp [gJ, sJ]) (fun _ _ _ z => rd_sJ z)) (hS0.put e2 e3 hA)
theorem S_aast {c i : Nat} {j : Int32} {x : Option (Nat × Nat)} (hx : p.tables.exec = Jvm.exec) (hb : c0.code = cc) (hK : KK D E s) (hP : HP g D E σ H) (hS0 : va_S A H0 H locs) (hA : A (g c i)) (hc : 12 ≤ c) (h5 : c < 55) (hk : 3 ≤ kd c 0) (hi : i < cn σ c) (hj : ¬ (j < 0 ∨ ln σ c i ≤ j.toNatClampNeg)) (he : exi x σ = true) (ht : cko x (kd c 0 - 3) = true) (hd : decode cc pc = .ok (.aastore, 1)) (kk : ∀ (H1 : Heap) (locs1 : List Loc), HP g D E (sP σ c j.toNatClampNeg i (x.map (fun z => z.2))) H1 → va_S A H0 H1 locs1 → W p l e R s m args below meth c0 H1 locs1 cells slots Q (F0 m (pc + 1) ls rest)) : W p l e R s m args below meth c0 H locs cells slots Q (F0 m pc ls (av g (.inr (.inr x)) :: .int j :: .ref (g c i) :: rest)) := by
  have ha := arrOf hK hc h5 (ln σ c i) (fv g σ c i)
  obtain ⟨t1, t2, t3⟩ := (ai_ok c h5 hc).2.2.2.1 hk
  have hlt : j.toNatClampNeg < ln σ c i := Nat.not_le.mp fun q => hj (Or.inr q)
  have h0 : ¬ j < 0 := fun q => hj (Or.inl q)
  cases x with
  | none =>
    rw [t2] at ha
    refine va_WaastN (C := cR (kd c 0 - 3)) hx hb (cel_arr hP hi hc) ha (fun h => by cases h) (by rw [arrV_size]; exact hj) rfl rfl hd fun H1 e1 e2 e3 => ?_
    exact kk H1 _ (arr_put hP hc h5 hi e1 e2 e3 rfl (by rw [fv_ref hc hk]; simp [gP, sP, mk, av]) (fun _ _ _ z => rd_sP z)) (hS0.put e2 e3 hA)
  | some q =>
    obtain ⟨t, u⟩ := q
    simp only [cko, decide_eq_true_eq] at ht
    subst ht
    simp only [exi, decide_eq_true_eq] at he
    obtain ⟨cellV, g1, g2, g3, -⟩ := cel_obj hP he t3
    have hcls := (hK.1.1 _ _ (vw_at t3)).2
    have hra := (hK.1.2 _ _ (tyE_at (E := E) (ai_ok c h5 hc).1)).2
    rw [t2] at hra
    obtain ⟨kA, comp, k1, k2, k3, -⟩ := hra
    have hcomp : comp = D.1 (kd c 0 - 3) := Option.some.inj (k3.symm.trans hcls.1)
    subst hcomp
    obtain ⟨kC, hkC, -⟩ := hcls.2
    refine W.aast hx hb (cel_arr hP hi hc) (fun q h => by cases h) (fun h => by cases h) k1 k2 rfl hkC ⟨h0, by rw [arrV_size]; exact hlt⟩ g1 (fun q h => by rw [g3] at h; cases h) (by rw [g2]; exact hkC) (by rw [g2]; exact va_assign hcls) rfl rfl hd fun H1 e1 e2 e3 => ?_
    exact kk H1 _ (arr_put hP hc h5 hi e1 e2 e3 rfl (by rw [fv_ref hc hk]; simp [gP, sP, mk, av]) (fun _ _ _ z => rd_sP z)) (hS0.put e2 e3 hA)
-- new cells
theorem rd_nw {c n c' k' i' : Nat} (h : ¬ (c' = c ∧ i' = cn σ c)) : rd (nw σ c n) c' k' i' = rd σ c' k' i' := by
  unfold rd rdk; split <;> simp [gI, gJ, gP, nw, h]
theorem HP_new {c n : Nat} {H1 : Heap} (hP : HP g D E σ H) (hg : sz σ = g c (cn σ c)) (hz : H1.size = H.size + 1) (ho : ∀ q, q < H.size → H1[q]? = H[q]?) (hc : cel g D E (nw σ c n) c (cn σ c) H1) : HP g D E (nw σ c n) H1 := by
  have h1 : ∀ c', cn (nw σ c n) c' = if c' = c then cn σ c + 1 else cn σ c' := fun c' => rfl
  have hold : ∀ c' i', i' < cn (nw σ c n) c' → (c' = c ∧ i' = cn σ c) ∨ i' < cn σ c' := by
    intro c' i' h
    rw [h1] at h
    split at h
    · rename_i hq; subst hq; omega
    · exact Or.inr h
  have hlt : ∀ c' i', i' < cn σ c' → ¬ (c' = c ∧ i' = cn σ c) := fun c' i' h z => by obtain ⟨rfl, rfl⟩ := z; omega
  refine ⟨by rw [hz, hP.1]; rfl, fun c' i' h => ?_, fun c1 i1 c2 i2 a b hq => ?_⟩
  · rcases hold c' i' h with ⟨rfl, rfl⟩ | h
    · exact hc
    · have hn := hlt c' i' h
      refine cel_kept (hP.2.1 c' i' h) (ho _ (cel_lt hP h)) (fun k => by unfold fv; rw [rd_nw hn]) ?_
      simp [ln, nw, hn]
  · rcases hold c1 i1 a with ⟨e1, e2⟩ | a1
    · rcases hold c2 i2 b with ⟨e3, e4⟩ | b1
      · exact ⟨e1.trans e3.symm, e2.trans e4.symm⟩
      · have := cel_lt hP b1; rw [← hq, e1, e2, ← hg, hP.1] at this; omega
    · rcases hold c2 i2 b with ⟨e3, e4⟩ | b1
      · have := cel_lt hP a1; rw [hq, e3, e4, ← hg, hP.1] at this; omega
      · exact hP.2.2 _ _ _ _ a1 b1 hq
theorem fv_nw {c n k : Nat} {t : FieldType} (hk : kty (kd c k) t = true) : fv g (nw σ c n) c (cn σ c) k = defaultValue t := by
  unfold fv rd
  generalize kd c k = q at hk ⊢
  match q, t, hk with
  | 0, .int, _ => simp [rdk, gI, nw, av, defaultValue]
  | 1, .boolean, _ => simp [rdk, gI, nw, av, defaultValue]
  | 2, .long, _ => simp [rdk, gJ, nw, av, defaultValue]
  | _ + 3, .object _, _ => simp [rdk, gP, nw, av, mk, defaultValue]
  | _ + 3, .array _, _ => simp [rdk, gP, nw, av, mk, defaultValue]
theorem S_new {o x c j : Nat} (hx : p.tables.exec = Jvm.exec) (hb : c0.code = cc) (hts : ∀ w ∈ GT, w.before args s = true) (hown : s.vm.findClass (oN o) = some m.cls) (hK : KK D E s) (hP : HP g D E σ H) (hS0 : va_S A H0 H locs) (hf : cL.lookup (o, x) = some (c, j)) (hg : sz σ = g c (cn σ c)) (hcells : cells + 1 ≤ R.cells) (hslots : slots + ((KD[c]?).getD []).length ≤ R.slots) (hd : decode cc pc = .ok (.new x, 3)) (kk : ∀ (H1 : Heap), HP g D E (nw σ c ((KD[c]?).getD []).length) H1 → va_S A H0 H1 locs → W p l e R s m args below meth c0 H1 locs (cells + 1) (slots + ((KD[c]?).getD []).length) Q (F0 m (pc + 3) ls (.ref (g c (cn σ c)) :: rest))) : W p l e R s m args below meth c0 H locs cells slots Q (F0 m pc ls rest) := by
  obtain ⟨h1, h2⟩ := cL_ok _ (look_mem hf)
  dsimp only at h1 h2
  obtain ⟨p1, p2, p3, p4, -⟩ := cp_ok c h1
  rw [← p4] at hslots kk
  have hKn := hK.1.1 c _ (vw_at h1)
  refine W.newcK hx hb hown (hts _ (GT_at h2 rfl)) (hts _ (GT_at p1 rfl)) (hts _ (GT_at p2 rfl)) rfl hd hcells hslots hKn.2.1 rfl fun H1 kC hkC e1 z1 o1 => ?_
  have hh : H.size = g c (cn σ c) := by rw [hP.1, hg]
  have := kk H1 (HP_new hP hg z1 o1 (Or.inl ⟨h1, ?_⟩)) ⟨Nat.le_trans hS0.1 (by omega), fun q a b => (o1 q (Nat.lt_of_lt_of_le a hS0.1)).trans (hS0.2.1 q a b), hS0.2.2⟩
  · rw [← hh] at this; exact this
  · rw [← hh]
    exact (u_born (tyF c) hts (lays_in h1) hKn hkC e1 (ty_ok c h1)).to (fun k hk => (fv_nw (kd_ok c h1 k hk)).symm)
theorem S_newa {c : Nat} {n : Int32} {t : ArrayType} (hx : p.tables.exec = Jvm.exec) (hb : c0.code = cc) (hts : ∀ w ∈ GT, w.before args s = true) (hK : KK D E s) (hP : HP g D E σ H) (hS0 : va_S A H0 H locs) (hc : 12 ≤ c ∧ c < 55) (hg : sz σ = g c (cn σ c)) (hn : ¬ n < 0) (hm : n.toNatClampNeg ≤ 65536) (ht : (t = .int ∧ kd c 0 = 0) ∨ (t = .long ∧ kd c 0 = 2)) (hcells : cells + 1 ≤ R.cells) (hslots : slots + n.toNatClampNeg ≤ R.slots) (hd : decode cc pc = .ok (.newarray t, 2)) (kk : ∀ (H1 : Heap), HP g D E (nw σ c n.toNatClampNeg) H1 → va_S A H0 H1 locs → W p l e R s m args below meth c0 H1 locs (cells + 1) (slots + n.toNatClampNeg) Q (F0 m (pc + 2) ls (.ref (g c (cn σ c)) :: rest))) : W p l e R s m args below meth c0 H locs cells slots Q (F0 m pc ls (.int n :: rest)) := by
  have hh : H.size = g c (cn σ c) := by rw [hP.1, hg]
  have hty : newarray.typeOf t = aT (ai c) ∧ kty (kd c 0) (aT (ai c)) = true ∧ componentBytes (newarray.typeOf t) ≤ 8 := by
    rcases ht with ⟨rfl, h⟩ | ⟨rfl, h⟩
    · rw [(ai_ok c hc.2 hc.1).2.1 h, h]; exact ⟨rfl, rfl, by decide⟩
    · rw [(ai_ok c hc.2 hc.1).2.2.1 h, h]; exact ⟨rfl, rfl, by decide⟩
  have harr : (Cond.arrayClass (newarray.typeOf t)).before args s = true := by
    rcases ht with ⟨rfl, h⟩ | ⟨rfl, h⟩
    · exact hts _ (GT_at arr_ok.1 rfl)
    · exact hts _ (GT_at arr_ok.2 rfl)
  refine va_newaK hx hb harr rfl hd rfl hn rfl (Nat.le_trans (Nat.mul_le_mul hm hty.2.2) (by decide)) hcells hslots hh fun H1 cA e1 z1 o1 hAr hNm => ?_
  have hcA : cA = E (ai c) := by
    have hra := (hK.1.2 _ _ (tyE_at (E := E) (ai_ok c hc.2 hc.1).1)).2
    rcases ht with ⟨rfl, h⟩ | ⟨rfl, h⟩
    · rw [(ai_ok c hc.2 hc.1).2.1 h] at hra ⊢
      exact Option.some.inj (hNm.symm.trans hra)
    · rw [(ai_ok c hc.2 hc.1).2.2.1 h] at hra ⊢
      exact Option.some.inj (hNm.symm.trans hra)
  refine kk H1 (HP_new hP hg (by rw [z1, hh]) (fun q hq => o1 q (by rw [← hh]; exact hq)) (Or.inr ⟨hc.1, hc.2, ?_⟩)) ⟨Nat.le_trans hS0.1 (by omega), fun q a b => (o1 q (by rw [← hh]; exact Nat.lt_of_lt_of_le a hS0.1)).trans (hS0.2.1 q a b), hS0.2.2⟩
  rw [e1, hcA]
  have hl : ln (nw σ c n.toNatClampNeg) c (cn σ c) = n.toNatClampNeg := by simp [ln, nw]
  rw [hl]
  congr 2
  funext k
  rw [fv_nw (t := aT (ai c)) (by rw [kd_arr hc.1]; exact hty.2.1), hty.1]
theorem S_anew {o x c j : Nat} {f : Nat} {n : Int32} (hx : p.tables.exec = Jvm.exec) (hb : c0.code = cc) (hts : ∀ w ∈ GT, w.before args s = true) (hown : s.vm.findClass (oN o) = some m.cls) (hK : KK D E s) (hP : HP g D E σ H) (hS0 : va_S A H0 H locs) (hc : 12 ≤ c ∧ c < 55) (hf : cL.lookup (o, x) = some (f, j)) (hkd : kd c 0 = f + 3) (hg : sz σ = g c (cn σ c)) (hn : ¬ n < 0) (hm : n.toNatClampNeg ≤ 65536) (hcells : cells + 1 ≤ R.cells) (hslots : slots + n.toNatClampNeg ≤ R.slots) (hd : decode cc pc = .ok (.anewarray x, 3)) (kk : ∀ (H1 : Heap), HP g D E (nw σ c n.toNatClampNeg) H1 → va_S A H0 H1 locs → W p l e R s m args below meth c0 H1 locs (cells + 1) (slots + n.toNatClampNeg) Q (F0 m (pc + 3) ls (.ref (g c (cn σ c)) :: rest))) : W p l e R s m args below meth c0 H locs cells slots Q (F0 m pc ls (.int n :: rest)) := by
  have hh : H.size = g c (cn σ c) := by rw [hP.1, hg]
  obtain ⟨h1, h2⟩ := cL_ok _ (look_mem hf)
  dsimp only at h1 h2
  obtain ⟨t0, t1, t2⟩ := (ai_ok c hc.2 hc.1).2.2.2.1 (by omega)
  rw [hkd, Nat.add_sub_cancel] at t1
  have hao : va_AO (cR f) s := by
    refine hK.2.2 _ ?_
    have h6 := (ai_ok c hc.2 hc.1).1
    generalize ai c = q at h6 t0 t1
    match q, h6, t0 with
    | 2, _, _ => have := FieldType.object.inj t1; rw [← this]; simp
    | 3, _, _ => have := FieldType.object.inj t1; rw [← this]; simp
    | 4, _, _ => have := FieldType.object.inj t1; rw [← this]; simp
    | 5, _, _ => have := FieldType.object.inj t1; rw [← this]; simp
  refine W.anew hx hb hown (hts _ (GT_at h2 rfl)) (va_AO.use hao) rfl hd rfl hn (Nat.le_trans (Nat.mul_le_mul_right 4 hm) (by decide)) hcells hslots fun cA kA comp f1 f2 f3 f4 => ?_
  generalize hH1 : H.push ({ cls := cA, slots := Array.replicate n.toNatClampNeg .null, vm := .none } : Cell) = H1
  have z1 : H1.size = H.size + 1 := by rw [← hH1, Array.size_push]
  have e1 : H1[H.size]? = some (arrV cA n.toNatClampNeg (fun _ => .null)) := by rw [← hH1, Array.getElem?_push_size, ← arrV_new]
  have o1 : ∀ q, q < H.size → H1[q]? = H[q]? := fun q hq => by rw [← hH1, Array.getElem?_push, if_neg (Nat.ne_of_lt hq)]
  have hcA : cA = E (ai c) := by
    have hra := (hK.1.2 _ _ (tyE_at (E := E) (ai_ok c hc.2 hc.1).1)).2
    rw [t1] at hra
    obtain ⟨_, _, _, _, _, k4⟩ := hra
    exact Option.some.inj (f1.symm.trans k4)
  have := kk H1 (HP_new hP hg z1 o1 (Or.inr ⟨hc.1, hc.2, ?_⟩)) ⟨Nat.le_trans hS0.1 (by omega), fun q a b => (o1 q (Nat.lt_of_lt_of_le a hS0.1)).trans (hS0.2.1 q a b), hS0.2.2⟩
  · rw [← hh] at this; exact this
  · rw [← hh, e1, hcA]
    have hl : ln (nw σ c n.toNatClampNeg) c (cn σ c) = n.toNatClampNeg := by simp [ln, nw]
    rw [hl]
    congr 2
    funext k
    rw [fv_nw (t := aT (ai c)) (by rw [kd_arr hc.1, hkd, t1]; rfl), t1]
    rfl
end Snd3
