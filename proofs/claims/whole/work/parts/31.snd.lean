/-! soundness: locals, jumps, memory -/
section Snd2
variable {p : Program} {l : Launch} {e : Env} {R : Room} {s : State} {m : MethodId} {args : Array Value} {below : List Frame} {meth : Method} {c : Code} {H : Heap} {locs : List Loc} {cells slots : Nat} {Q : State → Prop} {cc : ByteArray} {pc : Nat} {ls : Array Slot} {g : Nat → Nat → Nat}
theorem jp_inv {pc' : Nat} {off : Int} {lo lo' : Lo} {st st' : List Av} {σ τ : Sg} (h : jp pc off lo st σ = some (.inl (pc', lo', st', τ))) : (pc : Int) + off = (pc' : Int) ∧ lo' = lo ∧ st' = st ∧ τ = σ := by
  unfold jp at h
  split at h
  · cases h
  · rename_i hn
    simp only [go, Option.some.injEq, Sum.inl.injEq, Prod.mk.injEq] at h
    obtain ⟨h1, h2, h3, h4⟩ := h
    exact ⟨by omega, h2.symm, h3.symm, h4.symm⟩
theorem brn_inv {b : Bool} {pc' : Nat} {off : Int} {lo lo' : Lo} {st st' : List Av} {σ τ : Sg} (h : brn b pc off lo st σ = some (.inl (pc', lo', st', τ))) : (∃ t : Nat, (pc : Int) + off = (t : Int) ∧ pc' = if b = true then t else pc + 3) ∧ lo' = lo ∧ st' = st ∧ τ = σ := by
  unfold brn at h
  split at h
  · cases h
  · rename_i hn
    split at h <;> rename_i hb <;> simp only [go, Option.some.injEq, Sum.inl.injEq, Prod.mk.injEq] at h <;> obtain ⟨h1, h2, h3, h4⟩ := h
    · exact ⟨⟨((pc : Int) + off).toNat, by omega, by rw [if_pos hb]; exact h1.symm⟩, h2.symm, h3.symm, h4.symm⟩
    · exact ⟨⟨((pc : Int) + off).toNat, by omega, by rw [if_neg hb]; exact h1.symm⟩, h2.symm, h3.symm, h4.symm⟩
theorem S_if {q : ClassFile.Cond} {off : Int} {t : Nat} {x : Int32} {r : List Value} (hx : p.tables.exec = Jvm.exec) (hb : c.code = cc) (hd : decode cc pc = .ok (.ifCond q off, 3)) (ht : (pc : Int) + off = (t : Int)) (k : W p l e R s m args below meth c H locs cells slots Q (F0 m (if icm q x 0 = true then t else pc + 3) ls r)) : W p l e R s m args below meth c H locs cells slots Q (F0 m pc ls (.int x :: r)) := by
  cases q
  · exact lv_if_eq hx hb hd ht (fun z => by simpa [icm, z] using k) (fun z => by simpa [icm, z] using k)
  · exact lv_if_ne hx hb hd ht (fun z => by simpa [icm, z] using k) (fun z => by simpa [icm, z] using k)
  · exact lv_if_lt hx hb hd ht (fun z => by simpa only [icm, decide_eq_true_eq, if_pos z] using k) (fun z => by simpa only [icm, decide_eq_true_eq, if_neg z] using k)
  · exact lv_if_ge hx hb hd ht (fun z => by simpa only [icm, decide_eq_true_eq, if_pos z] using k) (fun z => by simpa only [icm, decide_eq_true_eq, if_neg z] using k)
  · exact lv_if_gt hx hb hd ht (fun z => by simpa only [icm, decide_eq_true_eq, if_pos z] using k) (fun z => by simpa only [icm, decide_eq_true_eq, if_neg z] using k)
  · exact lv_if_le hx hb hd ht (fun z => by simpa only [icm, decide_eq_true_eq, if_pos z] using k) (fun z => by simpa only [icm, decide_eq_true_eq, if_neg z] using k)
theorem S_icmp {q : ClassFile.Cond} {off : Int} {t : Nat} {x y : Int32} {r : List Value} (hx : p.tables.exec = Jvm.exec) (hb : c.code = cc) (hd : decode cc pc = .ok (.if_icmp q off, 3)) (ht : (pc : Int) + off = (t : Int)) (k : W p l e R s m args below meth c H locs cells slots Q (F0 m (if icm q x y = true then t else pc + 3) ls r)) : W p l e R s m args below meth c H locs cells slots Q (F0 m pc ls (.int y :: .int x :: r)) := by
  cases q
  · exact lv_icmp_eq hx hb hd ht (fun z => by simpa [icm, z] using k) (fun z => by simpa [icm, z] using k)
  · exact lv_icmp_ne hx hb hd ht (fun z => by simpa [icm, z] using k) (fun z => by simpa [icm, z] using k)
  · exact lv_icmp_lt hx hb hd ht (fun z => by simpa only [icm, decide_eq_true_eq, if_pos z] using k) (fun z => by simpa only [icm, decide_eq_true_eq, if_neg z] using k)
  · exact lv_icmp_ge hx hb hd ht (fun z => by simpa only [icm, decide_eq_true_eq, if_pos z] using k) (fun z => by simpa only [icm, decide_eq_true_eq, if_neg z] using k)
  · exact lv_icmp_gt hx hb hd ht (fun z => by simpa only [icm, decide_eq_true_eq, if_pos z] using k) (fun z => by simpa only [icm, decide_eq_true_eq, if_neg z] using k)
  · exact lv_icmp_le hx hb hd ht (fun z => by simpa only [icm, decide_eq_true_eq, if_pos z] using k) (fun z => by simpa only [icm, decide_eq_true_eq, if_neg z] using k)
theorem S_null {off : Int} {t : Nat} {x : Option (Nat × Nat)} {r : List Value} (hx : p.tables.exec = Jvm.exec) (hb : c.code = cc) (hd : decode cc pc = .ok (.ifnull off, 3)) (ht : (pc : Int) + off = (t : Int)) (k : W p l e R s m args below meth c H locs cells slots Q (F0 m (if decide (x = none) = true then t else pc + 3) ls r)) : W p l e R s m args below meth c H locs cells slots Q (F0 m pc ls (av g (.inr (.inr x)) :: r)) := by
  cases x with
  | none => exact lv_ifnullN hx hb hd ht k
  | some q => exact lv_ifnull hx hb hd k
theorem S_nonnull {off : Int} {t : Nat} {x : Option (Nat × Nat)} {r : List Value} (hx : p.tables.exec = Jvm.exec) (hb : c.code = cc) (hd : decode cc pc = .ok (.ifnonnull off, 3)) (ht : (pc : Int) + off = (t : Int)) (k : W p l e R s m args below meth c H locs cells slots Q (F0 m (if (!decide (x = none)) = true then t else pc + 3) ls r)) : W p l e R s m args below meth c H locs cells slots Q (F0 m pc ls (av g (.inr (.inr x)) :: r)) := by
  cases x with
  | none => exact lv_ifnonnullN hx hb hd k
  | some q => exact lv_ifnonnull hx hb hd ht k
theorem swo_look (ps : List (Int × Int)) (d : Int) (x : Int32) : Op.lookupswitch.offset ps d x.toInt = swo ps d x := by
  induction ps with
  | nil => rfl
  | cons a r ih =>
    obtain ⟨a, o⟩ := a
    rw [Op.lookupswitch.offset_cons, swo, ih]
    by_cases h : x.toInt = a
    · rw [if_pos h, if_pos h.symm]
    · rw [if_neg h, if_neg (fun q => h q.symm)]
theorem swo_tbl (d : Int) (x : Int32) : ∀ (os : List Int) (l : Int), ((x.toInt < l ∨ l + os.length - 1 < x.toInt) ∧ swo (tbl l os) d x = d) ∨ (¬ x.toInt < l ∧ ¬ l + os.length - 1 < x.toInt ∧ os[(x.toInt - l).toNat]? = some (swo (tbl l os) d x))
  | [], l => by left; exact ⟨by simp; omega, rfl⟩
  | o :: r, l => by
    simp only [tbl, swo, List.length_cons]
    by_cases h : x.toInt = l
    · right
      rw [if_pos h, h]
      refine ⟨by omega, by omega, by simp⟩
    · rw [if_neg h]
      rcases swo_tbl d x r (l + 1) with ⟨h1, h2⟩ | ⟨h1, h2, h3⟩
      · left; exact ⟨by omega, h2⟩
      · right
        refine ⟨by omega, by omega, ?_⟩
        rw [show (x.toInt - l).toNat = (x.toInt - (l + 1)).toNat + 1 by omega, List.getElem?_cons_succ]
        exact h3
theorem S_table {d lo hi : Int} {offs : Array Int} {len t : Nat} {x : Int32} {r : List Value} (hx : p.tables.exec = Jvm.exec) (hb : c.code = cc) (hd : decode cc pc = .ok (.tableswitch d lo hi offs, len)) (hh : hi = lo + offs.size - 1) (ht : (pc : Int) + swo (tbl lo offs.toList) d x = (t : Int)) (k : W p l e R s m args below meth c H locs cells slots Q (F0 m t ls r)) : W p l e R s m args below meth c H locs cells slots Q (F0 m pc ls (.int x :: r)) := by
  rcases swo_tbl d x offs.toList lo with ⟨h1, h2⟩ | ⟨h1, h2, h3⟩
  · rw [h2] at ht
    exact lv_tableOut hx hb hd (by rw [hh]; simpa using h1) ht k
  · exact lv_tableIn hx hb hd h1 (by rw [hh]; simpa using h2) (by rw [← Array.getElem?_toList]; exact h3) ht k
end Snd2
-- memory
theorem cel_obj {g : Nat → Nat → Nat} {D : va_G} {E : Nat → ClassId} {σ : Sg} {H : Heap} {c i : Nat} (h : HP g D E σ H) (hi : i < cn σ c) (hc : c < 12) : t_OB (g c i) (D.1 c) (cF c) (D.2 c) H (fv g σ c i) := by
  rcases h.2.1 c i hi with h | h
  · exact h.2
  · omega
theorem cel_arr {g : Nat → Nat → Nat} {D : va_G} {E : Nat → ClassId} {σ : Sg} {H : Heap} {c i : Nat} (h : HP g D E σ H) (hi : i < cn σ c) (hc : 12 ≤ c) : H[g c i]? = some (arrV (E (ai c)) (ln σ c i) (fv g σ c i)) := by
  rcases h.2.1 c i hi with h | h
  · omega
  · exact h.2.2
theorem cel_lt {g : Nat → Nat → Nat} {D : va_G} {E : Nat → ClassId} {σ : Sg} {H : Heap} {c i : Nat} (h : HP g D E σ H) (hi : i < cn σ c) : g c i < H.size := by
  rcases h.2.1 c i hi with ⟨-, cell, h, -⟩ | ⟨-, -, h⟩ <;> exact (Array.getElem?_eq_some_iff.mp h).1
theorem cel_kept {g : Nat → Nat → Nat} {D : va_G} {E : Nat → ClassId} {σ τ : Sg} {H H1 : Heap} {c i : Nat} (h : cel g D E σ c i H) (hq : H1[g c i]? = H[g c i]?) (hf : ∀ k, fv g τ c i k = fv g σ c i k) (hl : ln τ c i = ln σ c i) : cel g D E τ c i H1 := by
  have hf' : fv g τ c i = fv g σ c i := funext hf
  rcases h with ⟨h1, h2⟩ | ⟨h1, h2, h3⟩
  · exact Or.inl ⟨h1, by rw [hf']; exact h2.kept hq⟩
  · exact Or.inr ⟨h1, h2, by rw [hf', hl, hq]; exact h3⟩
/-- one cell is written -/
theorem HP_put {g : Nat → Nat → Nat} {D : va_G} {E : Nat → ClassId} {σ τ : Sg} {H H1 : Heap} {c i : Nat} (h : HP g D E σ H) (hi : i < cn σ c) (hn : τ.2.2.2 = σ.2.2.2) (hz : H1.size = H.size) (ho : ∀ q, q ≠ g c i → H1[q]? = H[q]?) (hc : cel g D E τ c i H1) (hf : ∀ c' i' k, ¬ (c' = c ∧ i' = i) → rd τ c' k i' = rd σ c' k i') : HP g D E τ H1 := by
  have hcn : ∀ q, cn τ q = cn σ q := fun q => by unfold cn; rw [hn]
  have hsz : sz τ = sz σ := by unfold sz; rw [hn]
  refine ⟨by rw [hz, hsz]; exact h.1, fun c' i' hi' => ?_, fun c1 i1 c2 i2 h1 h2 => ?_⟩
  · rw [hcn] at hi'
    by_cases hq : c' = c ∧ i' = i
    · obtain ⟨rfl, rfl⟩ := hq; exact hc
    · refine cel_kept (h.2.1 c' i' hi') (ho _ fun e => hq (h.2.2 _ _ _ _ hi' hi e)) (fun k => ?_) (by unfold ln; rw [hn])
      unfold fv; rw [hf c' i' k hq]
  · rw [hcn] at h1 h2; exact h.2.2 _ _ _ _ h1 h2
theorem rd_sI {σ : Sg} {c k i c' k' i' : Nat} {v : Int32} (h : ¬ (c' = c ∧ k' = k ∧ i' = i)) : rd (sI σ c k i v) c' k' i' = rd σ c' k' i' := by
  unfold rd rdk; split <;> simp [gI, gJ, gP, sI, h]
theorem rd_sJ {σ : Sg} {c k i c' k' i' : Nat} {v : Int64} (h : ¬ (c' = c ∧ k' = k ∧ i' = i)) : rd (sJ σ c k i v) c' k' i' = rd σ c' k' i' := by
  unfold rd rdk; split <;> simp [gI, gJ, gP, sJ, h]
theorem rd_sP {σ : Sg} {c k i c' k' i' : Nat} {v : Option Nat} (h : ¬ (c' = c ∧ k' = k ∧ i' = i)) : rd (sP σ c k i v) c' k' i' = rd σ c' k' i' := by
  unfold rd rdk; split <;> simp [gI, gJ, gP, sP, h]
/-- what a write does, read back -/
theorem wrk_spec {σ τ : Sg} {q c k i : Nat} {v : Av} (hq : kd c k = q) (h : wrk σ q c k i v = some τ) : τ.2.2.2 = σ.2.2.2 ∧ (∀ c' k' i', ¬ (c' = c ∧ k' = k ∧ i' = i) → rd τ c' k' i' = rd σ c' k' i') ∧ rd τ c k i = v ∧ (q = 1 → v = .inl 0 ∨ v = .inl 1) := by
  unfold wrk at h
  split at h
  · cases h; exact ⟨rfl, fun _ _ _ z => rd_sI z, by simp [rd, hq, rdk, gI, sI], by omega⟩
  · split at h
    · rename_i hx; cases h
      exact ⟨rfl, fun _ _ _ z => rd_sI z, by simp [rd, hq, rdk, gI, sI], fun _ => by rcases hx with rfl | rfl <;> simp⟩
    · cases h
  · cases h; exact ⟨rfl, fun _ _ _ z => rd_sJ z, by simp [rd, hq, rdk, gJ, sJ], by omega⟩
  · cases h; exact ⟨rfl, fun _ _ _ z => rd_sP z, by simp [rd, hq, rdk, gP, sP, mk], by omega⟩
  · split at h
    · rename_i hx; cases h
      exact ⟨rfl, fun _ _ _ z => rd_sP z, by subst hx; simp [rd, hq, rdk, gP, sP, mk], by omega⟩
    · cases h
  · cases h
theorem rdk_fits {g : Nat → Nat → Nat} {q : Nat} {t : FieldType} {v : Av} {σ τ : Sg} {c k i : Nat} (hk : kty q t = true) (h : wrk σ q c k i v = some τ) : narrow t (av g v) = av g v ∧ fits t (av g v) = true := by
  unfold wrk at h
  split at h
  · cases t <;> simp [kty] at hk; exact ⟨rfl, rfl⟩
  · split at h
    · rename_i hx
      cases t <;> simp [kty] at hk
      rcases hx with rfl | rfl <;> exact ⟨rfl, rfl⟩
    · cases h
  · cases t <;> simp [kty] at hk; exact ⟨rfl, rfl⟩
  · cases t <;> simp [kty] at hk <;> exact ⟨rfl, rfl⟩
  · cases t <;> simp [kty] at hk <;> exact ⟨rfl, rfl⟩
  · cases h
