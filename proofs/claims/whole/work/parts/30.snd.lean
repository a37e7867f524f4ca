/-! SOUNDNESS: what the abstract machine does, the machine does -/
def av (g : Nat → Nat → Nat) (v : Av) : Value := match v with
  | .inl x => .int x
  | .inr (.inl x) => .long x
  | .inr (.inr none) => .null
  | .inr (.inr (some q)) => .ref (g q.1 q.2)
def GT : List Cond := lw_tbl.filter goodWord
theorem GT_in {w : Cond} (h : w ∈ lw_tbl) (hg : goodWord w = true) : w ∈ GT := List.mem_filter.mpr ⟨h, hg⟩
theorem GT_at {w : Cond} {j : Nat} (h : lw_tbl[j]? = some w) (hg : goodWord w = true) : w ∈ GT := GT_in (List.mem_of_getElem? h) hg
def wsA (mi : Nat) : List Cond := .code (yN mi) (bC mi) (mx mi) (rT mi) :: GT
def isNst (w : Cond) : Bool := match w with
  | .methodLinkNest .. => true
  | _ => false
def NWs : List Cond := lw_tbl.filter isNst
def tyE (E : Nat → ClassId) : List (ClassId × FieldType) := [(E 0, aT 0), (E 1, aT 1), (E 2, aT 2), (E 3, aT 3), (E 4, aT 4), (E 5, aT 5)]
def KK (D : va_G) (E : Nat → ClassId) (U : State) : Prop := va_K D vwCl (tyE E) U ∧ (∀ w ∈ NWs, va_Nw w U) ∧ ∀ C ∈ [RX2, RX4, RX6, RX3], va_AO C U
def fv (g : Nat → Nat → Nat) (σ : Sg) (c i k : Nat) : Value := av g (rd σ c k i)
def cel (g : Nat → Nat → Nat) (D : va_G) (E : Nat → ClassId) (σ : Sg) (c i : Nat) (H : Heap) : Prop := (c < 12 ∧ t_OB (g c i) (D.1 c) (cF c) (D.2 c) H (fv g σ c i)) ∨ (12 ≤ c ∧ c < 55 ∧ H[g c i]? = some (arrV (E (ai c)) (ln σ c i) (fv g σ c i)))
def HP (g : Nat → Nat → Nat) (D : va_G) (E : Nat → ClassId) (σ : Sg) (H : Heap) : Prop := H.size = sz σ ∧ (∀ c i, i < cn σ c → cel g D E σ c i H) ∧ ∀ c i c' i', i < cn σ c → i' < cn σ c' → g c i = g c' i' → c = c' ∧ i = i'
def Qx (g : Nat → Nat → Nat) (D : va_G) (E : Nat → ClassId) (A : Nat → Prop) (X : Sg × Option Av) : Array Value → State → Outcome → State → Prop := fun _ st oc t => oc = .returned (X.2.map (av g)) ∧ HP g D E X.1 t.heap ∧ va_F A st t
theorem isNst_ok {w : Cond} {s U : State} (h : isNst w = true) (hW : s.WarmedH U.vm) (hZ : va_Nw w s) : va_Nw w U := by
  cases w <;> first | (exact va_Nw.warmM hW hZ) | (simp [isNst] at h)
theorem KK.moved {D : va_G} {E : Nat → ClassId} {s U : State} (hW : s.WarmedH U.vm) (h : KK D E s) : KK D E U := ⟨va_K.moved hW.alike h.1, fun w hw => isNst_ok (List.mem_filter.mp hw).2 hW (h.2.1 w hw), fun C hC => (h.2.2 C hC).moved hW.alike⟩
theorem isNst_tab {w : Cond} (h : isNst w = true) : w.onTables = true := by
  cases w <;> first | rfl | (simp [isNst] at h)
theorem KK.same {D : va_G} {E : Nat → ClassId} {s U : State} (hv : s.vm = U.vm) (h : KK D E s) : KK D E U := ⟨va_K.moved (by rw [hv]; exact Vm.Alike.refl U.vm) h.1, fun w hw => va_Nw.same (isNst_tab (List.mem_filter.mp hw).2) hv (h.2.1 w hw), fun C hC => (h.2.2 C hC).moved (by rw [hv]; exact Vm.Alike.refl U.vm)⟩
-- locals
def lvr (g : Nat → Nat → Nat) (ls : Array Slot) (nL : Nat) (lo : Lo) : Prop := ls.size = nL ∧ lv_wf ls ∧ lo.length = nL ∧ ∀ (i : Nat) (v : Av), lo[i]? = some (some v) → ls[i]? = some (Slot.val (av g v))
def asl (g : Nat → Nat → Nat) (lo : Lo) : List (Nat × Value) := (List.range lo.length).filterMap (fun i => (lg lo i).map (fun v => (i, av g v)))
theorem lg_some {lo : Lo} {i : Nat} {v : Av} : lg lo i = some v ↔ lo[i]? = some (some v) := by
  unfold lg
  split
  · rename_i h; rw [h]; simp
  · rename_i h
    constructor
    · intro q; cases q
    · intro q; exact absurd q (h v)
theorem lg_lt {lo : Lo} {i : Nat} {v : Av} (h : lg lo i = some v) : i < lo.length := by
  have := lg_some.mp h
  exact (List.getElem?_eq_some_iff.mp this).1
theorem asl_mem {g : Nat → Nat → Nat} {lo : Lo} {q : Nat × Value} : q ∈ asl g lo ↔ ∃ v, lo[q.1]? = some (some v) ∧ q.2 = av g v := by
  unfold asl
  rw [List.mem_filterMap]
  constructor
  · rintro ⟨i, -, h⟩
    obtain ⟨v, h1, h2⟩ := Option.map_eq_some_iff.mp h
    subst h2
    exact ⟨v, lg_some.mp h1, rfl⟩
  · rintro ⟨v, h1, h2⟩
    refine ⟨q.1, List.mem_range.mpr (lg_lt (lg_some.mpr h1)), ?_⟩
    rw [lg_some.mpr h1]
    simp [← h2]
theorem lvr.has {g : Nat → Nat → Nat} {ls : Array Slot} {nL : Nat} {lo : Lo} (h : lvr g ls nL lo) : lv_has ls nL (asl g lo) := by
  refine ⟨h.1, h.2.1, fun q hq => ?_⟩
  obtain ⟨v, h1, h2⟩ := asl_mem.mp hq
  rw [h2]
  exact h.2.2.2 _ _ h1
theorem kl_some {o : Option Av} {w : Av} (h : kl o = some w) : o = some w ∧ isJ w = false := by
  unfold kl at h
  split at h
  · cases h
  · rename_i hn
    subst h
    refine ⟨rfl, ?_⟩
    unfold isJ
    split
    · rename_i x
      exact absurd rfl (hn x)
    · rfl
theorem s1_spec : ∀ {lo lo' : Lo} {i : Nat} {v : Av}, s1 lo i v = some lo' → lo'.length = lo.length ∧ i < lo.length ∧ ∀ j w, lo'[j]? = some (some w) → (j = i ∧ w = v) ∨ (j ≠ i ∧ lo[j]? = some (some w) ∧ ¬ (j + 1 = i ∧ isJ w = true))
  | a :: r, lo', 0, v, h => by
    simp only [s1, Option.some.injEq] at h
    subst h
    refine ⟨rfl, by simp, fun j w hj => ?_⟩
    cases j with
    | zero => left; simp at hj; exact ⟨rfl, hj.symm⟩
    | succ j => right; exact ⟨by omega, by simpa using hj, by omega⟩
  | [a], lo', 1, v, h => by simp [s1] at h
  | a :: b :: r, lo', 1, v, h => by
    simp only [s1, Option.some.injEq] at h
    subst h
    refine ⟨rfl, by simp, fun j w hj => ?_⟩
    match j with
    | 0 =>
      right
      have h2 : kl a = some w := by simpa using hj
      obtain ⟨e1, e2⟩ := kl_some h2
      exact ⟨by omega, by simp [e1], by simp [e2]⟩
    | 1 => left; simp at hj; exact ⟨rfl, hj.symm⟩
    | j + 2 => right; exact ⟨by omega, by simpa using hj, by omega⟩
  | a :: r, lo', n + 2, v, h => by
    simp only [s1, Option.map_eq_some_iff] at h
    obtain ⟨x, hx, rfl⟩ := h
    obtain ⟨h1, h2, h3⟩ := s1_spec hx
    refine ⟨by simp [h1], by simp; omega, fun j w hj => ?_⟩
    cases j with
    | zero => right; exact ⟨by omega, by simpa using hj, by omega⟩
    | succ j =>
      rcases h3 j w (by simpa using hj) with ⟨e1, e2⟩ | ⟨e1, e2, e3⟩
      · left; exact ⟨by omega, e2⟩
      · right; exact ⟨by omega, by simpa using e2, fun q => e3 ⟨by omega, q.2⟩⟩
  | [], lo', i, v, h => by cases i <;> simp [s1] at h
theorem s2_spec : ∀ {lo lo' : Lo} {i : Nat} {v : Av}, s2 lo i v = some lo' → lo'.length = lo.length ∧ i + 1 < lo.length ∧ ∀ j w, lo'[j]? = some (some w) → (j = i ∧ w = v) ∨ (j ≠ i ∧ j ≠ i + 1 ∧ lo[j]? = some (some w) ∧ ¬ (j + 1 = i ∧ isJ w = true))
  | [a], lo', 0, v, h => by simp [s2] at h
  | a :: b :: r, lo', 0, v, h => by
    simp only [s2, Option.some.injEq] at h
    subst h
    refine ⟨rfl, by simp, fun j w hj => ?_⟩
    match j with
    | 0 => left; simp at hj; exact ⟨rfl, hj.symm⟩
    | 1 => simp at hj
    | j + 2 => right; exact ⟨by omega, by omega, by simpa using hj, by omega⟩
  | [a], lo', 1, v, h => by simp [s2] at h
  | [a, b], lo', 1, v, h => by simp [s2] at h
  | a :: b :: d :: r, lo', 1, v, h => by
    simp only [s2, Option.some.injEq] at h
    subst h
    refine ⟨rfl, by simp, fun j w hj => ?_⟩
    match j with
    | 0 =>
      right
      have h2 : kl a = some w := by simpa using hj
      obtain ⟨e1, e2⟩ := kl_some h2
      exact ⟨by omega, by omega, by simp [e1], by simp [e2]⟩
    | 1 => left; simp at hj; exact ⟨rfl, hj.symm⟩
    | 2 => simp at hj
    | j + 3 => right; exact ⟨by omega, by omega, by simpa using hj, by omega⟩
  | a :: r, lo', n + 2, v, h => by
    simp only [s2, Option.map_eq_some_iff] at h
    obtain ⟨x, hx, rfl⟩ := h
    obtain ⟨h1, h2, h3⟩ := s2_spec hx
    refine ⟨by simp [h1], by simp; omega, fun j w hj => ?_⟩
    cases j with
    | zero => right; exact ⟨by omega, by omega, by simpa using hj, by omega⟩
    | succ j =>
      rcases h3 j w (by simpa using hj) with ⟨e1, e2⟩ | ⟨e1, e2, e3, e4⟩
      · left; exact ⟨by omega, e2⟩
      · right; exact ⟨by omega, by omega, by simpa using e3, fun q => e4 ⟨by omega, q.2⟩⟩
  | [], lo', i, v, h => by cases i <;> simp [s2] at h
theorem av_cat (g : Nat → Nat → Nat) (v : Av) : (av g v).category = if isJ v then 2 else 1 := by
  rcases v with x | x | x
  · rfl
  · rfl
  · cases x <;> rfl
theorem lvr_s1 {g : Nat → Nat → Nat} {ls' : Array Slot} {nL i : Nat} {lo lo' : Lo} {v : Av} (hl : lo.length = nL) (hs : s1 lo i v = some lo') (h : lv_has ls' nL ((i, av g v) :: (asl g lo).filter (fun q => !(q.1 == i) && !(q.1 + 1 == i && q.2.category == 2)))) : lvr g ls' nL lo' := by
  obtain ⟨h1, h2, h3⟩ := s1_spec hs
  refine ⟨h.1, h.2.1, h1.trans hl, fun j w hj => ?_⟩
  rcases h3 j w hj with ⟨rfl, rfl⟩ | ⟨e1, e2, e3⟩
  · exact h.2.2 _ List.mem_cons_self
  · refine h.2.2 (j, av g w) (List.mem_cons_of_mem _ (List.mem_filter.mpr ⟨asl_mem.mpr ⟨w, e2, rfl⟩, ?_⟩))
    simp only [av_cat]
    by_cases q : isJ w = true
    · have : ¬ j + 1 = i := fun z => e3 ⟨z, q⟩
      simp [e1, this]
    · simp [e1, q]
theorem lvr_s2 {g : Nat → Nat → Nat} {ls' : Array Slot} {nL i : Nat} {lo lo' : Lo} {v : Av} (hl : lo.length = nL) (hs : s2 lo i v = some lo') (h : lv_has ls' nL ((i, av g v) :: (asl g lo).filter (fun q => !(q.1 == i) && (!(q.1 == i + 1) && !(q.1 + 1 == i && q.2.category == 2))))) : lvr g ls' nL lo' := by
  obtain ⟨h1, h2, h3⟩ := s2_spec hs
  refine ⟨h.1, h.2.1, h1.trans hl, fun j w hj => ?_⟩
  rcases h3 j w hj with ⟨rfl, rfl⟩ | ⟨e1, e2, e3, e4⟩
  · exact h.2.2 _ List.mem_cons_self
  · refine h.2.2 (j, av g w) (List.mem_cons_of_mem _ (List.mem_filter.mpr ⟨asl_mem.mpr ⟨w, e3, rfl⟩, ?_⟩))
    simp only [av_cat]
    by_cases q : isJ w = true
    · have : ¬ j + 1 = i := fun z => e4 ⟨z, q⟩
      simp [e1, e2, this]
    · simp [e1, e2, q]
-- pure stack operations
theorem bi_inv {f : Int32 → Int32 → Option Int32} {st st' : List Av} (h : bi f st = some st') : ∃ x y r z, st = .inl y :: .inl x :: r ∧ f x y = some z ∧ st' = .inl z :: r := by
  unfold bi at h
  split at h
  · rename_i y x r
    obtain ⟨z, h1, h2⟩ := Option.map_eq_some_iff.mp h
    exact ⟨x, y, r, z, rfl, h1, h2.symm⟩
  · cases h
theorem bj_inv {f : Int64 → Int64 → Option Int64} {st st' : List Av} (h : bj f st = some st') : ∃ x y r z, st = .inr (.inl y) :: .inr (.inl x) :: r ∧ f x y = some z ∧ st' = .inr (.inl z) :: r := by
  unfold bj at h
  split at h
  · rename_i y x r
    obtain ⟨z, h1, h2⟩ := Option.map_eq_some_iff.mp h
    exact ⟨x, y, r, z, rfl, h1, h2.symm⟩
  · cases h
theorem bs_inv {f : Int64 → Int32 → Int64} {st st' : List Av} (h : bs f st = some st') : ∃ x y r, st = .inl y :: .inr (.inl x) :: r ∧ st' = .inr (.inl (f x y)) :: r := by
  unfold bs at h
  split at h
  · rename_i y x r
    cases h
    exact ⟨x, y, r, rfl, rfl⟩
  · cases h
section Snd1
variable {p : Program} {l : Launch} {e : Env} {R : Room} {s : State} {m : MethodId} {args : Array Value} {below : List Frame} {meth : Method} {c : Code} {H : Heap} {locs : List Loc} {cells slots : Nat} {Q : State → Prop} {cc : ByteArray} {pc : Nat} {ls : Array Slot} {g : Nat → Nat → Nat}
theorem S_pu {i : Instr} {st st' : List Av} (hx : p.tables.exec = Jvm.exec) (hb : c.code = cc) (hp : pu i st = some st') (hd : decode cc pc = .ok (i, il i)) (k : W p l e R s m args below meth c H locs cells slots Q (F0 m (pc + il i) ls (st'.map (av g)))) : W p l e R s m args below meth c H locs cells slots Q (F0 m pc ls (st.map (av g))) := by
  cases i with
  | iconst n => simp only [pu, Option.some.injEq] at hp; subst hp; exact lv_iconst hx hb hd rfl k
  | bipush n => simp only [pu, Option.some.injEq] at hp; subst hp; exact lv_bipush hx hb hd rfl k
  | sipush n => simp only [pu, Option.some.injEq] at hp; subst hp; exact lv_sipush hx hb hd rfl k
  | lconst n => simp only [pu, Option.some.injEq] at hp; subst hp; exact lv_lconst hx hb hd rfl k
  | aconst_null => simp only [pu, Option.some.injEq] at hp; subst hp; exact lv_null hx hb hd k
  | iadd => obtain ⟨x, y, r, z, rfl, hf, rfl⟩ := bi_inv hp; cases hf; exact lv_iadd hx hb hd k
  | isub => obtain ⟨x, y, r, z, rfl, hf, rfl⟩ := bi_inv hp; cases hf; exact lv_isub hx hb hd k
  | imul => obtain ⟨x, y, r, z, rfl, hf, rfl⟩ := bi_inv hp; cases hf; exact lv_imul hx hb hd k
  | iand => obtain ⟨x, y, r, z, rfl, hf, rfl⟩ := bi_inv hp; cases hf; exact lv_iand hx hb hd k
  | idiv =>
    obtain ⟨x, y, r, z, rfl, hf, rfl⟩ := bi_inv hp
    split at hf
    · cases hf
    · rename_i hy; cases hf; exact lv_idiv hx hb hd hy k
  | irem =>
    obtain ⟨x, y, r, z, rfl, hf, rfl⟩ := bi_inv hp
    split at hf
    · cases hf
    · rename_i hy; cases hf; exact lv_irem hx hb hd hy k
  | ladd => obtain ⟨x, y, r, z, rfl, hf, rfl⟩ := bj_inv hp; cases hf; exact lv_ladd hx hb hd k
  | lsub => obtain ⟨x, y, r, z, rfl, hf, rfl⟩ := bj_inv hp; cases hf; exact lv_lsub hx hb hd k
  | lmul => obtain ⟨x, y, r, z, rfl, hf, rfl⟩ := bj_inv hp; cases hf; exact lv_lmul hx hb hd k
  | land => obtain ⟨x, y, r, z, rfl, hf, rfl⟩ := bj_inv hp; cases hf; exact lv_land hx hb hd k
  | lor => obtain ⟨x, y, r, z, rfl, hf, rfl⟩ := bj_inv hp; cases hf; exact lv_lor hx hb hd k
  | lxor => obtain ⟨x, y, r, z, rfl, hf, rfl⟩ := bj_inv hp; cases hf; exact lv_lxor hx hb hd k
  | ldiv =>
    obtain ⟨x, y, r, z, rfl, hf, rfl⟩ := bj_inv hp
    split at hf
    · cases hf
    · rename_i hy; cases hf; exact lv_ldiv hx hb hd hy k
  | lshl => obtain ⟨x, y, r, rfl, rfl⟩ := bs_inv hp; exact lv_lshl hx hb hd rfl k
  | lshr => obtain ⟨x, y, r, rfl, rfl⟩ := bs_inv hp; exact lv_lshr hx hb hd rfl k
  | lushr => obtain ⟨x, y, r, rfl, rfl⟩ := bs_inv hp; exact lv_lushr hx hb hd rfl k
  | lneg =>
    simp only [pu] at hp
    split at hp
    · cases hp; exact lv_lneg hx hb hd k
    · cases hp
  | i2l =>
    simp only [pu] at hp
    split at hp
    · cases hp; exact lv_i2l hx hb hd rfl k
    · cases hp
  | l2i =>
    simp only [pu] at hp
    split at hp
    · cases hp; exact lv_l2i hx hb hd rfl k
    · cases hp
  | lcmp =>
    simp only [pu] at hp
    split at hp
    · cases hp; exact W.lcmp hx hb hd k
    · cases hp
  | dup =>
    simp only [pu] at hp
    split at hp
    · split at hp
      · cases hp
      · rename_i hj; cases hp; exact lv_dup hx hb hd (by rw [av_cat, if_neg hj]) k
    · cases hp
  | pop =>
    simp only [pu] at hp
    split at hp
    · split at hp
      · cases hp
      · rename_i hj; cases hp; exact lv_pop hx hb hd (by rw [av_cat, if_neg hj]) k
    · cases hp
  | dup2 =>
    simp only [pu] at hp
    split at hp
    · split at hp
      · rename_i hj; cases hp; exact lv_dup2_2 hx hb hd (by rw [av_cat, if_pos hj]) k
      · rename_i hj
        split at hp
        · cases hp
        · rename_i hj2; cases hp; exact lv_dup2_11 hx hb hd (by rw [av_cat, if_neg hj]) (by rw [av_cat, if_neg hj2]) k
    · split at hp
      · rename_i hj; cases hp; exact lv_dup2_2 hx hb hd (by rw [av_cat, if_pos hj]) k
      · cases hp
    · cases hp
  | pop2 =>
    simp only [pu] at hp
    split at hp
    · split at hp
      · rename_i hj; cases hp; exact lv_pop2_2 hx hb hd (by rw [av_cat, if_pos hj]) k
      · cases hp
    · cases hp
  | _ => simp [pu] at hp
end Snd1
