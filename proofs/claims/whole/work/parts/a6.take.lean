/-! a frame takes a page -/
section Tak1
variable {g : Nat → Nat → Nat} {s t u : Sg} {X : Sg × Option Av} {nf B : Nat} {Q : List Nat}
/-- the reference's frame for block b of job j, as it comes -/
def cmR (t : Sg) (f j : Nat) (b : Int32) : Sg := comF (sI (sI t 43 f 0 (nI j)) 44 f 0 b) f
theorem cm_42 {f j x : Nat} {b : Int32} : gI (cmR t f j b) 42 x 0 = if x = f then 1 else gI t 42 x 0 := by simp [cmR, comF, MM]
theorem cm_43 {f j x : Nat} {b : Int32} : gI (cmR t f j b) 43 x 0 = if x = f then nI j else gI t 43 x 0 := by simp [cmR, comF, MM]
theorem cm_44 {f j x : Nat} {b : Int32} : gI (cmR t f j b) 44 x 0 = if x = f then b else gI t 44 x 0 := by simp [cmR, comF, MM]
theorem ftk_LC {f k : Nat} {v : Int32} (h : LC s nf) : LC (ftkF s f k v) nf := by
  unfold ftkF
  exact LC_sI (LC_sI (LC_sI (LC_sI (LC_sP (LC_sP (LC_sI (LC_sI (LC_sI h (by omega)) (by omega)) (by omega)) (by unfold dyP; omega)) (by unfold dyP; omega)) (by omega)) (by omega)) (by omega)) (by omega)
theorem cm_LR {f j : Nat} {b : Int32} (h : LR t nf) : LR (cmR t f j b) nf := by
  unfold cmR comF
  exact LR_sI (by omega) (LR_sI (by omega) (LR_sI (by omega) (LR_sI (by omega) (LR_sI (by omega) (LR_sI (by omega) (LR_sI (by omega) h))))))
/-- it is nowhere: it is in use at once -/
theorem rl_tk1 {f k j : Nat} {b : Int32} (h : Rl g s t nf B Q) (hf : f < nf) (h0 : gI t 42 f 0 = 0) (hk : k < 64) (hj : j < 4) (e1 : gI t 38 k 0 = nI j) (e2 : gI t 39 k 0 = b) (hpf : gP s 4 2 k = none) (hpp : gP s 4 3 k = none) : Rl g (ftkF s f k 1) (cmR t f j b) nf B Q := by
  obtain ⟨⟨l1, l2, l3⟩, ⟨j0, bb, ww, nn, hh⟩, ⟨⟨f1, f2, f3, f5, f6, f7, f8, fb⟩, ⟨pp0, pp1⟩, ll, ⟨m1, m2, m3⟩, ss, qq⟩, ⟨rr, aa, xx, tt, uu, yy, cc, dd⟩, oo, kk⟩ := h
  obtain ⟨h1, h2, h3, h4, h5, h6, h7, h8, h9, h10, h11, h12, h13, h14⟩ := ss_d ss
  have hfQ : ∀ x, x ∈ Q → ¬ x = f := fun x hx e => by
    have := (h12 x hx).2.1
    rw [e, h0] at this
    rcases this with z | z <;> exact absurd z (by decide)
  have hmf : ¬ gP s 1 3 0 = some f := fun e => by
    obtain ⟨p, b1, b2, b3, b4, b5⟩ := h10 f e
    rw [h0] at b4
    rcases b4 with z | z <;> exact absurd z (by decide)
  have g0 : gI s 4 0 k = nI j := by rw [pp0 k hk, e1]
  have g1 : gI s 4 1 k = b := by rw [pp1 k hk, e2]
  refine ⟨⟨ftk_LC l1, cm_LR l2, l3⟩, ⟨j0, bb, ww, nn, hh⟩, ⟨⟨?_, ?_, ?_, ?_, ?_, ?_, ?_, ?_⟩, ⟨pp0, pp1⟩, ll, ⟨m1, m2, fun x e => ?_⟩, ?_, rq_out qq hfQ (fun x => cm_42) (fun _ => rfl) (fun _ => rfl) rfl⟩, ⟨rr, aa, xx, tt, uu, yy, cc, dd⟩, oo, kk⟩
  · exact re_E_w (j := f) (v := 1) f1
  · intro x hx
    show (if 2 = 2 ∧ 2 = 2 ∧ x = f then gI s 4 0 k else gI s 2 2 x) = _
    rw [cm_43, g0, f2 x hx]
    simp only [true_and]
  · intro x hx
    show (if 2 = 2 ∧ 3 = 3 ∧ x = f then gI s 4 1 k else gI s 2 3 x) = _
    rw [cm_44, g1, f3 x hx]
    simp only [true_and]
  · exact re_E_w (j := f) (v := 0) f5
  · exact re_E_w (j := f) (v := 0) f6
  · exact re_E_w (j := f) (v := 0) f7
  · exact re_E_w (j := f) (v := 1) f8
  · intro x hx
    have := fb x hx
    refine ⟨?_, ?_⟩
    · show (if 47 = 47 ∧ x = f ∧ 0 = 0 then (0 : Int32) else gI t 47 x 0) = 0 ∨ (if 47 = 47 ∧ x = f ∧ 0 = 0 then (0 : Int32) else gI t 47 x 0) = 1
      split
      · exact Or.inl rfl
      · exact this.1
    · show (if 48 = 48 ∧ x = f ∧ 0 = 0 then (1 : Int32) else gI t 48 x 0) = 0 ∨ (if 48 = 48 ∧ x = f ∧ 0 = 0 then (1 : Int32) else gI t 48 x 0) = 1
      split
      · exact Or.inr rfl
      · exact this.2
  · have e42 : gI (cmR t f j b) 42 x 0 = gI t 42 x 0 := by rw [cm_42, if_neg (fun z : x = f => hmf (z ▸ e))]
    rw [e42]
    exact m3 x e
  · have key := SS_take1 ss hf h0 hk (by rw [e1]; exact nI_nm (by omega)) hpf hpp
    unfold re_S
    refine SS_cg key (fun k hk => rfl) (fun k hk => rfl) (fun x hx => ?_) (fun x hx => rfl) (fun x hx => cm_42) (fun x hx => ?_) (fun x hx => ?_) (fun x hx => ?_) (fun q hq => rfl) (fun q hq => rfl)
    · show (if 4 = 4 ∧ 2 = 2 ∧ x = k then some f else gP s 4 2 x) = _
      simp only [true_and]
    · rw [cm_43, e1]
    · rw [cm_44, e2]
    · show (if 2 = 2 ∧ 4 = 4 ∧ x = f then some k else gP s 2 4 x) = _
      simp only [true_and]
/-- it is at a place: it is to come -/
def cgR (t : Sg) (f j : Nat) (b : Int32) (q : Nat) : Sg := queF (sI (sI (cmR t f j b) 42 f 0 2) 48 f 0 0) q (nI f) 0
theorem rl_tk2 {f k j : Nat} {b : Int32} (h : Rl g s t nf B Q) (hf : f < nf) (h0 : gI t 42 f 0 = 0) (hk : k < 64) (hj : j < 4) (e1 : gI t 38 k 0 = nI j) (e2 : gI t 39 k 0 = b) (hpf : gP s 4 2 k = none) (hpp : ¬ gP s 4 3 k = none) : Rl g (sI (sP (ftkF s f k 2) 14 Q.length 0 (some f)) 1 2 0 (nI (Q.length + 1))) (cgR t f j b Q.length) nf B (Q ++ [f]) := by
  obtain ⟨⟨l1, l2, l3⟩, ⟨j0, bb, ww, nn, hh⟩, ⟨⟨f1, f2, f3, f5, f6, f7, f8, fb⟩, ⟨pp0, pp1⟩, ll, ⟨m1, m2, m3⟩, ss, ⟨q1, q2, q3⟩⟩, ⟨rr, aa, xx, tt, uu, yy, cc, dd⟩, oo, kk⟩ := h
  obtain ⟨h1, h2, h3, h4, h5, h6, h7, h8, h9, h10, h11, h12, h13, h14⟩ := ss_d ss
  have hfQ : ∀ x, x ∈ Q → ¬ x = f := fun x hx e => by
    have := (h12 x hx).2.1
    rw [e, h0] at this
    rcases this with z | z <;> exact absurd z (by decide)
  have hmf : ¬ gP s 1 3 0 = some f := fun e => by
    obtain ⟨p, b1, b2, b3, b4, b5⟩ := h10 f e
    rw [h0] at b4
    rcases b4 with z | z <;> exact absurd z (by decide)
  have g0 : gI s 4 0 k = nI j := by rw [pp0 k hk, e1]
  have g1 : gI s 4 1 k = b := by rw [pp1 k hk, e2]
  have c42 : ∀ x, gI (cgR t f j b Q.length) 42 x 0 = if x = f then 2 else gI t 42 x 0 := fun x => by simp [cgR, queF, cmR, comF, MM]; grind
  have c43 : ∀ x, gI (cgR t f j b Q.length) 43 x 0 = if x = f then nI j else gI t 43 x 0 := fun x => by simp [cgR, queF, cmR, comF, MM]
  have c44 : ∀ x, gI (cgR t f j b Q.length) 44 x 0 = if x = f then b else gI t 44 x 0 := fun x => by simp [cgR, queF, cmR, comF, MM]
  have c48 : ∀ x, gI (cgR t f j b Q.length) 48 x 0 = if x = f then 0 else gI t 48 x 0 := fun x => by simp [cgR, queF, cmR, comF, MM]; grind
  have c51 : ∀ x, gI (cgR t f j b Q.length) 51 x 0 = if x = Q.length then nI f else gI t 51 x 0 := fun x => by simp [cgR, queF, cmR, comF, MM]
  have c52 : ∀ x, gI (cgR t f j b Q.length) 52 x 0 = if x = Q.length then 0 else gI t 52 x 0 := fun x => by simp [cgR, queF, cmR, comF, MM]
  refine ⟨⟨LC_sI (LC_sP (ftk_LC l1) (by unfold dyP; omega)) (by omega), ?_, l3⟩, ⟨j0, bb, ww, nn, hh⟩, ⟨⟨?_, ?_, ?_, ?_, ?_, ?_, ?_, ?_⟩, ⟨pp0, pp1⟩, ll, ⟨m1, m2, fun x e => ?_⟩, ?_, ⟨?_, ?_, fun i x e => ?_⟩⟩, ⟨rr, aa, xx, tt, uu, yy, cc, dd⟩, oo, kk⟩
  · unfold cgR queF
    exact LR_sI (by omega) (LR_sI (by omega) (LR_sI (by omega) (LR_sI (by omega) (LR_sI (by omega) (cm_LR l2)))))
  · intro x hx
    show (if 2 = 2 ∧ 1 = 1 ∧ x = f then (2 : Int32) else gI s 2 1 x) = _
    rw [c42, f1 x hx]
    simp only [true_and]
  · intro x hx
    show (if 2 = 2 ∧ 2 = 2 ∧ x = f then gI s 4 0 k else gI s 2 2 x) = _
    rw [c43, g0, f2 x hx]
    simp only [true_and]
  · intro x hx
    show (if 2 = 2 ∧ 3 = 3 ∧ x = f then gI s 4 1 k else gI s 2 3 x) = _
    rw [c44, g1, f3 x hx]
    simp only [true_and]
  · exact re_E_w (j := f) (v := 0) f5
  · exact re_E_w (j := f) (v := 0) f6
  · exact re_E_w (j := f) (v := 0) f7
  · intro x hx
    show (if 2 = 2 ∧ 8 = 8 ∧ x = f then (if (2 : Int32) = 1 then (1 : Int32) else 0) else gI s 2 8 x) = _
    rw [c48, f8 x hx, if_neg (show ¬ (2 : Int32) = 1 by decide)]
    simp only [true_and]
  · intro x hx
    have := fb x hx
    refine ⟨?_, ?_⟩
    · show (if 47 = 47 ∧ x = f ∧ 0 = 0 then (0 : Int32) else gI t 47 x 0) = 0 ∨ (if 47 = 47 ∧ x = f ∧ 0 = 0 then (0 : Int32) else gI t 47 x 0) = 1
      split
      · exact Or.inl rfl
      · exact this.1
    · rw [c48]
      split
      · exact Or.inl rfl
      · exact this.2
  · have e42 : gI (cgR t f j b Q.length) 42 x 0 = gI t 42 x 0 := by rw [c42, if_neg (fun z : x = f => hmf (z ▸ e))]
    rw [e42]
    exact m3 x e
  · have key := SS_take2 ss hf h0 hk (by rw [e1]; exact nI_nm (by omega)) hpf hpp
    unfold re_S
    refine SS_cg key (fun k hk => rfl) (fun k hk => rfl) (fun x hx => ?_) (fun x hx => rfl) (fun x hx => c42 x) (fun x hx => ?_) (fun x hx => ?_) (fun x hx => ?_) (fun q hq => rfl) (fun q hq => rfl)
    · show (if 4 = 4 ∧ 2 = 2 ∧ x = k then some f else gP s 4 2 x) = _
      simp only [true_and]
    · rw [c43, e1]
    · rw [c44, e2]
    · show (if 2 = 2 ∧ 4 = 4 ∧ x = f then some k else gP s 2 4 x) = _
      simp only [true_and]
  · rw [List.length_append]; rfl
  · rw [List.length_append]; rfl
  · have hi := gQ_lt e
    rw [List.length_append, List.length_singleton] at hi
    rw [c51, c52, c42]
    show (if 14 = 14 ∧ i = Q.length ∧ 0 = 0 then some f else gP s 14 i 0) = some x ∧ _
    by_cases c : i = Q.length
    · rw [if_pos ⟨rfl, c, rfl⟩, if_pos c, if_pos c]
      have : x = f := by
        rw [c, List.getElem?_append_right (Nat.le_refl _), Nat.sub_self] at e
        exact (Option.some.inj e).symm
      subst this
      rw [if_pos rfl]
      exact ⟨rfl, rfl, by decide⟩
    · rw [if_neg (fun z => c z.2.1), if_neg c, if_neg c]
      rw [List.getElem?_append_left (by omega)] at e
      rw [if_neg (hfQ x (List.mem_of_getElem? e))]
      exact q3 i x e
end Tak1
