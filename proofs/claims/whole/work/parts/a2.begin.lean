/-! the drum turns: a transfer begins -/
/-- the class's memory when page k of frame f, at place i of a queue of q, begins to move to or from place p -/
def bgC (s : Sg) (tk : Int32) (f k p i q : Nat) : Sg := sI (rmF (sI (sP (sP (takF s p k) 1 3 0 (some f)) 1 4 0 (some p)) 1 5 0 tk) i (q - 1 - i)) 1 2 0 (nI (q - 1))
def bgR (t : Sg) (n : Int32) (f p i q : Nat) : Sg := leaF (sI (sI (sI (sI (sI (sI (sI t 11 33 0 (nI f)) 11 35 0 (gI t 52 i 0)) 11 34 0 (nI p)) 11 36 0 0) 11 37 0 n) 49 p 0 (gI t 43 f 0)) 50 p 0 (gI t 44 f 0)) q i
section Beg1
variable {g : Nat → Nat → Nat} {s t u : Sg} {X : Sg × Option Av} {nf B : Nat} {Q : List Nat} {n : Int32}
theorem rl_bg {tk : Int32} {f k p i : Nat} (h : Rl g s t nf B Q) (hm : gP s 1 3 0 = none) (hi : Q[i]? = some f) (hk : gP s 2 4 f = some k) (hp : p < 64) (hc : (gI t 42 f 0 = 3 ∧ gI t 49 p 0 = -1) ∨ (gI t 42 f 0 = 2 ∧ gP s 4 3 k = some p)) : Rl g (bgC s tk f k p i Q.length) (bgR t tk f p i Q.length) nf B (Q.eraseIdx i) := by
  have qf := rl_qf h
  obtain ⟨a1, a2, a3, a4, a5, a6, a7, a8, a9, a10, a11⟩ := qf
  obtain ⟨⟨l1, l2, l3⟩, ⟨j0, bb, ww, nn, hh⟩, ⟨⟨f1, f2, f3, f5, f6, f7, f8, fb⟩, ⟨pp0, pp1⟩, ll, mm, ss, ⟨q1, q2, q3⟩⟩, ⟨rr, aa, xx, tt, uu, yy, cc, dd⟩, oo, kk⟩ := h
  obtain ⟨h1, h2, h3, h4, h5, h6, h7, h8, h9, h10, h11, h12, h13, h14⟩ := ss_d ss
  have hiq := gQ_lt hi
  have hfQ : f ∈ Q := List.mem_of_getElem? hi
  obtain ⟨hfn, hfs, hfm⟩ := h12 f hfQ
  obtain ⟨z1, z2, z3, z4, z5⟩ := h3 f k hfn hk
  have hlen : (Q.eraseIdx i).length = Q.length - 1 := List.length_eraseIdx_of_lt hiq
  have hmem : ∀ x, x ∈ Q.eraseIdx i ↔ x ∈ Q ∧ ¬ x = f := fun x => by
    rw [List.mem_eraseIdx_iff_getElem?]
    constructor
    · rintro ⟨a, ha, e⟩
      exact ⟨List.mem_of_getElem? e, fun z => ha ((List.getElem?_inj (gQ_lt e) h13).mp (by rw [e, hi, z]))⟩
    · rintro ⟨hx, hne⟩
      obtain ⟨a, e⟩ := List.getElem?_of_mem hx
      exact ⟨a, fun z => hne (by rw [z, hi] at e; exact (Option.some.inj e).symm), e⟩
  have hnd : (Q.eraseIdx i).Nodup := h13.sublist (List.eraseIdx_sublist ..)
  unfold bgC bgR
  rw [rmF_eq]
  unfold leaF
  rw [shF_eq]
  have w52 := (q3 i f hi).2.2
  refine ⟨⟨?_, ?_, l3⟩, ⟨j0, bb, ww, nn, hh⟩, ⟨⟨f1, f2, f3, f5, f6, f7, f8, fb⟩, ⟨pp0, pp1⟩, fun q hq => ?_, ⟨?_, fun q e => ?_, fun x e => ?_⟩, ?_, ⟨?_, ?_, fun a x e => ?_⟩⟩, ⟨rr, aa, xx, tt, uu, yy, cc, dd⟩, oo, kk⟩
  · refine LC_cg (s := s) l1 (fun c k i hc => by rcases hc with ⟨rfl, rfl⟩ | ⟨rfl, rfl⟩ | ⟨rfl, rfl⟩ <;> rfl) (fun c m e hd => ?_) rfl
    unfold dyP at hd
    show (if _ then _ else _) = _
    rw [if_neg (by omega)]
    show gP (sP (sP (takF s p k) 1 3 0 (some f)) 1 4 0 (some p)) c m e = _
    unfold takF
    rw [gP_sP, if_neg (by omega), gP_sP, if_neg (by omega), gP_sP, if_neg (by omega)]
    rfl
  · exact LR_gh l2 rfl rfl
  · show (((if 6 = 6 ∧ 1 = 1 ∧ q = p then (1 : Int32) else gI s 6 1 q) = 0 ↔ (if 49 = 49 ∧ q = p ∧ 0 = 0 then gI t 43 f 0 else gI t 49 q 0) = -1) ∧ (¬ (if 49 = 49 ∧ q = p ∧ 0 = 0 then gI t 43 f 0 else gI t 49 q 0) = -1 → (if 6 = 6 ∧ 2 = 2 ∧ q = p then gI s 4 0 k else gI s 6 2 q) = (if 49 = 49 ∧ q = p ∧ 0 = 0 then gI t 43 f 0 else gI t 49 q 0) ∧ (if 6 = 6 ∧ 3 = 3 ∧ q = p then gI s 4 1 k else gI s 6 3 q) = (if 50 = 50 ∧ q = p ∧ 0 = 0 then gI t 44 f 0 else gI t 50 q 0)))
    have hne : ¬ gI t 43 f 0 = -1 := by rw [z3]; exact (h2 k f z1 z2).2.2
    by_cases c : q = p
    · rw [if_pos ⟨rfl, rfl, c⟩, if_pos ⟨rfl, c, rfl⟩, if_pos ⟨rfl, rfl, c⟩, if_pos ⟨rfl, rfl, c⟩, if_pos ⟨rfl, c, rfl⟩]
      refine ⟨⟨fun z => absurd z (by decide), fun z => absurd z hne⟩, fun _ => ⟨?_, ?_⟩⟩
      · rw [z3]; exact pp0 k z1
      · rw [z4]; exact pp1 k z1
    · rw [if_neg (fun z => c z.2.2), if_neg (fun z => c z.2.1), if_neg (fun z => c z.2.2), if_neg (fun z => c z.2.2), if_neg (fun z => c z.2.1)]
      exact ll q hq
  · rfl
  · have e2 : some p = some q := e
    cases e2
    rfl
  · have e2 : some f = some x := e
    cases e2
    refine ⟨?_, rfl⟩
    show gI t 52 i 0 = _
    exact w52
  · have key := SS_begin (Q' := Q.eraseIdx i) ss hm hfQ hk hp hc hmem hnd
    unfold re_S
    refine SS_cg key (fun k hk => rfl) (fun k hk => rfl) (fun x hx => rfl) (fun x hx => ?_) (fun x hx => rfl) (fun x hx => rfl) (fun x hx => rfl) (fun x hx => rfl) (fun x hx => ?_) (fun x hx => ?_)
    · show (if 4 = 4 ∧ 3 = 3 ∧ x = k then some p else gP s 4 3 x) = _
      simp only [true_and]
    · show (if 49 = 49 ∧ x = p ∧ 0 = 0 then gI t 43 f 0 else gI t 49 x 0) = _
      rw [z3]
      simp only [true_and, and_true]
    · show (if 50 = 50 ∧ x = p ∧ 0 = 0 then gI t 44 f 0 else gI t 50 x 0) = _
      rw [z4]
      simp only [true_and, and_true]
  · rw [hlen]; rfl
  · rw [hlen]; rfl
  · have ha := gQ_lt e
    rw [hlen] at ha
    rw [List.getElem?_eraseIdx] at e
    have x42 : ∀ v, gI ((fun c m k => if (c = 51 ∨ c = 52) ∧ k = 0 ∧ i ≤ m ∧ m < i + (Q.length - 1 - i) then gI (sI (sI (sI (sI (sI (sI (sI (sI t 11 33 0 (nI f)) 11 35 0 (gI t 52 i 0)) 11 34 0 (nI p)) 11 36 0 0) 11 37 0 tk) 49 p 0 (gI t 43 f 0)) 50 p 0 (gI t 44 f 0)) 11 42 0 (nI (Q.length - 1))) c (m + 1) k else gI (sI (sI (sI (sI (sI (sI (sI (sI t 11 33 0 (nI f)) 11 35 0 (gI t 52 i 0)) 11 34 0 (nI p)) 11 36 0 0) 11 37 0 tk) 49 p 0 (gI t 43 f 0)) 50 p 0 (gI t 44 f 0)) 11 42 0 (nI (Q.length - 1))) c m k), v) 42 x 0 = gI t 42 x 0 := fun v => rfl
    show (if 14 = 14 ∧ 0 = 0 ∧ i ≤ a ∧ a < i + (Q.length - 1 - i) then gP s 14 (a + 1) 0 else gP s 14 a 0) = some x ∧ (if (51 = 51 ∨ 51 = 52) ∧ 0 = 0 ∧ i ≤ a ∧ a < i + (Q.length - 1 - i) then gI t 51 (a + 1) 0 else gI t 51 a 0) = nI x ∧ (if (52 = 51 ∨ 52 = 52) ∧ 0 = 0 ∧ i ≤ a ∧ a < i + (Q.length - 1 - i) then gI t 52 (a + 1) 0 else gI t 52 a 0) = (if gI t 42 x 0 = 3 then 1 else 0)
    by_cases c : a < i
    · rw [if_pos c] at e
      rw [if_neg (by omega), if_neg (by omega), if_neg (by omega)]
      exact q3 a x e
    · rw [if_neg c] at e
      rw [if_pos (by omega), if_pos (by omega), if_pos (by omega)]
      exact q3 (a + 1) x e
end Beg1
