/-! the class: the drum's queue -/
section Cls6
variable {g : Nat → Nat → Nat} {s : Sg} {X : Sg × Option Av} {nf : Nat}
def rmF : Sg → Nat → Nat → Sg
  | s, _, 0 => s
  | s, i, n + 1 => rmF (sP s 14 i 0 (gP s 14 (i + 1) 0)) (i + 1) n
theorem LC_rmF : ∀ n i (s : Sg), LC s nf → LC (rmF s i n) nf
  | 0, _, _, h => h
  | n + 1, i, _, h => LC_rmF n (i + 1) _ (LC_sP h (by unfold dyP; omega))
theorem rmF_gI : ∀ n i (s : Sg) (c k e : Nat), gI (rmF s i n) c k e = gI s c k e
  | 0, _, _, _, _, _ => rfl
  | n + 1, i, s, c, k, e => by rw [rmF, rmF_gI n]; rfl
theorem c_removeAt_l {q : Nat} {z : Int32} (h16 : q ≤ 16) : ∀ n i (s : Sg), LC s nf → QC s nf q → i + 1 + n = q → (Rn g 18 6 [some (.inr (.inr (some (1, 0)))), some (.inl z), some (.inl (nI i))] [] s X ↔ X = (sI (rmF s i n) 1 2 0 (nI (q - 1)), none))
  | 0, i, s, h, hq, hi => by
    have h1 : nI q ≤ nI (i + 1) := nI_le (by omega) (by omega)
    have h2 : nI q - 1 = nI (q - 1) := nI_sub (b := 1) (by omega)
    simp [Q18, II, MM, MK, h, hq.1, nI_1, h1, h2, rmF]
  | n + 1, i, s, h, hq, hi => by
    have h1 : ¬ nI q ≤ nI (i + 1) := nI_ge (by omega) (by omega)
    have h2 : ¬ (16 : Int32) ≤ nI (i + 1) := nI_ge (b := 16) (by omega) (by decide)
    obtain ⟨f, hf, e1⟩ := hq.2.2 (i + 1) (by omega)
    have hq' : QC (sP s 14 i 0 (some f)) nf q := by
      refine ⟨hq.1, hq.2.1, fun k hk => ?_⟩
      rw [gP_sP]
      split
      · exact ⟨f, hf, rfl⟩
      · exact hq.2.2 k hk
    have ih := c_removeAt_l (z := z) h16 n (i + 1) (sP s 14 i 0 (some f)) (LC_sP h (by unfold dyP; omega)) hq' (by omega)
    simp [Q18, II, MM, MK, h, hq.1, nI_1, ofN, show nI 16 = 16 from rfl, h1, h2, inN (show i < 16 by omega), inN (show i + 1 < 16 by omega), e1, hf, e18_44, ih, rmF]
theorem c_removeAt (h : LC s nf) {q k : Nat} (hq : QC s nf q) (hk : k < q) : Rn g 18 0 [some (.inr (.inr (some (1, 0)))), some (.inl (nI k)), none] [] s X ↔ X = (sI (rmF s k (q - 1 - k)) 1 2 0 (nI (q - 1)), none) := by
  have h16 := hq.2.1
  have r := c_removeAt_l (g := g) (X := X) (z := nI k) h16 (q - 1 - k) k s h hq (by omega)
  have h1 : (if (0 : Int32) < nI k then nI k else 0) = nI k := by
    by_cases h0 : k = 0
    · subst h0; decide
    · have hk0 : nI 0 < nI k := nI_lt (by omega) (by omega)
      rw [nI_0] at hk0
      rw [if_pos hk0]
  simp only [e18_0, e18_1, e18_2, e18_5, MK, h1]
  exact r
/-- the first of the queue that can begin begins -/
def btF (s : Sg) (tk : Int32) (c q : Nat) : Nat → Nat → Sg
  | _, 0 => s
  | i, n + 1 => match gP s 14 i 0 with
    | none => btF s tk c q (i + 1) n
    | some f => match gP s 2 4 f with
      | none => btF s tk c q (i + 1) n
      | some k => match pfF s (gI s 2 1 f) k c with
        | none => btF s tk c q (i + 1) n
        | some p => let u := sI (sP (sP (takF s p k) 1 3 0 (some f)) 1 4 0 (some p)) 1 5 0 tk
          sI (rmF u i (q - 1 - i)) 1 2 0 (nI (q - 1))
theorem LC_takF {p k : Nat} (h : LC s nf) : LC (takF s p k) nf := LC_sP (LC_sI (LC_sI (LC_sI h (by omega)) (by omega)) (by omega)) (by unfold dyP; omega)
theorem pfF_lt {st : Int32} {k c p : Nat} (hp : ∀ p, gP s 4 3 k = some p → p < 64) (h : pfF s st k c = some p) : p < 64 := by
  unfold pfF at h
  split at h
  · split at h
    · cases h
    · rename_i p' hp'
      split at h
      · cases h; exact hp _ hp'
      · cases h
  · have := (ff_some h).2.1; omega
theorem c_begin_l (h : LC s nf) {q c : Nat} {tk : Int32} (hq : QC s nf q) (hc : c < 8) (hk : ∀ f k, f < nf → gP s 2 4 f = some k → k < 64) (hp : ∀ k p, k < 64 → gP s 4 3 k = some p → p < 64) : ∀ n i (z1 z2 z3 : Option Av), i + n = q → (Rn g 16 10 [some (.inr (.inr (some (1, 0)))), some (.inl tk), some (.inl (nI c)), some (.inl (nI i)), z1, z2, z3] [] s X ↔ X = (btF s tk c q i n, none))
  | 0, i, z1, z2, z3, hi => by
    have h16 := hq.2.1
    have h1 : nI q ≤ nI i := nI_le (by omega) (by omega)
    simp [Q16, II, MM, MK, h, hq.1, h1, btF]
  | n + 1, i, z1, z2, z3, hi => by
    have h16 := hq.2.1
    have h1 : ¬ nI q ≤ nI i := nI_ge (by omega) (by omega)
    have h2 : ¬ (16 : Int32) ≤ nI i := nI_ge (b := 16) (by omega) (by decide)
    have ih := fun z1 z2 z3 => c_begin_l (tk := tk) h hq hc hk hp n (i + 1) z1 z2 z3 (by omega)
    obtain ⟨f, hf, e1⟩ := hq.2.2 i (by omega)
    have hi16 := inN (show i < 16 by omega) (by omega)
    cases hg : gP s 2 4 f with
    | none =>
      simp [Q16, II, MM, MK, h, hq.1, h1, ofN, show nI 16 = 16 from rfl, h2, hi16, e1, hf, hg, btF]
      simp only [e16_112, nI_1, ih]
    | some k =>
      have h64 := hk f k hf hg
      have hpf := fun X => c_placeFor (g := g) (X := X) (st := gI s 2 1 f) h h64 hc (fun p => hp k p h64)
      cases hpp : pfF s (gI s 2 1 f) k c with
      | none =>
        rw [hpp, mk_none] at hpf
        simp [Q16, II, MM, MK, h, hq.1, h1, ofN, show nI 16 = 16 from rfl, h2, hi16, e1, hf, hg, h64, hpf, hpp, btF]
        simp only [e16_112, nI_1, ih]
      | some p =>
        have hp64 := pfF_lt (fun p => hp k p h64) hpp
        rw [hpp, mk_some] at hpf
        have hta := fun X => c_placeTake (g := g) (X := X) h hp64 h64
        have hu : LC (sI (sP (sP (takF s p k) 1 3 0 (some f)) 1 4 0 (some p)) 1 5 0 tk) nf := LC_sI (LC_sP (LC_sP (LC_takF h) (by unfold dyP; omega)) (by unfold dyP; omega)) (by omega)
        have hqu : QC (sI (sP (sP (takF s p k) 1 3 0 (some f)) 1 4 0 (some p)) 1 5 0 tk) nf q := ⟨by simp [takF, MM, hq.1], h16, fun e he => by simpa [takF, MM] using hq.2.2 e he⟩
        have hrm := fun X => c_removeAt (g := g) (X := X) hu hqu (show i < q by omega)
        simp [Q16, II, MM, MK, h, LC_takF (p := p) (k := k) h, hq.1, h1, ofN, show nI 16 = 16 from rfl, h2, hi16, e1, hf, hg, h64, hp64, hpf, hpp, hta, hrm, btF]
theorem c_beginTransfer (h : LC s nf) {q n : Nat} (hn : n < 2 ^ 31) (hq : QC s nf q) (hk : ∀ f k, f < nf → gP s 2 4 f = some k → k < 64) (hp : ∀ k p, k < 64 → gP s 4 3 k = some p → p < 64) : Rn g 16 0 [some (.inr (.inr (some (1, 0)))), some (.inl (nI n)), none, none, none, none, none] [] s X ↔ X = (btF s (nI n) (n / 32 % 8) q 0 q, none) := by
  have r := c_begin_l (g := g) (X := X) (tk := nI n) h hq (show n / 32 % 8 < 8 by omega) hk hp q 0 none none none (by omega)
  rw [nI_0] at r
  have h1 : nI (n / 32) - nI (n / 32) / 8 * 8 = nI (n / 32 % 8) := m8 (by omega)
  simp only [e16_0, e16_1, e16_3, e16_4, e16_6, e16_7, e16_8, e16_9, MK, d32 hn, h1, show ¬ (32 : Int32) = 0 by decide, show ¬ (8 : Int32) = 0 by decide, not_false_eq_true]
  exact r
/-- what is not of job o stays in the queue -/
def dqF (o : Int32) : Nat → Nat → Sg × Nat → Sg × Nat
  | _, 0, u => u
  | i, n + 1, u => dqF o (i + 1) n (match gP u.1 14 i 0 with | none => u | some f => if gI u.1 2 2 f = o then u else (sP u.1 14 u.2 0 (some f), u.2 + 1))
theorem c_dropQueued_l {q : Nat} {o : Int32} (h16 : q ≤ 16) : ∀ n i (u : Sg × Nat) (z : Option Av), LC u.1 nf → QC u.1 nf q → u.2 ≤ i → i + n = q → (Rn g 19 4 [some (.inr (.inr (some (1, 0)))), some (.inl o), some (.inl (nI u.2)), some (.inl (nI i)), z] [] u.1 X ↔ X = (sI (dqF o i n u).1 1 2 0 (nI (dqF o i n u).2), none))
  | 0, i, u, z, h, hq, hk, hi => by
    have h1 : nI q ≤ nI i := nI_le (by omega) (by omega)
    simp [Q19, II, MM, MK, h, hq.1, h1, dqF]
  | n + 1, i, u, z, h, hq, hk, hi => by
    obtain ⟨s, k⟩ := u
    dsimp only at h hq hk ⊢
    have h1 : ¬ nI q ≤ nI i := nI_ge (by omega) (by omega)
    have h2 : ¬ (16 : Int32) ≤ nI i := nI_ge (b := 16) (by omega) (by decide)
    have h3 : ¬ (16 : Int32) ≤ nI k := nI_ge (b := 16) (by omega) (by decide)
    obtain ⟨f, hf, e1⟩ := hq.2.2 i (by omega)
    have hi16 := inN (show i < 16 by omega) (by omega)
    by_cases a1 : gI s 2 2 f = o
    · have ih := fun z => c_dropQueued_l (o := o) h16 n (i + 1) (s, k) z h hq (by dsimp only; omega) (by omega)
      dsimp only at ih
      simp [Q19, II, MM, MK, h, hq.1, h1, ofN, show nI 16 = 16 from rfl, h2, hi16, e1, hf, a1, e19_66, nI_1, ih, dqF]
    · have hq' : QC (sP s 14 k 0 (some f)) nf q := by
        refine ⟨hq.1, hq.2.1, fun e he => ?_⟩
        rw [gP_sP]
        split
        · exact ⟨f, hf, rfl⟩
        · exact hq.2.2 e he
      have ih := fun z => c_dropQueued_l (o := o) h16 n (i + 1) (sP s 14 k 0 (some f), k + 1) z (LC_sP h (by unfold dyP; omega)) hq' (by dsimp only; omega) (by omega)
      dsimp only at ih
      simp [Q19, II, MM, MK, h, hq.1, h1, ofN, show nI 16 = 16 from rfl, h2, h3, hi16, inN (show k < 16 by omega), e1, hf, a1, e19_66, nI_1, ih, dqF]
theorem c_dropQueued (h : LC s nf) {q : Nat} {o : Int32} (hq : QC s nf q) : Rn g 19 0 [some (.inr (.inr (some (1, 0)))), some (.inl o), none, none, none] [] s X ↔ X = (sI (dqF o 0 q (s, 0)).1 1 2 0 (nI (dqF o 0 q (s, 0)).2), none) := by
  have r := c_dropQueued_l (g := g) (X := X) (o := o) hq.2.1 q 0 (s, 0) none h hq (by dsimp only; omega) (by omega)
  dsimp only at r
  rw [nI_0] at r
  simp only [e19_0, e19_1, e19_2, e19_3, MK]
  exact r
def dcl1 (s : Sg) (o : Int32) (mp : Option Nat) (p : Nat) : Sg := if gI s 6 2 p = o ∧ ¬ some p = mp then sI s 6 1 p 0 else s
def dclF (o : Int32) (mp : Option Nat) : Sg → Nat → Nat → Sg
  | s, _, 0 => s
  | s, i, n + 1 => dclF o mp (dcl1 s o mp i) (i + 1) n
theorem c_drumClear_l {o : Int32} {mp : Option Nat} (hm : ∀ p, mp = some p → p < 64) : ∀ n i (s : Sg), LC s nf → gP s 1 4 0 = mp → i + n = 64 → (Rn g 20 2 [some (.inr (.inr (some (1, 0)))), some (.inl o), some (.inl (nI i))] [] s X ↔ X = (dclF o mp s i n, none))
  | 0, i, s, h, he, hi => by
    have h1 : (64 : Int32) ≤ nI i := nI_le (a := 64) (by omega) (by omega)
    simp [Q20, II, MM, MK, h, ofN, show nI 64 = 64 from rfl, h1, dclF]
  | n + 1, i, s, h, he, hi => by
    have h1 : ¬ (64 : Int32) ≤ nI i := nI_ge (b := 64) (by omega) (by decide)
    have hi64 : i < 64 := by omega
    by_cases a1 : gI s 6 2 i = o
    · cases mp with
      | none =>
        have ih := c_drumClear_l (o := o) (mp := none) hm n (i + 1) (sI s 6 1 i 0) (LC_sI h (by omega)) he (by omega)
        simp [Q20, II, MM, MK, h, he, ofN, show nI 64 = 64 from rfl, h1, hi64, inN hi64, a1, e20_50, nI_1, ih, dclF, dcl1]
      | some e =>
        have he2 := hm e rfl
        by_cases a2 : i = e
        · subst a2
          have ih := c_drumClear_l (o := o) (mp := some i) hm n (i + 1) s h he (by omega)
          simp [Q20, II, MM, MK, h, he, ofN, show nI 64 = 64 from rfl, h1, hi64, inN hi64, a1, e20_50, nI_1, ih, dclF, dcl1]
        · have ih := c_drumClear_l (o := o) (mp := some e) hm n (i + 1) (sI s 6 1 i 0) (LC_sI h (by omega)) he (by omega)
          simp [Q20, II, MM, MK, h, he, he2, ofN, show nI 64 = 64 from rfl, h1, hi64, inN hi64, a1, a2, e20_50, nI_1, ih, dclF, dcl1]
    · have ih := c_drumClear_l (o := o) (mp := mp) hm n (i + 1) s h he (by omega)
      simp [Q20, II, MM, MK, h, he, ofN, show nI 64 = 64 from rfl, h1, hi64, inN hi64, a1, e20_50, nI_1, ih, dclF, dcl1]
theorem c_drumClear (h : LC s nf) {o : Int32} {mp : Option Nat} (he : gP s 1 4 0 = mp) (hm : ∀ p, mp = some p → p < 64) : Rn g 20 0 [some (.inr (.inr (some (1, 0)))), some (.inl o), none] [] s X ↔ X = (dclF o mp s 0 64, none) := by
  have r := c_drumClear_l (g := g) (X := X) (o := o) hm 64 0 s h he rfl
  rw [nI_0] at r
  simp only [e20_0, e20_1, MK]
  exact r
end Cls6
