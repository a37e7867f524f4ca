/-! the class: pages, the core -/
section Cls3
variable {g : Nat → Nat → Nat} {s : Sg} {X : Sg × Option Av} {nf : Nat}
def filF (k : Nat) : Sg → Nat → Nat → Sg
  | s, _, 0 => s
  | s, i, n + 1 => filF k (sJ s 16 i k 0) (i + 1) n
theorem LC_filF (k : Nat) : ∀ n i (s : Sg), LC s nf → LC (filF k s i n) nf
  | 0, _, _, h => h
  | n + 1, i, _, h => LC_filF k n (i + 1) _ (LC_sJ h)
theorem c_fill_l {k : Nat} : ∀ n i (s : Sg), LC s nf → k < cn s 16 → i + n = 512 → (Rn g 182 6 [some (.inr (.inr (some (16, k)))), some (.inr (.inl 0)), none, some (.inl (nI i)), some (.inl 512)] [] s X ↔ X = (filF k s i n, none))
  | 0, i, s, h, hk, hi => by
    obtain rfl : i = 512 := by omega
    have h1 : (512 : Int32) ≤ nI 512 := by decide
    simp [Q182, II, MM, MK, h1, filF]
  | n + 1, i, s, h, hk, hi => by
    have h1 : ¬ (512 : Int32) ≤ nI i := nI_ge (b := 512) (by omega) (by decide)
    have ih := c_fill_l n (i + 1) (sJ s 16 i k 0) (LC_sJ h) hk (by omega)
    simp [Q182, II, MM, MK, h, hk, h1, inN (show i < 512 by omega), e182_19, nI_1, filF, ih]
theorem c_fill (h : LC s nf) {k : Nat} (hk : k < cn s 16) : Rn g 182 0 [some (.inr (.inr (some (16, k)))), some (.inr (.inl 0)), none, none, none] [] s X ↔ X = (filF k s 0 512, none) := by
  have r := c_fill_l (g := g) (X := X) 512 0 s h hk rfl
  rw [nI_0] at r
  simp [e182_0, e182_1, e182_2, e182_3, e182_4, MM, MK, h, hk, ofN, show nI 512 = 512 from rfl]
  exact r
theorem filF_2 (k : Nat) : ∀ n i (s : Sg), (filF k s i n).2.2 = s.2.2
  | 0, _, _ => rfl
  | n + 1, i, s => by rw [filF, filF_2 k n]; rfl
/-- a page is let go: its words, if it has any, are set to 0 -/
def rl0 (s : Sg) (k : Nat) : Sg := sP (sP (sI s 4 0 k (-1)) 4 2 k none) 4 3 k none
def rlF (s : Sg) (k : Nat) : Sg := if gP s 4 4 k = none then rl0 s k else filF k (rl0 s k) 0 512
theorem LC_rl0 {k : Nat} (h : LC s nf) : LC (rl0 s k) nf := LC_sP (LC_sP (LC_sI h (by omega)) (by unfold dyP; omega)) (by unfold dyP; omega)
theorem LC_rlF {k : Nat} (h : LC s nf) : LC (rlF s k) nf := LC_if (LC_rl0 h) (LC_filF k 512 0 _ (LC_rl0 h))
/-- where a page's words are -/
def WI (s : Sg) : Prop := ∀ k, k < 64 → gP s 4 4 k = none ∨ (gP s 4 4 k = some k ∧ k < cn s 16)
theorem rl0_44 {k i : Nat} : gP (rl0 s k) 4 4 i = gP s 4 4 i := by simp [rl0, MM]
theorem rlF_44 {k i : Nat} : gP (rlF s k) 4 4 i = gP s 4 4 i ∧ cn (rlF s k) 16 = cn s 16 := by
  unfold rlF
  split
  · exact ⟨rl0_44, rfl⟩
  · unfold gP cn
    rw [filF_2]
    exact ⟨rl0_44, rfl⟩
theorem c_release (h : LC s nf) {k : Nat} (hk : k < 64) (hw : gP s 4 4 k = none ∨ (gP s 4 4 k = some k ∧ k < cn s 16)) : Rn g 43 0 [some (.inr (.inr (some (4, k))))] [] s X ↔ X = (rlF s k, none) := by
  have h' : LC (sP (sP (sI s 4 0 k (-1)) 4 2 k none) 4 3 k none) nf := LC_rl0 h
  unfold rlF rl0
  rcases hw with hw | ⟨hw, hc⟩
  · simp [Q43, MM, MK, h, hk, hw]
  · have hfi := fun X => c_fill (g := g) (X := X) h' (show k < cn (sP (sP (sI s 4 0 k (-1)) 4 2 k none) 4 3 k none) 16 from hc)
    simp [Q43, MM, MK, h, hk, hw, hc, hfi]
/-- a page is held: its words are made at the first use -/
def hldF (s : Sg) (k : Nat) (o b : Int32) : Sg :=
  let u := sI (sI s 4 0 k o) 4 1 k b
  if gP s 4 4 k = none then sP (nw u 16 512) 4 4 k (some (cn s 16)) else u
theorem c_pageHold (h : LC s nf) {k : Nat} {o b : Int32} (hk : k < 64) (hw : gP s 4 4 k = none ∨ (gP s 4 4 k = some k ∧ k < cn s 16)) (hg : gP s 4 4 k = none → sz s = g 16 (cn s 16)) : Rn g 42 0 [some (.inr (.inr (some (4, k)))), some (.inl o), some (.inl b)] [] s X ↔ X = (hldF s k o b, none) := by
  unfold hldF
  have h' : LC (sI (sI s 4 0 k o) 4 1 k b) nf := LC_sI (LC_sI h (by omega)) (by omega)
  rcases hw with hw | ⟨hw, hc⟩
  · have hg := hg hw
    have h5 : ¬ (512 : Int32) < 0 := by decide
    have h6 : (512 : Int32).toNatClampNeg = 512 := by decide
    simp [Q42, MM, MK, h, hk, hw, hg, h5, h6]
  · simp [Q42, MM, MK, h, hk, hw, hc]
abbrev pgP (s : Sg) (o b : Int32) (k : Nat) : Prop := gI s 4 0 k = o ∧ gI s 4 1 k = b
def pgF (s : Sg) (o b : Int32) : Option Nat := ff (pgP s o b) 0 64
theorem c_find_l (h : LC s nf) (o b : Int32) : ∀ n i, i + n = 64 → (Rn g 48 2 [some (.inr (.inr (some (5, 0)))), some (.inl o), some (.inl b), some (.inl (nI i))] [] s X ↔ X = (s, some (.inr (.inr (mk 4 (ff (pgP s o b) i n))))))
  | 0, i, hi => by
    have h1 : (64 : Int32) ≤ nI i := nI_le (a := 64) (by omega) (by omega)
    simp [Q48, II, MM, MK, h, ofN, show nI 64 = 64 from rfl, h1, ff]
  | n + 1, i, hi => by
    have h1 : ¬ (64 : Int32) ≤ nI i := nI_ge (b := 64) (by omega) (by decide)
    have ih := c_find_l h o b n (i + 1) (by omega)
    have hi64 : i < 64 := by omega
    by_cases a1 : gI s 4 0 i = o <;> by_cases a2 : gI s 4 1 i = b <;> simp [Q48, II, MM, MK, h, ofN, show nI 64 = 64 from rfl, h1, hi64, inN hi64, a1, a2, e48_47, nI_1, ih, ff, pgP]
theorem c_find (h : LC s nf) (o b : Int32) : Rn g 48 0 [some (.inr (.inr (some (5, 0)))), some (.inl o), some (.inl b), none] [] s X ↔ X = (s, some (.inr (.inr (mk 4 (pgF s o b))))) := by
  have r := c_find_l (g := g) (X := X) h o b 64 0 rfl
  rw [nI_0] at r
  simp only [e48_0, e48_1, MK]
  exact r
theorem LC_nw {u : Sg} (h : LC u nf) (hc : cn u 16 < 64) : LC (nw u 16 512) nf := by
  obtain ⟨a1, a2, a3, a4, ⟨b1, b2, b3, b4, b5, b6⟩, ⟨d1, d2⟩, ⟨e1, e2, e3⟩, f1, f2, f3⟩ := h
  refine ⟨a1, a2, a3, a4, ⟨b1, b2, b3, ?_, b5, b6⟩, ⟨d1, ?_⟩, ⟨e1, e2, ?_⟩, f1, ?_, ?_⟩
  · intro j hj; rw [gI_nw, if_neg (by omega)]; exact b4 j hj
  · intro j hj; rw [gI_nw, if_neg (by omega)]; exact d2 j hj
  · intro j hj; rw [gI_nw, if_neg (by omega)]; exact e3 j hj
  · rw [cn_nw, if_pos rfl]; omega
  · intro i hi
    rw [cn_nw, if_pos rfl] at hi
    rw [ln_nw]
    split
    · rfl
    · exact f3 i (by omega)
theorem LC_hldF {k : Nat} {o b : Int32} (h : LC s nf) (hk : k < 64) (hw : gP s 4 4 k = none ∨ (gP s 4 4 k = some k ∧ k < cn s 16)) (hc : gP s 4 4 k = none → cn s 16 < 64) : LC (hldF s k o b) nf := by
  have h' : LC (sI (sI s 4 0 k o) 4 1 k b) nf := LC_sI (LC_sI h (by omega)) (by omega)
  unfold hldF
  dsimp only
  split
  · rename_i hn
    exact LC_sP (LC_nw h' (hc hn)) (by unfold dyP; omega)
  · exact h'
abbrev frP (s : Sg) (k : Nat) : Prop := gI s 4 0 k = -1
theorem c_pagesHold_l (h : LC s nf) {o b : Int32} {a : Nat} (ha : a < 64) (h0 : gI s 4 0 a = -1) (hw : gP s 4 4 a = none ∨ (gP s 4 4 a = some a ∧ a < cn s 16)) (hg : gP s 4 4 a = none → sz s = g 16 (cn s 16)) (hc : gP s 4 4 a = none → cn s 16 < 64) (hb : ∀ k, k < a → ¬ gI s 4 0 k = -1) : ∀ n i, i + n = a → (Rn g 49 2 [some (.inr (.inr (some (5, 0)))), some (.inl o), some (.inl b), some (.inl (nI i))] [] s X ↔ X = (hldF s a o b, some (.inr (.inr (some (4, a))))))
  | 0, i, hi => by
    obtain rfl : i = a := by omega
    have h1 : ¬ (64 : Int32) ≤ nI i := nI_ge (b := 64) (by omega) (by decide)
    have hp := fun X => c_pageHold (g := g) (X := X) (o := o) (b := b) h ha hw hg
    have h' : LC (hldF s i o b) nf := LC_hldF h ha hw hc
    simp [Q49, II, MM, MK, h, h', ofN, show nI 64 = 64 from rfl, h1, ha, inN ha, h0, hp]
  | n + 1, i, hi => by
    have h1 : ¬ (64 : Int32) ≤ nI i := nI_ge (b := 64) (by omega) (by decide)
    have ih := c_pagesHold_l h (o := o) (b := b) ha h0 hw hg hc hb n (i + 1) (by omega)
    have hi64 : i < 64 := by omega
    have hi0 := hb i (by omega)
    simp [Q49, II, MM, MK, h, ofN, show nI 64 = 64 from rfl, h1, hi64, inN hi64, hi0, e49_45, nI_1, ih]
end Cls3
