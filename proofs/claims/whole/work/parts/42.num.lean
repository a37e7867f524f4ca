/-! numbers -/
theorem nI_div {a b : Nat} (ha : a < 2 ^ 31) (hb : b < 2 ^ 31) : nI a / nI b = nI (a / b) := by
  have h1 : a / b < 2 ^ 31 := Nat.lt_of_le_of_lt (Nat.div_le_self a b) ha
  refine Int32.toInt_inj.mp ?_
  rw [Jvm.Kit.i32_div (by rw [nI_toInt ha]; omega), nI_toInt ha, nI_toInt hb, nI_toInt h1, Int.tdiv_eq_ediv_of_nonneg (by omega)]
  rfl
theorem nI_mul (a b : Nat) : nI a * nI b = nI (a * b) := (Int32.ofNat_mul a b).symm
theorem nI_sub {a b : Nat} (h : b ≤ a) : nI a - nI b = nI (a - b) := (Int32.ofNat_sub a b h).symm
theorem nI_rem {a b : Nat} (ha : a < 2 ^ 31) (hb : b < 2 ^ 31) : nI a - nI a / nI b * nI b = nI (a % b) := by
  rw [nI_div ha hb, nI_mul, nI_sub (Nat.div_mul_le_self a b), Nat.mod_eq_sub_mul_div, Nat.mul_comm]
theorem d512 {a : Nat} (ha : a < 2 ^ 31) : nI a / 512 = nI (a / 512) := nI_div (b := 512) ha (by decide)
theorem m512 {a : Nat} (ha : a < 2 ^ 31) : nI a - nI a / 512 * 512 = nI (a % 512) := nI_rem (b := 512) ha (by decide)
theorem m512' {a : Nat} (ha : a < 2 ^ 31) : nI a - nI (a / 512) * 512 = nI (a % 512) := by rw [← d512 ha]; exact m512 ha
theorem t512 (a : Nat) : 512 * nI a = nI (512 * a) := nI_mul 512 a
theorem t128 (a : Nat) : 128 * nI a = nI (128 * a) := nI_mul 128 a
theorem t500 (a : Nat) : 500 * nI a = nI (500 * a) := nI_mul 500 a
theorem t200 (a : Nat) : 200 * nI a = nI (200 * a) := nI_mul 200 a
theorem i64_lt {x y : Int64} : x < y ↔ x.toInt < y.toInt := Int64.lt_iff_toInt_lt
theorem cmp_sp (x y : Int64) : (x < y ∧ lg_cmp x y = -1) ∨ (x = y ∧ lg_cmp x y = 0) ∨ (y < x ∧ lg_cmp x y = 1) := by
  unfold lg_cmp
  by_cases h1 : x > y
  · right; right; exact ⟨h1, by rw [if_pos h1]⟩
  · by_cases h2 : x = y
    · right; left; exact ⟨h2, by rw [if_neg h1, if_pos h2]⟩
    · left
      refine ⟨?_, by rw [if_neg h1, if_neg h2]⟩
      rw [i64_lt]
      have a1 : ¬ y.toInt < x.toInt := fun q => h1 (i64_lt.mpr q)
      have a2 : ¬ x.toInt = y.toInt := fun q => h2 (Int64.toInt_inj.mp q)
      omega
theorem cmp_lt {x y : Int64} : (lg_cmp x y < 0) = (x < y) := by
  apply propext
  rcases cmp_sp x y with ⟨h, e⟩ | ⟨h, e⟩ | ⟨h, e⟩ <;> rw [e]
  · exact ⟨fun _ => h, fun _ => by decide⟩
  · subst h; exact ⟨fun q => absurd q (by decide), fun q => absurd (i64_lt.mp q) (by omega)⟩
  · exact ⟨fun q => absurd q (by decide), fun q => absurd (i64_lt.mp q) (by have := i64_lt.mp h; omega)⟩
theorem cmp_gt {x y : Int64} : (0 < lg_cmp x y) = (y < x) := by
  apply propext
  rcases cmp_sp x y with ⟨h, e⟩ | ⟨h, e⟩ | ⟨h, e⟩ <;> rw [e]
  · exact ⟨fun q => absurd q (by decide), fun q => absurd (i64_lt.mp q) (by have := i64_lt.mp h; omega)⟩
  · subst h; exact ⟨fun q => absurd q (by decide), fun q => absurd (i64_lt.mp q) (by omega)⟩
  · exact ⟨fun _ => h, fun _ => by decide⟩
theorem cmp_le {x y : Int64} : (lg_cmp x y ≤ 0) = (x ≤ y) := by
  apply propext
  rw [Int64.le_iff_toInt_le]
  rcases cmp_sp x y with ⟨h, e⟩ | ⟨h, e⟩ | ⟨h, e⟩ <;> rw [e]
  · exact ⟨fun _ => by have := i64_lt.mp h; omega, fun _ => by decide⟩
  · subst h; exact ⟨fun _ => by omega, fun _ => by decide⟩
  · exact ⟨fun q => absurd q (by decide), fun q => absurd (i64_lt.mp h) (by omega)⟩
theorem cmp_ge {x y : Int64} : (0 ≤ lg_cmp x y) = (y ≤ x) := by
  apply propext
  rw [Int64.le_iff_toInt_le]
  rcases cmp_sp x y with ⟨h, e⟩ | ⟨h, e⟩ | ⟨h, e⟩ <;> rw [e]
  · exact ⟨fun q => absurd q (by decide), fun q => absurd (i64_lt.mp h) (by omega)⟩
  · subst h; exact ⟨fun _ => by omega, fun _ => by decide⟩
  · exact ⟨fun _ => by have := i64_lt.mp h; omega, fun _ => by decide⟩
theorem cmp_eq {x y : Int64} : (lg_cmp x y = 0) = (x = y) := by
  apply propext
  rcases cmp_sp x y with ⟨h, e⟩ | ⟨h, e⟩ | ⟨h, e⟩ <;> rw [e]
  · exact ⟨fun q => absurd q (by decide), fun q => by subst q; exact absurd (i64_lt.mp h) (by omega)⟩
  · exact ⟨fun _ => h, fun _ => rfl⟩
  · exact ⟨fun q => absurd q (by decide), fun q => by subst q; exact absurd (i64_lt.mp h) (by omega)⟩
def NC := And.intro @cmp_lt (And.intro @cmp_gt (And.intro @cmp_le (And.intro @cmp_ge @cmp_eq)))
/-- cut to 48 bits, to 24 -/
def wh (x : Int64) : Int64 := x <<< ((16 : Int32).toInt64 &&& 63) >>> ((16 : Int32).toInt64 &&& 63)
def hf (x : Int64) : Int32 := (x <<< ((40 : Int32).toInt64 &&& 63) >>> ((40 : Int32).toInt64 &&& 63)).toInt32
theorem i32_nlt {x y : Int32} : (¬ x < y) = (y ≤ x) := by
  apply propext; rw [Int32.lt_iff_toInt_lt, Int32.le_iff_toInt_le]; omega
theorem i64_nlt {x y : Int64} : (¬ x < y) = (y ≤ x) := by
  apply propext; rw [Int64.lt_iff_toInt_lt, Int64.le_iff_toInt_le]; omega
theorem i32_le {x y : Int32} : (x ≤ y) = ¬ y < x := i32_nlt.symm
theorem i64_le {x y : Int64} : (x ≤ y) = ¬ y < x := i64_nlt.symm
/-- an index below n -/
theorem inN {i n : Nat} (h : i < n) (hn : n ≤ 65536) : vp_in (nI i) n ∧ (nI i).toNatClampNeg = i := ⟨vp_in_nI h (by omega), nI_clamp (by omega)⟩
theorem nI_nm {n : Nat} (h : n < 2 ^ 31) : ¬ nI n = -1 := by
  intro q
  have a := nI_toInt h
  rw [q] at a
  have : (-1 : Int32).toInt = -1 := by decide
  omega
theorem ff_some {p : Nat → Prop} [DecidablePred p] : ∀ {n i k : Nat}, ff p i n = some k → i ≤ k ∧ k < i + n ∧ p k ∧ ∀ m, i ≤ m → m < k → ¬ p m
  | 0, i, k, h => by simp [ff] at h
  | n + 1, i, k, h => by
    simp only [ff] at h
    split at h
    · rename_i hp
      cases h
      exact ⟨Nat.le_refl _, by omega, hp, fun m a b => by omega⟩
    · rename_i hp
      obtain ⟨h1, h2, h3, h4⟩ := ff_some h
      refine ⟨by omega, by omega, h3, fun m a b => ?_⟩
      by_cases hm : m = i
      · subst hm; exact hp
      · exact h4 m (by omega) b
theorem ff_none {p : Nat → Prop} [DecidablePred p] : ∀ {n i : Nat}, ff p i n = none → ∀ m, i ≤ m → m < i + n → ¬ p m
  | 0, i, h => fun m a b => by omega
  | n + 1, i, h => by
    simp only [ff] at h
    split at h
    · cases h
    · rename_i hp
      intro m a b
      by_cases hm : m = i
      · subst hm; exact hp
      · exact ff_none h m (by omega) (by omega)
/-- the first one, if there is one that is the first -/
theorem ff_eq {p : Nat → Prop} [DecidablePred p] {n i k : Nat} (h1 : i ≤ k) (h2 : k < i + n) (h3 : p k) (h4 : ∀ m, i ≤ m → m < k → ¬ p m) : ff p i n = some k := by
  cases h : ff p i n with
  | none => exact absurd h3 (ff_none h k h1 h2)
  | some q =>
    obtain ⟨a1, a2, a3, a4⟩ := ff_some h
    rcases Nat.lt_trichotomy q k with z | z | z
    · exact absurd a3 (h4 q a1 z)
    · rw [z]
    · exact absurd h3 (a4 k h1 z)
theorem ff_nil {p : Nat → Prop} [DecidablePred p] {n i : Nat} (h : ∀ m, i ≤ m → m < i + n → ¬ p m) : ff p i n = none := by
  cases hq : ff p i n with
  | none => rfl
  | some q => obtain ⟨a1, a2, a3, -⟩ := ff_some hq; exact absurd a3 (h q a1 a2)
theorem ff_cg {p q : Nat → Prop} [DecidablePred p] [DecidablePred q] : ∀ {n i : Nat}, (∀ m, i ≤ m → m < i + n → (p m ↔ q m)) → ff p i n = ff q i n
  | 0, _, _ => rfl
  | n + 1, i, h => by
    have := h i (Nat.le_refl i) (by omega)
    simp only [ff, this]
    rw [ff_cg (fun m a b => h m (by omega) (by omega))]
theorem ff_snoc {p : Nat → Prop} [DecidablePred p] : ∀ {n i : Nat}, ff p i (n + 1) = match ff p i n with | some k => some k | none => if p (i + n) then some (i + n) else none
  | 0, i => by simp [ff]
  | n + 1, i => by
    rw [ff]
    by_cases h : p i
    · simp [ff, h]
    · rw [if_neg h, ff_snoc (i := i + 1)]
      simp only [ff, if_neg h, show i + 1 + n = i + (n + 1) by omega]
def oa (a : Int32) (o : Option Nat) : Int32 := match o with
  | none => a
  | some k => nI k
theorem oa_n {a : Int32} : oa a none = a := rfl
theorem oa_s {a : Int32} {k : Nat} : oa a (some k) = nI k := rfl
theorem ff_last {p : Nat → Prop} [DecidablePred p] {n : Nat} {a : Int32} (h : p n) : oa (nI n) (ff p 0 n) = oa a (ff p 0 (n + 1)) := by
  rw [ff_snoc]
  cases ff p 0 n with
  | none => simp [h, oa]
  | some k => rfl
theorem ff_skip {p : Nat → Prop} [DecidablePred p] {n : Nat} {a : Int32} (h : ¬ p n) : oa a (ff p 0 n) = oa a (ff p 0 (n + 1)) := by
  rw [ff_snoc]
  cases ff p 0 n with
  | none => simp [h, oa]
  | some k => rfl
