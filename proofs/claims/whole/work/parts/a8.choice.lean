/-! the choice of a page: both rules choose one -/
/-- the first greatest by k among those of p, from i on, n of them, b being the best so far -/
def fm (p : Nat → Prop) [DecidablePred p] (k : Nat → Int) : Nat → Nat → Option Nat → Option Nat
  | _, 0, b => b
  | i, n + 1, b => fm p k (i + 1) n (if p i then (match b with | none => some i | some e => if k e < k i then some i else some e) else b)
theorem fm_s {p : Nat → Prop} [DecidablePred p] {k : Nat → Int} {i n : Nat} {b : Option Nat} : fm p k i (n + 1) b = fm p k (i + 1) n (if p i then (match b with | none => some i | some e => if k e < k i then some i else some e) else b) := by
  cases b <;> rfl
theorem be_s {s : Sg} {fr : Int32} {i n : Nat} {b : Option Nat} : beF s fr i (n + 1) b = beF s fr (i + 1) n (if gI s 2 1 i = 1 ∧ gI s 2 8 i = fr then (match b with | none => some i | some e => if gbF s i e = 0 then b else some i) else b) := by
  cases b <;> rfl
theorem fm_some {p : Nat → Prop} [DecidablePred p] {k : Nat → Int} : ∀ n i e, ∃ e', fm p k i n (some e) = some e'
  | 0, _, e => ⟨e, rfl⟩
  | n + 1, i, e => by
    rw [fm_s]
    split
    · dsimp only
      split
      · exact fm_some n (i + 1) i
      · exact fm_some n (i + 1) e
    · exact fm_some n (i + 1) e
/-- what it says of b, all before i being looked at -/
def fmS (p : Nat → Prop) (k : Nat → Int) (i : Nat) (b : Option Nat) : Prop := match b with
  | none => ∀ e, e < i → ¬ p e
  | some m => m < i ∧ p m ∧ (∀ e, e < i → p e → k e ≤ k m) ∧ ∀ e, e < m → p e → k e < k m
theorem fm_S {p : Nat → Prop} [DecidablePred p] {k : Nat → Int} : ∀ n i b, fmS p k i b → fmS p k (i + n) (fm p k i n b)
  | 0, i, b, h => h
  | n + 1, i, b, h => by
    rw [fm_s, show i + (n + 1) = i + 1 + n by omega]
    refine fm_S n (i + 1) _ ?_
    by_cases c : p i
    · rw [if_pos c]
      cases b with
      | none =>
        have h' : ∀ e, e < i → ¬ p e := h
        show i < i + 1 ∧ p i ∧ (∀ e, e < i + 1 → p e → k e ≤ k i) ∧ ∀ e, e < i → p e → k e < k i
        refine ⟨by omega, c, fun e he hp => ?_, fun e he hp => absurd hp (h' e he)⟩
        by_cases q : e = i
        · rw [q]; exact Int.le_refl _
        · exact absurd hp (h' e (by omega))
      | some m =>
        obtain ⟨h1, h2, h3, h4⟩ : m < i ∧ p m ∧ (∀ e, e < i → p e → k e ≤ k m) ∧ ∀ e, e < m → p e → k e < k m := h
        dsimp only
        by_cases q : k m < k i
        · rw [if_pos q]
          show i < i + 1 ∧ p i ∧ (∀ e, e < i + 1 → p e → k e ≤ k i) ∧ ∀ e, e < i → p e → k e < k i
          refine ⟨by omega, c, fun e he hp => ?_, fun e he hp => ?_⟩
          · by_cases z : e = i
            · rw [z]; exact Int.le_refl _
            · have := h3 e (by omega) hp; omega
          · have := h3 e (by omega) hp; omega
        · rw [if_neg q]
          show m < i + 1 ∧ p m ∧ (∀ e, e < i + 1 → p e → k e ≤ k m) ∧ ∀ e, e < m → p e → k e < k m
          refine ⟨by omega, h2, fun e he hp => ?_, h4⟩
          by_cases z : e = i
          · rw [z]; omega
          · exact h3 e (by omega) hp
    · rw [if_neg c]
      cases b with
      | none =>
        have h' : ∀ e, e < i → ¬ p e := h
        show ∀ e, e < i + 1 → ¬ p e
        intro e he hp
        by_cases q : e = i
        · rw [q] at hp; exact c hp
        · exact h' e (by omega) hp
      | some m =>
        obtain ⟨h1, h2, h3, h4⟩ : m < i ∧ p m ∧ (∀ e, e < i → p e → k e ≤ k m) ∧ ∀ e, e < m → p e → k e < k m := h
        show m < i + 1 ∧ p m ∧ (∀ e, e < i + 1 → p e → k e ≤ k m) ∧ ∀ e, e < m → p e → k e < k m
        refine ⟨by omega, h2, fun e he hp => ?_, h4⟩
        by_cases z : e = i
        · rw [z] at hp; exact absurd hp c
        · exact h3 e (by omega) hp
theorem fm_0 {p : Nat → Prop} [DecidablePred p] {k : Nat → Int} (n : Nat) : fmS p k n (fm p k 0 n none) := by
  have := fm_S (p := p) (k := k) n 0 none (fun e he => by omega)
  rw [Nat.zero_add] at this
  exact this
theorem fmS_u {p : Nat → Prop} {k : Nat → Int} {n : Nat} {b b' : Option Nat} (h : fmS p k n b) (h' : fmS p k n b') : b = b' := by
  cases b with
  | none =>
    cases b' with
    | none => rfl
    | some m =>
      have h1 : ∀ e, e < n → ¬ p e := h
      obtain ⟨a1, a2, a3, a4⟩ : m < n ∧ p m ∧ (∀ e, e < n → p e → k e ≤ k m) ∧ ∀ e, e < m → p e → k e < k m := h'
      exact absurd a2 (h1 m a1)
  | some m =>
    obtain ⟨a1, a2, a3, a4⟩ : m < n ∧ p m ∧ (∀ e, e < n → p e → k e ≤ k m) ∧ ∀ e, e < m → p e → k e < k m := h
    cases b' with
    | none =>
      have h1 : ∀ e, e < n → ¬ p e := h'
      exact absurd a2 (h1 m a1)
    | some m' =>
      obtain ⟨b1, b2, b3, b4⟩ : m' < n ∧ p m' ∧ (∀ e, e < n → p e → k e ≤ k m') ∧ ∀ e, e < m' → p e → k e < k m' := h'
      have c1 := a3 m' b1 b2
      have c2 := b3 m a1 a2
      have d1 : ¬ m < m' := fun z => by have := b4 m z a2; omega
      have d2 : ¬ m' < m := fun z => by have := a4 m' z b2; omega
      rw [show m = m' by omega]
section Cho1
variable {g : Nat → Nat → Nat} {s t u : Sg} {nf B : Nat} {Q : List Nat}
/-- the part of the rule, and the worth -/
def paF (t : Sg) (f : Nat) : Nat := if gI t 46 f 0 + 1 < gI t 45 f 0 then 2 else if 0 < gI t 46 f 0 then 1 else 0
def kaF (t : Sg) (f : Nat) : Int := 8589934592 * (paF t f : Int) + (if paF t f = 1 then (gI t 46 f 0 - gI t 45 f 0).toInt else (gI t 45 f 0).toInt)
theorem pa_c {f : Nat} (h5 : gI s 2 5 f = gI t 45 f 0) (h6 : gI s 2 6 f = gI t 46 f 0) : prtF s f = nI (paF t f) := by
  unfold prtF paF
  rw [h5, h6]
  repeat' split
  all_goals rfl
theorem pa_3 (t : Sg) (f : Nat) : paF t f = 0 ∨ paF t f = 1 ∨ paF t f = 2 := by
  unfold paF
  repeat' split
  all_goals omega
theorem gb_k {f e : Nat} (h5 : gI s 2 5 f = gI t 45 f 0) (h6 : gI s 2 6 f = gI t 46 f 0) (h5' : gI s 2 5 e = gI t 45 e 0) (h6' : gI s 2 6 e = gI t 46 e 0) : gbF s f e = 0 ↔ ¬ kaF t e < kaF t f := by
  unfold gbF
  rw [pa_c h5 h6, pa_c h5' h6', h5, h6, h5', h6']
  unfold kaF
  have b1 := i32_b (gI t 45 f 0)
  have b2 := i32_b (gI t 45 e 0)
  have b3 := i32_b (gI t 46 f 0 - gI t 45 f 0)
  have b4 := i32_b (gI t 46 e 0 - gI t 45 e 0)
  have l1 : (gI t 46 e 0 - gI t 45 e 0 < gI t 46 f 0 - gI t 45 f 0) ↔ (gI t 46 e 0 - gI t 45 e 0).toInt < (gI t 46 f 0 - gI t 45 f 0).toInt := Int32.lt_iff_toInt_lt
  have l2 : (gI t 45 e 0 < gI t 45 f 0) ↔ (gI t 45 e 0).toInt < (gI t 45 f 0).toInt := Int32.lt_iff_toInt_lt
  have n1 : ¬ (1 : Int32) = 0 := by decide
  rcases pa_3 t f with x | x | x <;> rcases pa_3 t e with y | y | y <;> rw [x, y]
  · rw [if_pos rfl, if_neg (show ¬ nI 0 = 1 by decide), if_neg (show ¬ 0 = 1 by omega), if_neg (show ¬ 0 = 1 by omega)]
    split <;> rename_i z <;> rw [l2] at z
    · exact ⟨fun q => absurd q n1, fun q => absurd (by omega) q⟩
    · exact ⟨fun _ => by omega, fun _ => rfl⟩
  · rw [if_neg (show ¬ nI 0 = nI 1 by decide), if_neg (show ¬ nI 1 < nI 0 by decide), if_pos rfl, if_neg (show ¬ 0 = 1 by omega)]
    exact ⟨fun _ => by omega, fun _ => rfl⟩
  · rw [if_neg (show ¬ nI 0 = nI 2 by decide), if_neg (show ¬ nI 2 < nI 0 by decide), if_neg (show ¬ 2 = 1 by omega), if_neg (show ¬ 0 = 1 by omega)]
    exact ⟨fun _ => by omega, fun _ => rfl⟩
  · rw [if_neg (show ¬ nI 1 = nI 0 by decide), if_pos (show nI 0 < nI 1 by decide), if_neg (show ¬ 0 = 1 by omega), if_pos rfl]
    exact ⟨fun q => absurd q n1, fun q => absurd (by omega) q⟩
  · rw [if_pos rfl, if_pos (show nI 1 = 1 by decide), if_pos rfl, if_pos rfl]
    split <;> rename_i z <;> rw [l1] at z
    · exact ⟨fun q => absurd q n1, fun q => absurd (by omega) q⟩
    · exact ⟨fun _ => by omega, fun _ => rfl⟩
  · rw [if_neg (show ¬ nI 1 = nI 2 by decide), if_neg (show ¬ nI 2 < nI 1 by decide), if_neg (show ¬ 2 = 1 by omega), if_pos rfl]
    exact ⟨fun _ => by omega, fun _ => rfl⟩
  · rw [if_neg (show ¬ nI 2 = nI 0 by decide), if_pos (show nI 0 < nI 2 by decide), if_neg (show ¬ 0 = 1 by omega), if_neg (show ¬ 2 = 1 by omega)]
    exact ⟨fun q => absurd q n1, fun q => absurd (by omega) q⟩
  · rw [if_neg (show ¬ nI 2 = nI 1 by decide), if_pos (show nI 1 < nI 2 by decide), if_pos rfl, if_neg (show ¬ 2 = 1 by omega)]
    exact ⟨fun q => absurd q n1, fun q => absurd (by omega) q⟩
  · rw [if_pos rfl, if_neg (show ¬ nI 2 = 1 by decide), if_neg (show ¬ 2 = 1 by omega), if_neg (show ¬ 2 = 1 by omega)]
    split <;> rename_i z <;> rw [l2] at z
    · exact ⟨fun q => absurd q n1, fun q => absurd (by omega) q⟩
    · exact ⟨fun _ => by omega, fun _ => rfl⟩
/-- the class's best -/
theorem be_fm (hF : re_F s t nf) {fr : Int32} : ∀ n i b, i + n ≤ nf → (∀ e, b = some e → e < nf) → beF s fr i n b = fm (fun f => gI t 42 f 0 = 1 ∧ gI t 48 f 0 = fr) (kaF t) i n b
  | 0, _, _, _, _ => rfl
  | n + 1, i, b, hi, hb => by
    have hF' := hF
    obtain ⟨f1, f2, f3, f5, f6, f7, f8, fb⟩ := hF
    rw [be_s, fm_s, f1 i (by omega), f8 i (by omega)]
    by_cases c : gI t 42 i 0 = 1 ∧ gI t 48 i 0 = fr
    · rw [if_pos c, if_pos c]
      cases b with
      | none => exact be_fm hF' n (i + 1) (some i) (by omega) (fun x hx => by cases hx; omega)
      | some e =>
        dsimp only
        have k := gb_k (f5 i (by omega)) (f6 i (by omega)) (f5 e (hb e rfl)) (f6 e (hb e rfl))
        by_cases z : kaF t e < kaF t i
        · rw [if_pos z, if_neg (fun y => k.mp y z)]
          exact be_fm hF' n (i + 1) (some i) (by omega) (fun x hx => by cases hx; omega)
        · rw [if_neg z, if_pos (k.mpr z)]
          exact be_fm hF' n (i + 1) (some e) (by omega) (fun x hx => by cases hx; exact hb e rfl)
    · rw [if_neg c, if_neg c]
      exact be_fm hF' n (i + 1) b (by omega) hb
/-- a rule of the reference -/
theorem ch_some {af : Int32} {r : Nat} : ∀ n i e, i + n ≤ 16 → e < 16 → ∃ e', fm (cqP t af r) (fun f => (cwF t r f).toInt) i n (some e) = some e' ∧ e' < 16 ∧ (chF t af r i n (nI e, cwF t r e)).1 = nI e'
  | 0, i, e, hi, he => ⟨e, rfl, he, rfl⟩
  | n + 1, i, e, hi, he => by
    have hn : ¬ nI e < 0 := nI_pos (by omega)
    rw [fm_s, chF]
    by_cases q : cqP t af r i
    · rw [if_pos q]
      dsimp only
      by_cases z : cwF t r e < cwF t r i
      · rw [if_pos (Int32.lt_iff_toInt_lt.mp z), if_pos ⟨q, fun y => y.2 z⟩]
        exact ch_some n (i + 1) i (by omega) (by omega)
      · rw [if_neg (fun y => z (Int32.lt_iff_toInt_lt.mpr y)), if_neg (fun y => y.2 ⟨hn, z⟩)]
        exact ch_some n (i + 1) e (by omega) he
    · rw [if_neg q, if_neg (fun z => q z.1)]
      exact ch_some n (i + 1) e (by omega) he
theorem ch_none {af : Int32} {r : Nat} : ∀ n i, i + n ≤ 16 → (fm (cqP t af r) (fun f => (cwF t r f).toInt) i n none = none ∧ (chF t af r i n (-1, 0)).1 = -1) ∨ ∃ e', fm (cqP t af r) (fun f => (cwF t r f).toInt) i n none = some e' ∧ e' < 16 ∧ (chF t af r i n (-1, 0)).1 = nI e'
  | 0, i, hi => Or.inl ⟨rfl, rfl⟩
  | n + 1, i, hi => by
    rw [fm_s, chF]
    have hm : (-1 : Int32) < 0 := by decide
    by_cases q : cqP t af r i
    · rw [if_pos q, if_pos ⟨q, fun z => z.1 hm⟩]
      exact Or.inr (ch_some n (i + 1) i (by omega) (by omega))
    · rw [if_neg q, if_neg (fun z => q z.1)]
      exact ch_none n (i + 1) (by omega)
theorem ch_oi {af : Int32} {r n : Nat} (h : n ≤ 16) : (chF t af r 0 n (-1, 0)).1 = oi (fm (cqP t af r) (fun f => (cwF t r f).toInt) 0 n none) ∧ ∀ e, fm (cqP t af r) (fun f => (cwF t r f).toInt) 0 n none = some e → e < 16 := by
  rcases ch_none (t := t) (af := af) (r := r) n 0 (by omega) with ⟨a1, a2⟩ | ⟨e, a1, a2, a3⟩
  · rw [a1, a2]
    exact ⟨rfl, fun e z => by cases z⟩
  · rw [a1, a3]
    exact ⟨rfl, fun e z => by cases z; exact a2⟩
theorem af_eq : ∀ n i (a : Int32), (afF t i n a = 0 ∧ ((∃ f, i ≤ f ∧ f < i + n ∧ gI t 42 f 0 = 1 ∧ gI t 48 f 0 = 0) ∨ a = 0)) ∨ (afF t i n a = a ∧ ∀ f, i ≤ f → f < i + n → ¬ (gI t 42 f 0 = 1 ∧ gI t 48 f 0 = 0))
  | 0, i, a => Or.inr ⟨rfl, fun f h1 h2 => by omega⟩
  | n + 1, i, a => by
    rw [afF]
    by_cases c : gI t 42 i 0 = 1 ∧ gI t 48 i 0 = 0
    · rw [if_pos c]
      rcases af_eq n (i + 1) 0 with ⟨h1, h2⟩ | ⟨h1, h2⟩
      · exact Or.inl ⟨h1, Or.inl ⟨i, by omega, by omega, c⟩⟩
      · exact Or.inl ⟨h1, Or.inl ⟨i, by omega, by omega, c⟩⟩
    · rw [if_neg c]
      rcases af_eq n (i + 1) a with ⟨h1, h2⟩ | ⟨h1, h2⟩
      · refine Or.inl ⟨h1, ?_⟩
        rcases h2 with ⟨f, b1, b2, b3⟩ | h2
        · exact Or.inl ⟨f, by omega, by omega, b3⟩
        · exact Or.inr h2
      · refine Or.inr ⟨h1, fun f b1 b2 => ?_⟩
        by_cases z : f = i
        · rw [z]; exact c
        · exact h2 f (by omega) (by omega)
/-- the three rules are one order -/
theorem ch_3 {n : Nat} {af : Int32} (hn : n ≤ 16) : (if (chF t af 0 0 n (-1, 0)).1 < 0 then (if (chF t af 1 0 n (-1, 0)).1 < 0 then (if (chF t af 2 0 n (-1, 0)).1 < 0 then -1 else (chF t af 2 0 n (-1, 0)).1) else (chF t af 1 0 n (-1, 0)).1) else (chF t af 0 0 n (-1, 0)).1) = oi (fm (fun f => gI t 42 f 0 = 1 ∧ ¬ (af = 0 ∧ gI t 48 f 0 = 1)) (kaF t) 0 n none) := by
  obtain ⟨a0, b0⟩ := ch_oi (t := t) (af := af) (r := 0) hn
  obtain ⟨a1, b1⟩ := ch_oi (t := t) (af := af) (r := 1) hn
  obtain ⟨a2, b2⟩ := ch_oi (t := t) (af := af) (r := 2) hn
  rw [a0, a1, a2]
  have s0 := fm_0 (p := cqP t af 0) (k := fun f => (cwF t 0 f).toInt) n
  have s1 := fm_0 (p := cqP t af 1) (k := fun f => (cwF t 1 f).toInt) n
  have s2 := fm_0 (p := cqP t af 2) (k := fun f => (cwF t 2 f).toInt) n
  have sk := fm_0 (p := fun f => gI t 42 f 0 = 1 ∧ ¬ (af = 0 ∧ gI t 48 f 0 = 1)) (k := kaF t) n
  have pos : ∀ e, e < 16 → ¬ nI e < 0 := fun e he => nI_pos (by omega)
  have hm : (-1 : Int32) < 0 := by decide
  have bd : ∀ f, -2147483648 ≤ (gI t 45 f 0).toInt ∧ (gI t 45 f 0).toInt < 2147483648 := fun f => i32_b _
  have bd2 : ∀ f, -2147483648 ≤ (gI t 46 f 0 - gI t 45 f 0).toInt ∧ (gI t 46 f 0 - gI t 45 f 0).toInt < 2147483648 := fun f => i32_b _
  have k2 : ∀ f, gI t 46 f 0 + 1 < gI t 45 f 0 → kaF t f = 17179869184 + (gI t 45 f 0).toInt := fun f h => by
    have : paF t f = 2 := by unfold paF; rw [if_pos h]
    unfold kaF
    rw [this, if_neg (by omega)]
    omega
  have k1 : ∀ f, ¬ gI t 46 f 0 + 1 < gI t 45 f 0 → 0 < gI t 46 f 0 → kaF t f = 8589934592 + (gI t 46 f 0 - gI t 45 f 0).toInt := fun f h h' => by
    have : paF t f = 1 := by unfold paF; rw [if_neg h, if_pos h']
    unfold kaF
    rw [this, if_pos rfl]
    omega
  have k0 : ∀ f, ¬ gI t 46 f 0 + 1 < gI t 45 f 0 → ¬ 0 < gI t 46 f 0 → kaF t f = (gI t 45 f 0).toInt := fun f h h' => by
    have : paF t f = 0 := by unfold paF; rw [if_neg h, if_neg h']
    unfold kaF
    rw [this, if_neg (by omega)]
    omega
  cases e0 : fm (cqP t af 0) (fun f => (cwF t 0 f).toInt) 0 n none with
  | some m =>
    rw [e0] at s0 b0
    rw [oi_s, if_neg (pos m (b0 m rfl))]
    obtain ⟨c1, c2, c3, c4⟩ : m < n ∧ cqP t af 0 m ∧ (∀ e, e < n → cqP t af 0 e → (cwF t 0 e).toInt ≤ (cwF t 0 m).toInt) ∧ ∀ e, e < m → cqP t af 0 e → (cwF t 0 e).toInt < (cwF t 0 m).toInt := s0
    have hw : ∀ f, cwF t 0 f = gI t 45 f 0 := fun f => rfl
    have km := k2 m (c2.2.2.1 rfl)
    have : fmS (fun f => gI t 42 f 0 = 1 ∧ ¬ (af = 0 ∧ gI t 48 f 0 = 1)) (kaF t) n (some m) := by
      have cmp : ∀ e, (gI t 42 e 0 = 1 ∧ ¬ (af = 0 ∧ gI t 48 e 0 = 1)) → ¬ cqP t af 0 e → kaF t e < kaF t m := fun e he hc => by
        have h2 : ¬ gI t 46 e 0 + 1 < gI t 45 e 0 := fun z => hc ⟨he.1, he.2, fun _ => z, fun z => by omega⟩
        have x1 := bd e
        have x2 := bd2 e
        have x3 := bd m
        rw [km]
        by_cases h1 : 0 < gI t 46 e 0
        · rw [k1 e h2 h1]; omega
        · rw [k0 e h2 h1]; omega
      refine ⟨c1, ⟨c2.1, c2.2.1⟩, fun e he hp => ?_, fun e he hp => ?_⟩
      · by_cases z : cqP t af 0 e
        · have := c3 e he z
          rw [hw, hw] at this
          rw [km, k2 e (z.2.2.1 rfl)]
          omega
        · exact Int.le_of_lt (cmp e hp z)
      · by_cases z : cqP t af 0 e
        · have := c4 e he z
          rw [hw, hw] at this
          rw [km, k2 e (z.2.2.1 rfl)]
          omega
        · exact cmp e hp z
    rw [fmS_u sk this]
    rfl
  | none =>
    rw [e0] at s0
    have n0 : ∀ e, e < n → ¬ cqP t af 0 e := s0
    have np2 : ∀ e, e < n → (gI t 42 e 0 = 1 ∧ ¬ (af = 0 ∧ gI t 48 e 0 = 1)) → ¬ gI t 46 e 0 + 1 < gI t 45 e 0 := fun e he hp z => n0 e he ⟨hp.1, hp.2, fun _ => z, fun z => by omega⟩
    rw [oi_n, if_pos hm]
    cases e1 : fm (cqP t af 1) (fun f => (cwF t 1 f).toInt) 0 n none with
    | some m =>
      rw [e1] at s1 b1
      rw [oi_s, if_neg (pos m (b1 m rfl))]
      obtain ⟨c1, c2, c3, c4⟩ : m < n ∧ cqP t af 1 m ∧ (∀ e, e < n → cqP t af 1 e → (cwF t 1 e).toInt ≤ (cwF t 1 m).toInt) ∧ ∀ e, e < m → cqP t af 1 e → (cwF t 1 e).toInt < (cwF t 1 m).toInt := s1
      have hw : ∀ f, cwF t 1 f = gI t 46 f 0 - gI t 45 f 0 := fun f => rfl
      have km := k1 m (np2 m c1 ⟨c2.1, c2.2.1⟩) (c2.2.2.2 rfl)
      have : fmS (fun f => gI t 42 f 0 = 1 ∧ ¬ (af = 0 ∧ gI t 48 f 0 = 1)) (kaF t) n (some m) := by
        have cmp : ∀ e, e < n → (gI t 42 e 0 = 1 ∧ ¬ (af = 0 ∧ gI t 48 e 0 = 1)) → ¬ cqP t af 1 e → kaF t e < kaF t m := fun e hen he hc => by
          have h2 := np2 e hen he
          have h1 : ¬ 0 < gI t 46 e 0 := fun z => hc ⟨he.1, he.2, fun z => by omega, fun _ => z⟩
          have x1 := bd e
          have x3 := bd2 m
          rw [km, k0 e h2 h1]; omega
        refine ⟨c1, ⟨c2.1, c2.2.1⟩, fun e he hp => ?_, fun e he hp => ?_⟩
        · by_cases z : cqP t af 1 e
          · have := c3 e he z
            rw [hw, hw] at this
            rw [km, k1 e (np2 e he hp) (z.2.2.2 rfl)]
            omega
          · exact Int.le_of_lt (cmp e he hp z)
        · by_cases z : cqP t af 1 e
          · have := c4 e he z
            rw [hw, hw] at this
            rw [km, k1 e (np2 e (by omega) hp) (z.2.2.2 rfl)]
            omega
          · exact cmp e (by omega) hp z
      rw [fmS_u sk this]
      rfl
    | none =>
      rw [e1] at s1
      have n1 : ∀ e, e < n → ¬ cqP t af 1 e := s1
      have np1 : ∀ e, e < n → (gI t 42 e 0 = 1 ∧ ¬ (af = 0 ∧ gI t 48 e 0 = 1)) → ¬ 0 < gI t 46 e 0 := fun e he hp z => n1 e he ⟨hp.1, hp.2, fun z => by omega, fun _ => z⟩
      rw [oi_n, if_pos hm]
      have hw : ∀ f, cwF t 2 f = gI t 45 f 0 := fun f => rfl
      have q2 : ∀ e, (gI t 42 e 0 = 1 ∧ ¬ (af = 0 ∧ gI t 48 e 0 = 1)) → cqP t af 2 e := fun e hp => ⟨hp.1, hp.2, fun z => by omega, fun z => by omega⟩
      cases e2 : fm (cqP t af 2) (fun f => (cwF t 2 f).toInt) 0 n none with
      | some m =>
        rw [e2] at s2 b2
        rw [oi_s, if_neg (pos m (b2 m rfl))]
        obtain ⟨c1, c2, c3, c4⟩ : m < n ∧ cqP t af 2 m ∧ (∀ e, e < n → cqP t af 2 e → (cwF t 2 e).toInt ≤ (cwF t 2 m).toInt) ∧ ∀ e, e < m → cqP t af 2 e → (cwF t 2 e).toInt < (cwF t 2 m).toInt := s2
        have hp := (⟨c2.1, c2.2.1⟩ : gI t 42 m 0 = 1 ∧ ¬ (af = 0 ∧ gI t 48 m 0 = 1))
        have km := k0 m (np2 m c1 hp) (np1 m c1 hp)
        have : fmS (fun f => gI t 42 f 0 = 1 ∧ ¬ (af = 0 ∧ gI t 48 f 0 = 1)) (kaF t) n (some m) := by
          refine ⟨c1, hp, fun e he hp => ?_, fun e he hp => ?_⟩
          · have := c3 e he (q2 e hp)
            rw [hw, hw] at this
            rw [km, k0 e (np2 e he hp) (np1 e he hp)]
            omega
          · have := c4 e he (q2 e hp)
            rw [hw, hw] at this
            rw [km, k0 e (np2 e (by omega) hp) (np1 e (by omega) hp)]
            omega
        rw [fmS_u sk this]
        rfl
      | none =>
        rw [e2] at s2
        have n2 : ∀ e, e < n → ¬ cqP t af 2 e := s2
        rw [oi_n, if_pos hm]
        have : fmS (fun f => gI t 42 f 0 = 1 ∧ ¬ (af = 0 ∧ gI t 48 f 0 = 1)) (kaF t) n none := fun e he hp => n2 e he (q2 e hp)
        rw [fmS_u sk this]
        rfl
theorem fm_cg {p q : Nat → Prop} [DecidablePred p] [DecidablePred q] {k : Nat → Int} {n : Nat} (h : ∀ e, e < n → (p e ↔ q e)) : fm p k 0 n none = fm q k 0 n none := by
  have h1 := fm_0 (p := p) (k := k) n
  have h2 := fm_0 (p := q) (k := k) n
  refine fmS_u h1 ?_
  cases e : fm q k 0 n none with
  | none =>
    rw [e] at h2
    have h3 : ∀ e, e < n → ¬ q e := h2
    exact fun e he hp => h3 e he ((h e he).mp hp)
  | some m =>
    rw [e] at h2
    obtain ⟨a1, a2, a3, a4⟩ : m < n ∧ q m ∧ (∀ e, e < n → q e → k e ≤ k m) ∧ ∀ e, e < m → q e → k e < k m := h2
    exact ⟨a1, (h m a1).mpr a2, fun e he hp => a3 e he ((h e he).mp hp), fun e he hp => a4 e he ((h e (by omega)).mp hp)⟩
/-- both programs choose one frame -/
theorem cho_eq (h : Rl g s t nf B Q) : choF t nf = oi (choG s nf) ∧ ∀ f, choG s nf = some f → f < nf ∧ gI t 42 f 0 = 1 := by
  have hF := h.2.2.1.1
  have hnf : nf ≤ 16 := h.1.1.1.2
  have fb := hF.2.2.2.2.2.2.2
  have g0 := be_fm hF (fr := 0) nf 0 none (by omega) (fun e z => by cases z)
  have g1 := be_fm hF (fr := 1) nf 0 none (by omega) (fun e z => by cases z)
  unfold choF choG
  dsimp only
  rw [ch_3 hnf, g0, g1]
  have s0 := fm_0 (p := fun f => gI t 42 f 0 = 1 ∧ gI t 48 f 0 = 0) (k := kaF t) nf
  have s1 := fm_0 (p := fun f => gI t 42 f 0 = 1 ∧ gI t 48 f 0 = 1) (k := kaF t) nf
  have n01 : ¬ (0 : Int32) = 1 := by decide
  have n10 : ¬ (1 : Int32) = 0 := by decide
  cases e0 : fm (fun f => gI t 42 f 0 = 1 ∧ gI t 48 f 0 = 0) (kaF t) 0 nf none with
  | some m =>
    rw [e0] at s0
    obtain ⟨a1, a2, a3, a4⟩ : m < nf ∧ (gI t 42 m 0 = 1 ∧ gI t 48 m 0 = 0) ∧ _ := s0
    have haf : afF t 0 nf 1 = 0 := by
      rcases af_eq (t := t) nf 0 1 with ⟨x, _⟩ | ⟨_, x⟩
      · exact x
      · exact absurd a2 (x m (by omega) (by omega))
    rw [haf, fm_cg (q := fun f => gI t 42 f 0 = 1 ∧ gI t 48 f 0 = 0) (fun e he => ?_), e0]
    · exact ⟨rfl, fun f z => by cases z; exact ⟨a1, a2.1⟩⟩
    · have := (fb e he).2
      constructor
      · rintro ⟨x, y⟩
        exact ⟨x, this.elim id (fun z => absurd ⟨rfl, z⟩ y)⟩
      · rintro ⟨x, y⟩
        exact ⟨x, fun z => n01 (y.symm.trans z.2)⟩
  | none =>
    rw [e0] at s0
    have n0 : ∀ e, e < nf → ¬ (gI t 42 e 0 = 1 ∧ gI t 48 e 0 = 0) := s0
    have haf : afF t 0 nf 1 = 1 := by
      rcases af_eq (t := t) nf 0 1 with ⟨_, x⟩ | ⟨x, _⟩
      · rcases x with ⟨f, y1, y2, y3⟩ | x
        · exact absurd y3 (n0 f (by omega))
        · exact absurd x n10
      · exact x
    rw [haf, fm_cg (q := fun f => gI t 42 f 0 = 1 ∧ gI t 48 f 0 = 1) (fun e he => ?_)]
    · refine ⟨rfl, fun f z => ?_⟩
      dsimp only at z
      rw [z] at s1
      obtain ⟨a1, a2, a3⟩ : f < nf ∧ (gI t 42 f 0 = 1 ∧ gI t 48 f 0 = 1) ∧ _ := s1
      exact ⟨a1, a2.1⟩
    · have := (fb e he).2
      constructor
      · rintro ⟨x, y⟩
        exact ⟨x, this.elim (fun z => absurd ⟨x, z⟩ (n0 e he)) id⟩
      · rintro ⟨x, y⟩
        exact ⟨x, fun z => n10 z.1⟩
end Cho1
