/-! counting the bits that are 1: by halves of all at once, or one by one -/
theorem an8 (y b m c : Nat) (hb : b < 256) (hc : c < 256) : (256 * y + b) &&& (256 * m + c) = 256 * (y &&& m) + (b &&& c) := by
  have h1 : ((256 * y + b) &&& (256 * m + c)) / 2 ^ 8 = (256 * y + b) / 2 ^ 8 &&& (256 * m + c) / 2 ^ 8 := Nat.and_div_two_pow
  have h2 : ((256 * y + b) &&& (256 * m + c)) % 2 ^ 8 = (256 * y + b) % 2 ^ 8 &&& (256 * m + c) % 2 ^ 8 := Nat.and_mod_two_pow
  rw [show (256 * y + b) / 2 ^ 8 = y by omega, show (256 * m + c) / 2 ^ 8 = m by omega] at h1
  rw [show (256 * y + b) % 2 ^ 8 = b by omega, show (256 * m + c) % 2 ^ 8 = c by omega] at h2
  omega
/-- n bytes, each c -/
def rpb (c : Nat) : Nat → Nat
  | 0 => 0
  | n + 1 => 256 * rpb c n + c
def pp1 (n v : Nat) : Nat := v - (v / 2 &&& rpb 85 n)
def pp2 (n v : Nat) : Nat := (v &&& rpb 51 n) + (v / 4 &&& rpb 51 n)
def pp3 (n v : Nat) : Nat := (v + v / 16) &&& rpb 15 n
def pcb (b : Nat) : Nat := b % 2 + b / 2 % 2 + b / 4 % 2 + b / 8 % 2 + b / 16 % 2 + b / 32 % 2 + b / 64 % 2 + b / 128 % 2
theorem by1 : ∀ e, e < 2 → ∀ b, b < 256 → (128 * e + b / 2) &&& 85 = b / 2 &&& 85 := by decide +kernel
theorem by2 : ∀ e, e < 4 → ∀ b, b < 256 → (64 * e + b / 4) &&& 51 = b / 4 &&& 51 := by decide +kernel
theorem by4 : ∀ b, b < 256 → (b / 2 &&& 85) ≤ b ∧ b - (b / 2 &&& 85) < 256 := by decide +kernel
def b12 (b : Nat) : Nat := ((b - (b / 2 &&& 85)) &&& 51) + ((b - (b / 2 &&& 85)) / 4 &&& 51)
theorem by5 : ∀ b, b < 256 → b12 b % 16 ≤ 4 ∧ b12 b / 16 ≤ 4 ∧ ((b12 b + b12 b / 16) &&& 15) = pcb b := by decide +kernel
theorem by6 : ∀ e, e < 5 → ∀ c, c < 80 → (16 * e + c) &&& 15 = c &&& 15 := by decide +kernel
theorem pp1_s (n y b : Nat) (hb : b < 256) : pp1 (n + 1) (256 * y + b) = 256 * pp1 n y + (b - (b / 2 &&& 85)) := by
  unfold pp1
  rw [rpb, show (256 * y + b) / 2 = 256 * (y / 2) + (128 * (y % 2) + b / 2) by omega, an8 _ _ _ _ (by omega) (by omega), by1 _ (by omega) b hb]
  have h1 : (y / 2 &&& rpb 85 n) ≤ y / 2 := Nat.and_le_left
  have h2 := (by4 b hb).1
  omega
theorem pp2_s (n y b : Nat) (hb : b < 256) : pp2 (n + 1) (256 * y + b) = 256 * pp2 n y + ((b &&& 51) + (b / 4 &&& 51)) := by
  unfold pp2
  rw [rpb, show (256 * y + b) / 4 = 256 * (y / 4) + (64 * (y % 4) + b / 4) by omega, an8 _ _ _ _ (by omega) (by omega), an8 _ _ _ _ (by omega) (by omega), by2 _ (by omega) b hb]
  omega
theorem pp3_s (n y b : Nat) (hb : b % 16 ≤ 4) (hb2 : b / 16 ≤ 4) (hy : y % 16 ≤ 4) : pp3 (n + 1) (256 * y + b) = 256 * pp3 n y + ((b + b / 16) &&& 15) := by
  unfold pp3
  rw [rpb, show 256 * y + b + (256 * y + b) / 16 = 256 * (y + y / 16) + (16 * (y % 16) + (b + b / 16)) by omega, an8 _ _ _ _ (by omega) (by omega), by6 _ (by omega) _ (by omega)]
def ppp (n v : Nat) : Nat := pp2 n (pp1 n v)
theorem ppp_s (n y b : Nat) (hb : b < 256) : ppp (n + 1) (256 * y + b) = 256 * ppp n y + b12 b := by
  unfold ppp
  rw [pp1_s n y b hb, pp2_s _ _ _ (by4 b hb).2]
  rfl
theorem ppp_m : ∀ n v, ppp n v % 16 ≤ 4
  | 0, v => by unfold ppp pp2 rpb; simp
  | n + 1, v => by
    rw [show v = 256 * (v / 256) + v % 256 by omega, ppp_s _ _ _ (by omega)]
    have := (by5 (v % 256) (by omega)).1
    omega
theorem pop_s (n y b : Nat) (hb : b < 256) : pp3 (n + 1) (ppp (n + 1) (256 * y + b)) = 256 * pp3 n (ppp n y) + pcb b := by
  obtain ⟨h1, h2, h3⟩ := by5 b hb
  rw [ppp_s n y b hb, pp3_s _ _ _ h1 h2 (ppp_m n y), h3]
theorem pop_0 : ∀ n, pp3 n (ppp n 0) = 0 := by
  intro n
  simp [pp3, ppp, pp2, pp1]
theorem pcb_le (b : Nat) : pcb b ≤ 8 := by unfold pcb; omega
/-- of a number below 2^48 -/
theorem pop_6 (a b c d e f : Nat) (ha : a < 256) (hb : b < 256) (hc : c < 256) (hd : d < 256) (he : e < 256) (hf : f < 256) : pp3 8 (ppp 8 (256 * (256 * (256 * (256 * (256 * f + e) + d) + c) + b) + a)) = 256 * (256 * (256 * (256 * (256 * pcb f + pcb e) + pcb d) + pcb c) + pcb b) + pcb a := by
  rw [pop_s 7 _ a ha, pop_s 6 _ b hb, pop_s 5 _ c hc, pop_s 4 _ d hd, pop_s 3 _ e he, show pp3 3 (ppp 3 f) = pcb f by have := pop_s 2 0 f hf; rw [pop_0] at this; simpa using this]
/-- the bits from i on, n of them -/
def bsm (v : Nat) : Nat → Nat → Nat
  | _, 0 => 0
  | i, n + 1 => v / 2 ^ i % 2 + bsm v (i + 1) n
theorem bsm_8 {v : Nat} (i m : Nat) (e : v / 2 ^ i % 256 = m) : bsm v i 8 = pcb m := by
  have h : ∀ k, v / 2 ^ (i + k) = v / 2 ^ i / 2 ^ k := fun k => by rw [Nat.pow_add, Nat.div_div_eq_div_mul]
  simp only [bsm, Nat.add_assoc, Nat.reduceAdd, h, pcb]
  generalize v / 2 ^ i = y at e
  omega
theorem bsm_p {v : Nat} (n i : Nat) : bsm v i (n + 8) = bsm v i 8 + bsm v (i + 8) n := by
  simp only [bsm, Nat.add_assoc, Nat.add_zero, Nat.reduceAdd]
theorem fin6 (v a b c d e f : Nat) (h : v % 281474976710656 = 256 * (256 * (256 * (256 * (256 * f + e) + d) + c) + b) + a) (ha : a < 256) (hb : b < 256) (hc : c < 256) (hd : d < 256) (he : e < 256) (hf : f < 256) : bsm v 0 48 = pcb a + pcb b + pcb c + pcb d + pcb e + pcb f := by
  have k0 : bsm v 0 8 = pcb a := bsm_8 0 a (by omega)
  have k1 : bsm v 8 8 = pcb b := bsm_8 8 b (by omega)
  have k2 : bsm v 16 8 = pcb c := bsm_8 16 c (by omega)
  have k3 : bsm v 24 8 = pcb d := bsm_8 24 d (by omega)
  have k4 : bsm v 32 8 = pcb e := bsm_8 32 e (by omega)
  have k5 : bsm v 40 8 = pcb f := bsm_8 40 f (by omega)
  have p0 : bsm v 0 48 = bsm v 0 8 + bsm v 8 40 := bsm_p 40 0
  have p1 : bsm v 8 40 = bsm v 8 8 + bsm v 16 32 := bsm_p 32 8
  have p2 : bsm v 16 32 = bsm v 16 8 + bsm v 24 24 := bsm_p 24 16
  have p3 : bsm v 24 24 = bsm v 24 8 + bsm v 32 16 := bsm_p 16 24
  have p4 : bsm v 32 16 = bsm v 32 8 + bsm v 40 8 := bsm_p 8 32
  omega
theorem sum6 (x a b c d e f : Nat) (h : x = 256 * (256 * (256 * (256 * (256 * f + e) + d) + c) + b) + a) (ha : a ≤ 8) (hb : b ≤ 8) (hc : c ≤ 8) (hd : d ≤ 8) (he : e ≤ 8) (hf : f ≤ 8) : (x + x / 256 + (x + x / 256) / 65536 + (x + x / 256 + (x + x / 256) / 65536) / 4294967296) % 128 = a + b + c + d + e + f ∧ x + x / 256 + (x + x / 256) / 65536 + (x + x / 256 + (x + x / 256) / 65536) / 4294967296 < 18446744073709551616 := by
  have e1 : x + x / 256 = 1099511627776 * f + 4294967296 * (f + e) + 16777216 * (e + d) + 65536 * (d + c) + 256 * (c + b) + (b + a) := by omega
  generalize x + x / 256 = y at e1
  clear h
  have e2 : y / 65536 = 16777216 * f + 65536 * (f + e) + 256 * (e + d) + (d + c) := by omega
  have e3 : y + y / 65536 = 1099511627776 * f + 4294967296 * (f + e) + 16777216 * (e + d + f) + 65536 * (d + c + f + e) + 256 * (c + b + e + d) + (b + a + d + c) := by omega
  generalize y + y / 65536 = z at e3
  have e4 : z / 4294967296 = 256 * f + (f + e) := by omega
  omega
