/-! THE RELATION between the memory s of the class and the memory t of the reference -/
/-- field k of the objects of c is the array c' -/
def re_E (n c k c' : Nat) (s t : Sg) : Prop := ∀ j, j < n → gI s c k j = gI t c' j 0
def re_J (s t : Sg) : Prop := re_E 4 3 1 22 s t ∧ re_E 4 3 2 23 s t ∧ re_E 4 3 3 24 s t ∧ re_E 4 3 4 26 s t ∧ re_E 4 3 6 27 s t ∧ re_E 4 3 7 28 s t ∧ re_E 4 3 8 29 s t ∧ re_E 4 3 9 32 s t
def re_B (s t : Sg) : Prop := ∀ j, j < 4 → (gI t 22 j 0 < 3 → gI s 3 5 j = gI t 41 j 0) ∧ (¬ gI t 22 j 0 < 3 → gI s 3 5 j = 0)
def re_F (s t : Sg) (nf : Nat) : Prop := re_E nf 2 1 42 s t ∧ re_E nf 2 2 43 s t ∧ re_E nf 2 3 44 s t ∧ re_E nf 2 5 45 s t ∧ re_E nf 2 6 46 s t ∧ re_E nf 2 7 47 s t ∧ re_E nf 2 8 48 s t ∧ ∀ f, f < nf → (gI t 47 f 0 = 0 ∨ gI t 47 f 0 = 1) ∧ (gI t 48 f 0 = 0 ∨ gI t 48 f 0 = 1)
def re_P (s t : Sg) : Prop := re_E 64 4 0 38 s t ∧ re_E 64 4 1 39 s t
def re_L (s t : Sg) : Prop := ∀ p, p < 64 → (gI s 6 1 p = 0 ↔ gI t 49 p 0 = -1) ∧ (¬ gI t 49 p 0 = -1 → gI s 6 2 p = gI t 49 p 0 ∧ gI s 6 3 p = gI t 50 p 0)
def re_M (s t : Sg) : Prop := gI t 11 33 0 = oi (gP s 1 3 0) ∧ (∀ p, gP s 1 4 0 = some p → gI t 11 34 0 = nI p) ∧ ∀ f, gP s 1 3 0 = some f → gI t 11 35 0 = (if gI t 42 f 0 = 3 then 1 else 0) ∧ gI s 1 5 0 = gI t 11 37 0
def re_S (s t : Sg) (nf : Nat) (Q : List Nat) : Prop := SS nf (fun k => gI t 38 k 0) (fun k => gI t 39 k 0) (gP s 4 2) (gP s 4 3) (fun f => gI t 42 f 0) (fun f => gI t 43 f 0) (fun f => gI t 44 f 0) (gP s 2 4) (fun p => gI t 49 p 0) (fun p => gI t 50 p 0) (gP s 1 3 0) (gP s 1 4 0) (gI t 11 36 0) Q
def re_Q (s t : Sg) (Q : List Nat) : Prop := gI s 1 2 0 = nI Q.length ∧ gI t 11 42 0 = nI Q.length ∧ ∀ i f, Q[i]? = some f → gP s 14 i 0 = some f ∧ gI t 51 i 0 = nI f ∧ gI t 52 i 0 = (if gI t 42 f 0 = 3 then 1 else 0)
def re_W (s t : Sg) : Prop := ∀ j, j < 4 → (gP s 3 11 j = none ∧ gI t 25 j 0 = -1 ∧ ¬ gI t 22 j 0 = 2) ∨ ∃ k, k < 64 ∧ gP s 3 11 j = some k ∧ gI t 22 j 0 = 2 ∧ gI t 38 k 0 = nI j ∧ gI t 39 k 0 = gI t 25 j 0
def re_N (t : Sg) : Prop := (∀ j, j < 4 → gI t 22 j 0 = 0 ∨ gI t 22 j 0 = 1 ∨ gI t 22 j 0 = 2 ∨ gI t 22 j 0 = 3 ∨ gI t 22 j 0 = 4) ∧ ∀ k, k < 64 → gI t 38 k 0 = -1 ∨ ∃ j, j < 4 ∧ gI t 38 k 0 = nI j ∧ gI t 22 j 0 < 3
def re_R (s t : Sg) : Prop := ∀ j k, j < 4 → k < 128 → gI s 15 k j = gI t 33 (128 * j + k) 0
def re_A (s t : Sg) : Prop := ∀ j, j < 4 → gJ s 3 10 j = gJ t 34 j 0 ∧ wh (gJ t 34 j 0) = gJ t 34 j 0
def re_X (s t : Sg) : Prop := (∀ k, k < 64 → gP s 4 4 k = if k < cn s 16 then some k else none) ∧ (∀ k, k < 64 → cn s 16 ≤ k → gI t 38 k 0 = -1) ∧ (∀ k e, k < 64 → e < 512 → ¬ gI t 38 k 0 = -1 → gJ s 16 e k = gJ t 40 (512 * k + e) 0) ∧ (∀ i, i < 32768 → wh (gJ t 40 i 0) = gJ t 40 i 0) ∧ ∀ k e, k < 64 → k < cn s 16 → e < 512 → gI t 38 k 0 = -1 → gJ s 16 e k = 0
def re_T (s t : Sg) : Prop := ∀ j, j < 4 → ∃ c f, RO s (3 + 2 * j) c f ∧ gI t 30 j 0 = nI c ∧ ∀ e, e < c → gJ s 19 (rix (3 + 2 * j) f e) (3 + 2 * j) = gJ t 35 (500 * j + e) 0 ∧ wh (gJ t 35 (500 * j + e) 0) = gJ t 35 (500 * j + e) 0
def re_U (s t : Sg) : Prop := ∀ j, j < 4 → ∃ c f p, RO s (4 + 2 * j) c f ∧ gI t 31 j 0 = nI c ∧ gI t 32 j 0 = nI p ∧ p ≤ c ∧ ∀ e, e < c → gJ s 19 (rix (4 + 2 * j) f e) (4 + 2 * j) = gJ t 36 (200 * j + e) 0
def re_Y (s t : Sg) : Prop := ∃ c f, RO s 0 c f ∧ gI t 11 2 0 = nI c ∧ ∀ e, e < c → gJ s 19 (rix 0 f e) 0 = gJ t 21 e 0 ∧ wh (gJ t 21 e 0) = gJ t 21 e 0
def re_C (s t : Sg) (B : Nat) : Prop := ∃ c f n, RO s 1 c f ∧ gI t 11 44 0 = nI n ∧ gI s 10 11 0 = nI n ∧ n ≤ B ∧ c = min n 64 ∧ ∀ e, e < c → gJ s 19 (rix 1 f e) 1 = (gI t 53 ((n - c + e) % 64) 0).toInt64
def re_D (s t : Sg) (B : Nat) : Prop := ∃ c f n, RO s 2 c f ∧ gI t 11 46 0 = nI n ∧ gI s 7 1 0 = nI n ∧ n ≤ B ∧ c = min n 400 ∧ ∀ e, e < c → gJ s 19 (rix 2 f e) 2 = gJ t 54 ((n - c + e) % 400) 0
def re_O (s t : Sg) : Prop := ∃ o, gI s 7 3 0 = nI o ∧ gI t 11 19 0 = nI o ∧ o ≤ 4 ∧ (∀ i, i < o → ∃ j, j < 4 ∧ gP s 18 i 0 = some j ∧ gI t 37 i 0 = nI j ∧ ¬ gI t 22 j 0 < 3) ∧ ∀ i i', i < o → i' < o → gI t 37 i 0 = gI t 37 i' 0 → i = i'
def re_K (s t : Sg) : Prop := gI s 10 9 0 = gI t 11 48 0 ∧ gI s 10 10 0 = gI t 11 49 0 ∧ gI s 10 12 0 = gI t 11 50 0 ∧ gI s 1 6 0 = gI t 11 38 0 ∧ gI s 1 7 0 = gI t 11 39 0
def nsl (t : Sg) (j : Nat) : Nat := cf (fun k => gI t 38 k 0 = nI j) 0 64
def re_H (t : Sg) : Prop := (∀ j, j < 4 → gI t 22 j 0 < 3 → gI t 41 j 0 = nI (nsl t j)) ∧ (∃ r : Nat → Nat, (∀ j, j < 4 → resF t j = nI (r j) ∧ (gI t 22 j 0 < 3 → nsl t j ≤ r j)) ∧ r 0 + r 1 + r 2 + r 3 ≤ 64) ∧ ∀ j, j < 4 → ∃ d l, gI t 24 j 0 = nI d ∧ gI t 26 j 0 = nI l ∧ d ≤ l ∧ l ≤ 1000000 ∧ (gI t 22 j 0 = 0 → d = 0)
def re_Z (g : Nat → Nat → Nat) (s : Sg) : Prop := sz s = g 16 (cn s 16)
/-- all of it but the ticks -/
def Rl (g : Nat → Nat → Nat) (s t : Sg) (nf B : Nat) (Q : List Nat) : Prop := (LC s nf ∧ LR t nf ∧ re_Z g s) ∧ (re_J s t ∧ re_B s t ∧ re_W s t ∧ re_N t ∧ re_H t) ∧ (re_F s t nf ∧ re_P s t ∧ re_L s t ∧ re_M s t ∧ re_S s t nf Q ∧ re_Q s t Q) ∧ (re_R s t ∧ re_A s t ∧ re_X s t ∧ re_T s t ∧ re_U s t ∧ re_Y s t ∧ re_C s t B ∧ re_D s t B) ∧ re_O s t ∧ re_K s t
section Rel1
variable {g : Nat → Nat → Nat} {s t : Sg} {nf B : Nat} {Q : List Nat}
theorem re_E_w {n c k c' j : Nat} {v : Int32} (h : re_E n c k c' s t) : re_E n c k c' (sI s c k j v) (sI t c' j 0 v) := by
  intro i hi
  have := h i hi
  simp [MM, this]
theorem rl_test {j : Nat} {v : Int32} (h : Rl g s t nf B Q) : Rl g (sI s 3 7 j v) (sI t 28 j 0 v) nf B Q := by
  obtain ⟨⟨l1, l2, l3⟩, ⟨⟨j1, j2, j3, j4, j5, j6, j7, j8⟩, bb, ww, nn, hh⟩, ⟨ff1, pp, ll, mm, ss, qq⟩, ⟨rr, aa, xx, tt, uu, yy, cc, dd⟩, oo, kk⟩ := h
  exact ⟨⟨LC_sI l1 (by omega), LR_sI (by omega) l2, l3⟩, ⟨⟨j1, j2, j3, j4, j5, re_E_w j6, j7, j8⟩, bb, ww, nn, hh⟩, ⟨ff1, pp, ll, mm, ss, qq⟩, ⟨rr, aa, xx, tt, uu, yy, cc, dd⟩, oo, kk⟩
end Rel1
