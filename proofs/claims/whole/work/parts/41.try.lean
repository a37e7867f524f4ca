section Try1
variable {g : Nat → Nat → Nat} {σ : Sg} {X : Sg × Option Av}
theorem t_touch {i : Nat} (h : i < cn σ 2) : Rn g 25 0 [some (.inr (.inr (some (2, i))))] [] σ X ↔ X = (sI (sI σ 2 7 i 1) 2 8 i 0, none) := by
  simp [Q25, MM, h]
theorem t_look {i : Nat} (h : i < cn σ 2) : Rn g 26 0 [some (.inr (.inr (some (2, i))))] [] σ X ↔ X = (if gI σ 2 7 i = 0 then sI σ 2 5 i (gI σ 2 5 i + 1) else sI (sI (if gI σ 2 5 i ≤ 0 then σ else sI σ 2 6 i (gI σ 2 5 i)) 2 5 i 0) 2 7 i 0, none) := by
  simp [Q26, MM, h]
  split
  · rfl
  · split <;> rfl
theorem t_part {i : Nat} (h : i < cn σ 2) : Rn g 28 0 [some (.inr (.inr (some (2, i))))] [] σ X ↔ X = (σ, some (.inl (if gI σ 2 5 i ≤ gI σ 2 6 i + 1 then (if gI σ 2 6 i ≤ 0 then 0 else 1) else 2))) := by
  simp [Q28, MM, h]
  split
  · split <;> rfl
  · rfl
theorem t_cellOf {r : Nat} {x : Int32} {n : Nat} (h : r < cn σ 9) (hc : gP σ 9 0 r = some n) (hn : n < cn σ 19) : Rn g 85 0 [some (.inr (.inr (some (9, r)))), some (.inl x), none] [] σ X ↔ X = (σ, some (.inl (if Int32.ofNat (ln σ 19 n) ≤ gI σ 9 1 r + x then gI σ 9 1 r + x - Int32.ofNat (ln σ 19 n) else gI σ 9 1 r + x))) := by
  simp [Q85, MM, MK, h, hc, hn]
  split <;> rfl
end Try1
