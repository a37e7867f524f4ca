/-! reading memory behind writes -/
section Mem1
variable {σ : Sg} {c k i c' k' i' n : Nat} {v : Int32} {w : Int64} {o : Option Nat}
theorem gI_sI : gI (sI σ c k i v) c' k' i' = if c' = c ∧ k' = k ∧ i' = i then v else gI σ c' k' i' := rfl
theorem gI_sJ : gI (sJ σ c k i w) c' k' i' = gI σ c' k' i' := rfl
theorem gI_sP : gI (sP σ c k i o) c' k' i' = gI σ c' k' i' := rfl
theorem gI_nw : gI (nw σ c n) c' k' i' = if c' = c ∧ i' = cn σ c then 0 else gI σ c' k' i' := rfl
theorem gJ_sI : gJ (sI σ c k i v) c' k' i' = gJ σ c' k' i' := rfl
theorem gJ_sJ : gJ (sJ σ c k i w) c' k' i' = if c' = c ∧ k' = k ∧ i' = i then w else gJ σ c' k' i' := rfl
theorem gJ_sP : gJ (sP σ c k i o) c' k' i' = gJ σ c' k' i' := rfl
theorem gJ_nw : gJ (nw σ c n) c' k' i' = if c' = c ∧ i' = cn σ c then 0 else gJ σ c' k' i' := rfl
theorem gP_sI : gP (sI σ c k i v) c' k' i' = gP σ c' k' i' := rfl
theorem gP_sJ : gP (sJ σ c k i w) c' k' i' = gP σ c' k' i' := rfl
theorem gP_sP : gP (sP σ c k i o) c' k' i' = if c' = c ∧ k' = k ∧ i' = i then o else gP σ c' k' i' := rfl
theorem gP_nw : gP (nw σ c n) c' k' i' = if c' = c ∧ i' = cn σ c then none else gP σ c' k' i' := rfl
theorem cn_sI : cn (sI σ c k i v) c' = cn σ c' := rfl
theorem cn_sJ : cn (sJ σ c k i w) c' = cn σ c' := rfl
theorem cn_sP : cn (sP σ c k i o) c' = cn σ c' := rfl
theorem cn_nw : cn (nw σ c n) c' = if c' = c then cn σ c + 1 else cn σ c' := rfl
theorem ln_sI : ln (sI σ c k i v) c' i' = ln σ c' i' := rfl
theorem ln_sJ : ln (sJ σ c k i w) c' i' = ln σ c' i' := rfl
theorem ln_sP : ln (sP σ c k i o) c' i' = ln σ c' i' := rfl
theorem ln_nw : ln (nw σ c n) c' i' = if c' = c ∧ i' = cn σ c then n else ln σ c' i' := rfl
theorem sz_sI : sz (sI σ c k i v) = sz σ := rfl
theorem sz_sJ : sz (sJ σ c k i w) = sz σ := rfl
theorem sz_sP : sz (sP σ c k i o) = sz σ := rfl
theorem sz_nw : sz (nw σ c n) = sz σ + 1 := rfl
theorem sl_sI : sl (sI σ c k i v) = sl σ := rfl
theorem sl_sJ : sl (sJ σ c k i w) = sl σ := rfl
theorem sl_sP : sl (sP σ c k i o) = sl σ := rfl
theorem sl_nw : sl (nw σ c n) = sl σ + n := rfl
theorem mk_none : mk c none = none := rfl
theorem mk_some : mk c (some i) = some (c, i) := rfl
theorem mk_nil : (mk c o = none) = (o = none) := by cases o <;> simp [mk]
theorem mk_inj {o o' : Option Nat} : (mk c o = mk c o') = (o = o') := by cases o <;> cases o' <;> simp [mk]
theorem mk_sm : (mk c o = some (c, i)) = (o = some i) := by cases o <;> simp [mk]
theorem sm_mk : (some (c, i) = mk c o) = (some i = o) := by cases o <;> simp [mk]
theorem kl_n : kl none = none := rfl
theorem kl_I : kl (some (.inl v)) = some (.inl v) := rfl
theorem kl_J : kl (some (.inr (.inl w))) = none := rfl
theorem kl_P {q : Option (Nat × Nat)} : kl (some (.inr (.inr q))) = some (.inr (.inr q)) := rfl
theorem tl_n {β : Type} : (none : Option β).toList = [] := rfl
theorem tl_s {β : Type} {b : β} : (some b).toList = [b] := rfl
theorem exi_none : exi none σ = true := rfl
theorem exi_some {q : Nat × Nat} : (exi (some q) σ = true) = (q.2 < cn σ q.1) := by simp [exi]
theorem exi_mk : (exi (mk c o) σ = true) = (∀ j, o = some j → j < cn σ c) := by cases o <;> simp [exi, mk]
end Mem1
def MM := And.intro @gI_sI (And.intro @gI_sJ (And.intro @gI_sP (And.intro @gI_nw (And.intro @gJ_sI (And.intro @gJ_sJ (And.intro @gJ_sP (And.intro @gJ_nw (And.intro @gP_sI (And.intro @gP_sJ (And.intro @gP_sP (And.intro @gP_nw (And.intro @cn_sI (And.intro @cn_sJ (And.intro @cn_sP (And.intro @cn_nw (And.intro @ln_sI (And.intro @ln_sJ (And.intro @ln_sP (And.intro @ln_nw (And.intro @sz_sI (And.intro @sz_sJ (And.intro @sz_sP (And.intro @sz_nw (And.intro @sl_sI (And.intro @sl_sJ (And.intro @sl_sP @sl_nw))))))))))))))))))))))))))
def MK := And.intro @mk_none (And.intro @mk_some (And.intro @mk_nil (And.intro @mk_inj (And.intro @mk_sm (And.intro @sm_mk (And.intro @kl_n (And.intro @kl_I (And.intro @kl_J (And.intro @kl_P (And.intro @tl_n (And.intro @tl_s (And.intro @exi_none (And.intro @exi_some @exi_mk)))))))))))))
