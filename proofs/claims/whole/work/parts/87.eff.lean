/-! what an order does, under what is counted behind it -/
theorem sI_cm {s : Sg} {c k i c' k' i' : Nat} {v v' : Int32} (h : ¬ (c = c' ∧ k = k')) : sI (sI s c k i v) c' k' i' v' = sI (sI s c' k' i' v') c k i v := by
  refine Prod.ext ?_ rfl
  funext a b d
  show (if a = c' ∧ b = k' ∧ d = i' then v' else if a = c ∧ b = k ∧ d = i then v else s.1 a b d) = (if a = c ∧ b = k ∧ d = i then v else if a = c' ∧ b = k' ∧ d = i' then v' else s.1 a b d)
  by_cases q : a = c' ∧ b = k' ∧ d = i'
  · rw [if_pos q, if_neg (by omega), if_pos q]
  · rw [if_neg q, if_neg q]
theorem sJ_self {s : Sg} {c k i : Nat} : sJ s c k i (gJ s c k i) = s := by
  refine Prod.ext rfl (Prod.ext ?_ rfl)
  funext a b d
  show (if a = c ∧ b = k ∧ d = i then gJ s c k i else s.2.1 a b d) = s.2.1 a b d
  split
  · rename_i q
    rw [q.1, q.2.1, q.2.2]; rfl
  · rfl
/-- behind an order: done, marks, instructions -/
def tT (s : Sg) (j f : Nat) (oe : Option Nat) (dv iv : Int32) : Sg :=
  sI (match oe with
    | none => sI (sI (sI s 3 3 j dv) 2 7 f 1) 2 8 f 0
    | some e => sI (sI (sI (sI (sI s 3 3 j dv) 2 7 f 1) 2 8 f 0) 2 7 e 1) 2 8 e 0) 10 9 0 iv
section Eff1
variable {g : Nat → Nat → Nat} {s t : Sg} {nf B : Nat} {Q : List Nat} {j f : Nat} {oe : Option Nat} {dv iv : Int32}
theorem tT_sI {c k i : Nat} {v : Int32} (h : c = 15 ∨ c = 9 ∨ (c = 3 ∧ k = 7)) : tT (sI s c k i v) j f oe dv iv = sI (tT s j f oe dv iv) c k i v := by
  unfold tT
  cases oe with
  | none =>
    dsimp only
    rw [sI_cm (c := c) (k := k) (c' := 3) (k' := 3) (by omega), sI_cm (c := c) (k := k) (c' := 2) (k' := 7) (by omega), sI_cm (c := c) (k := k) (c' := 2) (k' := 8) (by omega), sI_cm (c := c) (k := k) (c' := 10) (k' := 9) (by omega)]
  | some e =>
    dsimp only
    rw [sI_cm (c := c) (k := k) (c' := 3) (k' := 3) (by omega), sI_cm (c := c) (k := k) (c' := 2) (k' := 7) (by omega), sI_cm (c := c) (k := k) (c' := 2) (k' := 8) (by omega), sI_cm (c := c) (k := k) (c' := 2) (k' := 7) (by omega), sI_cm (c := c) (k := k) (c' := 2) (k' := 8) (by omega), sI_cm (c := c) (k := k) (c' := 10) (k' := 9) (by omega)]
theorem tT_sJ {c k i : Nat} {v : Int64} : tT (sJ s c k i v) j f oe dv iv = sJ (tT s j f oe dv iv) c k i v := by
  unfold tT
  cases oe <;> rfl
theorem tT_sBF {i a : Nat} {v : Int64} : tT (sBF s i a v) j f oe dv iv = sBF (tT s j f oe dv iv) i a v := by
  unfold sBF
  split
  · rfl
  · exact tT_sI (Or.inl rfl)
theorem tT_15 {k i : Nat} : gI (tT s j f oe dv iv) 15 k i = gI s 15 k i := by cases oe <;> rfl
theorem tT_37 {i : Nat} : gI (tT s j f oe dv iv) 3 7 i = gI s 3 7 i := by cases oe <;> rfl
theorem tT_9 {k i : Nat} : gI (tT s j f oe dv iv) 9 k i = gI s 9 k i := by cases oe <;> rfl
theorem tT_J {c k i : Nat} : gJ (tT s j f oe dv iv) c k i = gJ s c k i := by cases oe <;> rfl
theorem ef_set {a : Nat} {v : Int64} (h : Rl g (tT s j f oe dv iv) t nf B Q) (hj : j < 4) (ha : a < 128) : Rl g (tT (sBF s j a v) j f oe dv iv) (setF t j a v) nf B Q := by
  rw [tT_sBF]; exact rl_setB h hj ha
theorem ef_test {v : Int32} (h : Rl g (tT s j f oe dv iv) t nf B Q) : Rl g (tT (sI s 3 7 j v) j f oe dv iv) (sI t 28 j 0 v) nf B Q := by
  rw [tT_sI (Or.inr (Or.inr ⟨rfl, rfl⟩))]; exact rl_test h
theorem ef_acc {v : Int64} (h : Rl g (tT s j f oe dv iv) t nf B Q) (hv : wh v = v) : Rl g (tT (sJ s 3 10 j v) j f oe dv iv) (sJ t 34 j 0 v) nf B Q := by
  rw [tT_sJ]; exact rl_acc h hv
theorem ef_put {k e : Nat} {v : Int64} (h : Rl g (tT s j f oe dv iv) t nf B Q) (hk : k < 64) (he : e < 512) (hv : wh v = v) (hu : ¬ gI t 38 k 0 = -1) : Rl g (tT (sJ s 16 e k v) j f oe dv iv) (sJ t 40 (512 * k + e) 0 v) nf B Q := by
  rw [tT_sJ]; exact rl_put h hk he hv hu
theorem ef_R (h : Rl g (tT s j f oe dv iv) t nf B Q) (hj : j < 4) {a : Nat} (ha : a < 128) : gI t 33 (128 * j + a) 0 = gI s 15 a j := by
  have := h.2.2.2.1.1 j a hj ha
  rw [tT_15] at this
  exact this.symm
theorem ef_A (h : Rl g (tT s j f oe dv iv) t nf B Q) (hj : j < 4) : gJ t 34 j 0 = gJ s 3 10 j ∧ wh (gJ s 3 10 j) = gJ s 3 10 j := by
  have := h.2.2.2.1.2.1 j hj
  rw [tT_J] at this
  exact ⟨this.1.symm, by rw [this.1]; exact this.2⟩
theorem ef_T (h : Rl g (tT s j f oe dv iv) t nf B Q) (hj : j < 4) : gI t 28 j 0 = gI s 3 7 j := by
  have := h.2.1.1.2.2.2.2.2.1 j hj
  rw [tT_37] at this
  exact this.symm
/-- orders of registers without s -/
theorem ef_ro (h : Rl g (tT s j f oe dv iv) t nf B Q) (hj : j < 4) {a m q : Nat} (ha : a < 128) {F N : Int32} (hF : F = 80 ∨ F = 81 ∨ F = 82 ∨ F = 84 ∨ F = 86 ∨ F = 87 ∨ F = 122) : ∃ s3, roF s j F a m N = (s3, 0) ∧ Rl g (tT s3 j f oe dv iv) (regF t j F a (efF s j F a m N).toInt64 q) nf B Q := by
  have r := ef_R h hj ha
  rcases hF with rfl | rfl | rfl | rfl | rfl | rfl | rfl
  · exact ⟨_, by simp [roF]; rfl, by simp only [regF, r]; exact ef_set h hj ha⟩
  · exact ⟨_, by simp [roF]; rfl, by simp only [regF, r]; exact ef_set h hj ha⟩
  · exact ⟨_, by simp [roF]; rfl, by simp only [regF, r]; exact ef_set h hj ha⟩
  · exact ⟨_, by simp [roF]; rfl, by simp only [regF, r]; exact ef_set h hj ha⟩
  · exact ⟨_, by simp [roF]; rfl, by simp only [regF, r]; exact ef_set h hj ha⟩
  · exact ⟨_, by simp [roF]; rfl, by simp only [regF, r]; exact ef_set h hj ha⟩
  · exact ⟨_, by simp [roF]; rfl, by simp only [regF, r]; exact ef_test h⟩
/-- orders of registers with s -/
theorem ef_rw (h : Rl g (tT s j f oe dv iv) t nf B Q) (hj : j < 4) {a k q : Nat} (ha : a < 128) (hk : k < 64) (hs : slotF t (nI j) (nI (q / 512)) = some k) {F : Int32} (hF : F = 65 ∨ F = 66 ∨ F = 68 ∨ F = 70 ∨ F = 71 ∨ F = 75 ∨ F = 76 ∨ F = 106) : ∃ s3, rwF s j F a k (q % 512) = (s3, 0) ∧ Rl g (tT s3 j f oe dv iv) (regF t j F a (gJ s 16 (q % 512) k) q) nf B Q := by
  have r := ef_R h hj ha
  have p : ∀ v, putF t (nI j) q v = sJ t 40 (512 * k + q % 512) 0 v := fun v => by unfold putF; rw [hs]
  have he : q % 512 < 512 := by omega
  have hu : ¬ gI t 38 k 0 = -1 := by rw [(ff_some hs).2.2.1.1]; exact nI_nm (by omega)
  rcases hF with rfl | rfl | rfl | rfl | rfl | rfl | rfl | rfl
  · exact ⟨_, by simp [rwF]; rfl, by simp only [regF, r]; exact ef_set h hj ha⟩
  · exact ⟨_, by simp [rwF]; rfl, by simp only [regF, r]; exact ef_set h hj ha⟩
  · exact ⟨_, by simp [rwF]; rfl, by simp only [regF, r]; exact ef_set h hj ha⟩
  · exact ⟨_, by simp [rwF]; rfl, by simp only [regF, r]; exact ef_set h hj ha⟩
  · exact ⟨_, by simp [rwF]; rfl, by simp only [regF, r]; exact ef_set h hj ha⟩
  · exact ⟨_, by simp [rwF]; rfl, by simp only [regF, r, p]; exact ef_put h hk he (wh_32 _) hu⟩
  · exact ⟨_, by simp [rwF]; rfl, by simp only [regF, r, p]; exact ef_put h hk he (wh_wh _) hu⟩
  · exact ⟨_, by simp [rwF]; rfl, by simp only [regF, r]; exact ef_test h⟩
/-- orders of the accumulator with s -/
theorem ef_aw (h : Rl g (tT s j f oe dv iv) t nf B Q) (hj : j < 4) {k q : Nat} (hk : k < 64) (hs : slotF t (nI j) (nI (q / 512)) = some k) (hw : wh (gJ s 16 (q % 512) k) = gJ s 16 (q % 512) k) {F : Int32} (hF : F = 208 ∨ F = 209 ∨ F = 210 ∨ F = 212 ∨ F = 213 ∨ F = 230 ∨ F = 238 ∨ F = 242 ∨ F = 252) (h0 : F = 252 → ¬ gJ s 16 (q % 512) k = 0) : ∃ s3, awF s j F k (q % 512) = (s3, 0) ∧ Rl g (tT s3 j f oe dv iv) (sumF t j F (gJ s 16 (q % 512) k) q) nf B Q := by
  obtain ⟨r, rw⟩ := ef_A h hj
  have p : ∀ v, putF t (nI j) q v = sJ t 40 (512 * k + q % 512) 0 v := fun v => by unfold putF; rw [hs]
  have he : q % 512 < 512 := by omega
  have hu : ¬ gI t 38 k 0 = -1 := by rw [(ff_some hs).2.2.1.1]; exact nI_nm (by omega)
  rcases hF with rfl | rfl | rfl | rfl | rfl | rfl | rfl | rfl | rfl
  · exact ⟨_, by simp [awF]; rfl, by simp only [sumF, r]; exact ef_acc h (wh_wh _)⟩
  · exact ⟨_, by simp [awF]; rfl, by simp only [sumF, r]; exact ef_acc h (wh_wh _)⟩
  · exact ⟨_, by simp [awF]; rfl, by simp only [sumF, r]; exact ef_acc h (wh_wh _)⟩
  · exact ⟨_, by simp [awF]; rfl, by simp only [sumF, r, hw]; exact ef_acc h hw⟩
  · exact ⟨_, by simp [awF]; rfl, by simp only [sumF, r]; exact ef_acc h (wh_wh _)⟩
  · exact ⟨_, by simp [awF]; rfl, by simp only [sumF, r, p, wh_z]; exact ef_acc (ef_put h hk he rw hu) wh_z⟩
  · refine ⟨_, by simp [awF]; rfl, ?_⟩
    simp only [sumF, r, p, rw]
    have := ef_acc (v := gJ s 3 10 j) (ef_put h hk he rw hu) rw
    rw [show sJ (sJ s 16 (q % 512) k (gJ s 3 10 j)) 3 10 j (gJ s 3 10 j) = sJ s 16 (q % 512) k (gJ s 3 10 j) from sJ_self (s := sJ s 16 (q % 512) k (gJ s 3 10 j)) (c := 3) (k := 10) (i := j)] at this
    exact this
  · exact ⟨_, by simp [awF]; rfl, by simp only [sumF, r]; exact ef_acc h (wh_wh _)⟩
  · exact ⟨_, by simp [awF, h0 rfl]; rfl, by simp only [sumF, r]; exact ef_acc h (wh_wh _)⟩
/-- shifts -/
theorem ef_sh (h : Rl g (tT s j f oe dv iv) t nf B Q) (hj : j < 4) {q : Nat} {F : Int32} {w : Int64} (hF : F = 244 ∨ F = 245) : ∃ s3, shG s j F = (s3, 0) ∧ Rl g (tT s3 j f oe dv iv) (sumF t j F w q) nf B Q := by
  obtain ⟨r, rw⟩ := ef_A h hj
  rcases hF with rfl | rfl
  · exact ⟨_, by simp [shG]; rfl, by simp only [sumF, r]; exact ef_acc h (wh_wh _)⟩
  · exact ⟨_, by simp [shG]; rfl, by simp only [sumF, r, wh_sr rw]; exact ef_acc h (wh_sr rw)⟩
theorem ef_cnt (h : Rl g (tT s j f oe dv iv) t nf B Q) (hj : j < 4) {a m : Nat} (ha : a < 128) (hm : m < 128) {N d : Int32} : Rl g (tT (cntF s j a m N d) j f oe dv iv) (if gI s 15 m j = 0 then t else setF (setF t j m ((gI s 15 m j).toInt64 + d.toInt64)) j a N.toInt64) nf B Q := by
  unfold cntF
  by_cases c : gI s 15 m j = 0
  · rw [if_pos c, if_pos c]; exact h
  · rw [if_neg c, if_neg c]
    have e : setF t j m ((gI s 15 m j).toInt64 + d.toInt64) = setF t j m (gI s 15 m j + d).toInt64 := by unfold setF; rw [hf_add]
    rw [e]
    exact ef_set (ef_set h hj hm) hj ha
theorem ef_if (h : Rl g (tT s j f oe dv iv) t nf B Q) (hj : j < 4) {a : Nat} (ha : a < 128) {b : Bool} {v : Int64} : Rl g (tT (if b = true then sBF s j a v else s) j f oe dv iv) (if b = true then setF t j a v else t) nf B Q := by
  split
  · exact ef_set h hj ha
  · exact h
theorem ef_jo (h : Rl g (tT s j f oe dv iv) t nf B Q) (hj : j < 4) {a m : Nat} (ha : a < 128) (hm : m < 128) {F N : Int32} (hF : jmP F) : ∃ s3, joF s j F a m N = (s3, 0) ∧ Rl g (tT s3 j f oe dv iv) (jmpF t j F a m N (efF s j F a m N)) nf B Q := by
  have r := ef_R h hj hm
  have rt := ef_T h hj
  have ra := (ef_A h hj).1
  rcases hF with rfl | rfl | rfl | rfl | rfl | rfl | rfl | rfl | rfl | rfl | rfl | rfl | rfl | rfl
  · exact ⟨_, by simp [joF]; rfl, by simp only [jmpF, r]; exact ef_cnt (d := 1) h hj ha hm⟩
  · exact ⟨_, by simp [joF]; rfl, by
      have k := ef_cnt (N := N) (d := -1) h hj ha hm
      rw [show (gI s 15 m j).toInt64 + (-1 : Int32).toInt64 = (gI s 15 m j).toInt64 - 1 by rw [Int64.sub_eq_add_neg, show (-1 : Int32).toInt64 = (-1 : Int64) by decide]] at k
      simp only [jmpF, r]
      exact k⟩
  · exact ⟨_, by simp [joF]; rfl, by simp only [jmpF, r]; exact ef_if h hj ha⟩
  · exact ⟨_, by simp [joF]; rfl, by simp only [jmpF, r]; exact ef_if h hj ha⟩
  · exact ⟨_, by simp [joF]; rfl, by simp only [jmpF, r]; exact ef_if h hj ha⟩
  · exact ⟨_, by simp [joF]; rfl, by simp only [jmpF, r]; exact ef_if h hj ha⟩
  · exact ⟨_, by simp [joF]; rfl, by simp only [jmpF, rt]; exact ef_if h hj ha⟩
  · exact ⟨_, by simp [joF]; rfl, by simp only [jmpF, rt]; exact ef_if h hj ha⟩
  · exact ⟨_, by simp [joF]; rfl, by simp only [jmpF, rt]; exact ef_if h hj ha⟩
  · exact ⟨_, by simp [joF]; rfl, by simp only [jmpF, rt]; exact ef_if h hj ha⟩
  · exact ⟨_, by simp [joF]; rfl, by simp only [jmpF, ra]; exact ef_if h hj ha⟩
  · exact ⟨_, by simp [joF]; rfl, by simp only [jmpF, ra]; exact ef_if h hj ha⟩
  · exact ⟨_, by simp [joF]; rfl, by simp only [jmpF, ra]; exact ef_if h hj ha⟩
  · exact ⟨_, by simp [joF]; rfl, by simp only [jmpF, ra]; exact ef_if h hj ha⟩
end Eff1
