/-! the queue as a list -/
section Que1
def QW (t : Sg) (w : Nat → Int32) (Q : List Nat) : Prop := gI t 11 42 0 = nI Q.length ∧ ∀ i f, Q[i]? = some f → gI t 51 i 0 = nI f ∧ gI t 52 i 0 = w f
theorem gQ_lt {Q : List Nat} {i f : Nat} (e : Q[i]? = some f) : i < Q.length := by
  by_cases h : i < Q.length
  · exact h
  · rw [List.getElem?_eq_none (by omega)] at e; cases e
theorem shF_eq (n i : Nat) (t : Sg) : shF t i n = ((fun c m k => if (c = 51 ∨ c = 52) ∧ k = 0 ∧ i ≤ m ∧ m < i + n then gI t c (m + 1) k else gI t c m k), t.2) := by
  refine Prod.ext ?_ (shF_gh n i t)
  funext c m k
  exact shF_gI n i t c m k
theorem rmF_eq : ∀ (n i : Nat) (s : Sg), rmF s i n = (s.1, s.2.1, (fun c m e => if c = 14 ∧ e = 0 ∧ i ≤ m ∧ m < i + n then gP s 14 (m + 1) 0 else gP s c m e), s.2.2.2)
  | 0, i, s => by
    refine Prod.ext rfl (Prod.ext rfl (Prod.ext ?_ rfl))
    funext c m e
    show s.2.2.1 c m e = if _ then _ else _
    rw [if_neg (by omega)]; rfl
  | n + 1, i, s => by
    rw [rmF, rmF_eq n (i + 1)]
    refine Prod.ext rfl (Prod.ext rfl (Prod.ext ?_ rfl))
    funext c m e
    simp only [gP_sP]
    grind
theorem qw_lea {t : Sg} {w : Nat → Int32} {Q : List Nat} {k : Nat} (h : QW t w Q) (hk : k < Q.length) : QW (leaF t Q.length k) w (Q.eraseIdx k) := by
  have hl : (Q.eraseIdx k).length = Q.length - 1 := List.length_eraseIdx_of_lt hk
  refine ⟨?_, fun i f e => ?_⟩
  · unfold leaF
    rw [shF_gI, if_neg (by omega), gI_sI, if_pos ⟨rfl, rfl, rfl⟩, hl]
  · have hi := gQ_lt e
    rw [hl] at hi
    rw [List.getElem?_eraseIdx] at e
    unfold leaF
    rw [shF_gI, shF_gI]
    by_cases hik : i < k
    · rw [if_pos hik] at e
      rw [if_neg (by omega), if_neg (by omega), gI_sI, if_neg (by omega), gI_sI, if_neg (by omega)]
      exact h.2 i f e
    · rw [if_neg hik] at e
      rw [if_pos (by omega), if_pos (by omega), gI_sI, if_neg (by omega), gI_sI, if_neg (by omega)]
      exact h.2 (i + 1) f e
/-- the class's queue array laid anew -/
def qfr (s : Sg) (H : Nat → Option Nat) : Sg := (s.1, s.2.1, (fun c m e => if c = 14 ∧ e = 0 then H m else gP s c m e), s.2.2.2)
theorem tup_P {a : Nat → Nat → Nat → Int32} {J : Nat → Nat → Nat → Int64} {P : Nat → Nat → Nat → Option Nat} {b : (Nat → Nat) × (Nat → Nat → Nat) × Nat × Nat} {c m e : Nat} : gP (a, J, P, b) c m e = P c m e := rfl
theorem qfr_id (s : Sg) : qfr s (fun m => gP s 14 m 0) = s := by
  refine Prod.ext rfl (Prod.ext rfl (Prod.ext ?_ rfl))
  funext c m e
  show (if _ then _ else _) = s.2.2.1 c m e
  split
  · rename_i h; rw [h.1, h.2]; rfl
  · rfl
theorem dq_l {o : Int32} {s : Sg} : ∀ (L K : List Nat) (i : Nat) (H : Nat → Option Nat), K.length ≤ i → (∀ m f, K[m]? = some f → H m = some f) → (∀ m f, L[m]? = some f → H (i + m) = some f) → ∃ H', dqF o i L.length (qfr s H, K.length) = (qfr s H', (K ++ L.filter (fun f => !decide (gI s 2 2 f = o))).length) ∧ ∀ m f, (K ++ L.filter (fun f => !decide (gI s 2 2 f = o)))[m]? = some f → H' m = some f
  | [], K, i, H, h0, h1, h2 => ⟨H, by simp [dqF], by simpa using h1⟩
  | a :: L, K, i, H, h0, h1, h2 => by
    have e0 : gP (qfr s H) 14 i 0 = some a := by
      rw [qfr, tup_P, if_pos ⟨rfl, rfl⟩]
      exact h2 0 a rfl
    have e1 : gI (qfr s H) 2 2 a = gI s 2 2 a := rfl
    rw [List.length_cons, dqF]
    simp only [e0, e1]
    by_cases c : gI s 2 2 a = o
    · rw [if_pos c]
      have e2 : (a :: L).filter (fun f => !decide (gI s 2 2 f = o)) = L.filter (fun f => !decide (gI s 2 2 f = o)) := by simp [c]
      rw [e2]
      exact dq_l L K (i + 1) H (by omega) h1 (fun m f e => by rw [show i + 1 + m = i + (m + 1) by omega]; exact h2 (m + 1) f e)
    · rw [if_neg c]
      have e2 : K ++ (a :: L).filter (fun f => !decide (gI s 2 2 f = o)) = (K ++ [a]) ++ L.filter (fun f => !decide (gI s 2 2 f = o)) := by simp [c]
      have e3 : sP (qfr s H) 14 K.length 0 (some a) = qfr s (fun m => if m = K.length then some a else H m) := by
        refine Prod.ext rfl (Prod.ext rfl (Prod.ext ?_ rfl))
        funext c m e
        show (if _ then _ else if _ then _ else _) = if _ then (if _ then _ else _) else _
        grind
      have e4 : K.length + 1 = (K ++ [a]).length := by simp
      rw [e2, e3, e4]
      refine dq_l L (K ++ [a]) (i + 1) _ (by simp; omega) (fun m f e => ?_) (fun m f e => ?_)
      · by_cases q : m = K.length
        · subst q
          rw [if_pos rfl]
          simpa using e
        · rw [if_neg q]
          have := gQ_lt e
          rw [List.length_append] at this
          simp only [List.length_cons, List.length_nil] at this
          rw [List.getElem?_append_left (by omega)] at e
          exact h1 m f e
      · rw [if_neg (by omega), show i + 1 + m = i + (m + 1) by omega]
        exact h2 (m + 1) f e
theorem dq_eq {o : Int32} {s : Sg} {Q : List Nat} (h : ∀ m f, Q[m]? = some f → gP s 14 m 0 = some f) : ∃ H, dqF o 0 Q.length (s, 0) = (qfr s H, (Q.filter (fun f => !decide (gI s 2 2 f = o))).length) ∧ ∀ m f, (Q.filter (fun f => !decide (gI s 2 2 f = o)))[m]? = some f → H m = some f := by
  have := dq_l (o := o) (s := s) Q [] 0 (fun m => gP s 14 m 0) (by simp) (by simp) (fun m f e => by rw [Nat.zero_add]; exact h m f e)
  rw [qfr_id] at this
  simpa using this
theorem tk_er {Q : List Nat} {n : Nat} (h : n < Q.length) : (Q.eraseIdx n).take n = Q.take n ∧ (Q.eraseIdx n).drop n = Q.drop (n + 1) := by
  rw [List.eraseIdx_eq_take_drop_succ]
  have : (Q.take n).length = n := by simp; omega
  exact ⟨by rw [List.take_append_of_le_length (by omega), List.take_of_length_le (by omega)], by rw [List.drop_append_of_le_length (by omega), List.drop_of_length_le (by omega), List.nil_append]⟩
theorem tk_su {Q : List Nat} {n f : Nat} (e : Q[n]? = some f) : Q.take (n + 1) = Q.take n ++ [f] ∧ Q.drop n = f :: Q.drop (n + 1) := by
  have h := gQ_lt e
  have e2 : Q[n] = f := by rw [List.getElem?_eq_getElem h] at e; exact Option.some.inj e
  exact ⟨by rw [List.take_add_one, e]; rfl, by rw [List.drop_eq_getElem_cons h, e2]⟩
theorem e1_l {j : Nat} {w : Nat → Int32} : ∀ (n : Nat) (Q : List Nat) (t : Sg), n ≤ Q.length → Q.length ≤ 32 → (∀ f, f ∈ Q → f < 16) → QW t w Q → ∃ G : Nat → Nat → Nat → Int32, e1F j n t = ((fun c k e => if c = 51 ∨ c = 52 ∨ (c = 11 ∧ k = 42) then G c k e else if c = 42 ∧ e = 0 ∧ k ∈ Q.take n ∧ gI t 43 k 0 = nI j then 0 else gI t c k e), t.2) ∧ QW (e1F j n t) w ((Q.take n).filter (fun f => !decide (gI t 43 f 0 = nI j)) ++ Q.drop n)
  | 0, Q, t, h1, h32, h2, h3 => ⟨t.1, by
      refine Prod.ext ?_ rfl
      funext c k e
      show t.1 c k e = if _ then _ else if _ then _ else _
      rw [if_neg (show ¬ (c = 42 ∧ e = 0 ∧ k ∈ Q.take 0 ∧ gI t 43 k 0 = nI j) by simp), show gI t c k e = t.1 c k e from rfl, ite_self], by simpa [e1F] using h3⟩
  | n + 1, Q, t, h1, h32, h2, h3 => by
    obtain ⟨f, ef⟩ : ∃ f, Q[n]? = some f := ⟨Q[n], List.getElem?_eq_getElem (by omega)⟩
    obtain ⟨g1, g2⟩ := h3.2 n f ef
    have hf : f < 16 := h2 f (List.mem_of_getElem? ef)
    obtain ⟨t1, t2⟩ := tk_su ef
    rw [e1F, g1, nI_clamp (by omega), h3.1, nI_clamp (by omega)]
    by_cases c : gI t 43 f 0 = nI j
    · rw [if_pos c]
      have hq : QW (sI t 42 f 0 0) w Q := ⟨h3.1, fun i f' e => h3.2 i f' e⟩
      obtain ⟨u1, u2⟩ := tk_er (show n < Q.length by omega)
      have hQ' := qw_lea hq (show n < Q.length by omega)
      have h43 : ∀ k, gI (leaF (sI t 42 f 0 0) Q.length n) 43 k 0 = gI t 43 k 0 := fun k => by
        unfold leaF; rw [shF_gI, if_neg (by omega)]; rfl
      obtain ⟨G, e1, e2⟩ := e1_l n (Q.eraseIdx n) _ (by rw [List.length_eraseIdx_of_lt (by omega)]; omega) (by rw [List.length_eraseIdx_of_lt (by omega)]; omega) (fun f' hf' => h2 f' (List.mem_of_mem_eraseIdx hf')) hQ'
      simp only [h43] at e1 e2
      rw [u1] at e1 e2
      rw [u2] at e2
      refine ⟨G, ?_, ?_⟩
      · rw [e1]
        refine Prod.ext ?_ ?_
        · funext c' k e
          have r : ¬ (c' = 51 ∨ c' = 52 ∨ (c' = 11 ∧ k = 42)) → gI (leaF (sI t 42 f 0 0) Q.length n) c' k e = if c' = 42 ∧ k = f ∧ e = 0 then 0 else gI t c' k e := fun hc => by
            unfold leaF
            rw [shF_gI, if_neg (by omega), gI_sI, if_neg (by omega), gI_sI]
          dsimp only
          split
          · rfl
          · rename_i hc
            rw [r hc, t1]
            simp only [List.mem_append, List.mem_singleton]
            grind
        · show (leaF (sI t 42 f 0 0) Q.length n).2 = t.2
          unfold leaF
          rw [shF_gh]; rfl
      · rw [t1, List.filter_append]
        simpa [c] using e2
    · rw [if_neg c]
      obtain ⟨G, e1, e2⟩ := e1_l n Q t (by omega) h32 h2 h3
      refine ⟨G, ?_, ?_⟩
      · rw [e1]
        refine Prod.ext ?_ rfl
        funext c' k e
        dsimp only
        rw [t1]
        simp only [List.mem_append, List.mem_singleton]
        grind
      · rw [t1, List.filter_append]
        rw [t2] at e2
        simpa [c] using e2
theorem nd_len : ∀ (n : Nat) (Q : List Nat), Q.Nodup → (∀ f, f ∈ Q → f < n) → Q.length ≤ n
  | 0, [], _, _ => by simp
  | 0, a :: Q, _, h => absurd (h a (by simp)) (by omega)
  | n + 1, Q, hN, h => by
    have h1 := nd_len n (Q.erase n) (hN.erase n) (fun f hf => by
      have h2 := (hN.mem_erase_iff).mp hf
      have := h f h2.2
      have h3 := h2.1
      omega)
    rw [List.length_erase] at h1
    split at h1 <;> omega
end Que1
