/-! the law's loop -/
section Law7
variable {p : Program} {l : Launch} {e : Env} {s : State} {m : MethodId} {below : List Frame} {meth : Method} {cd : Code} {b L nf : Nat} {xs : Nat → Int32} {D : va_G} {E : Nat → ClassId}
theorem LI_mono {s0 cells slots k : Nat} {σ τ : Sg} {H : Heap} (h : LI s0 nf D E σ τ H cells slots k) : LI s0 nf D E σ τ H cells slots (k + 1) := by
  obtain ⟨h1, h2, ⟨B, n, Q, q1, q2, q3, q4, q5⟩, h4⟩ := h
  exact ⟨h1, h2, ⟨B, n, Q, q1, q2, q3, by omega, by omega⟩, h4⟩
theorem LI_room {s0 cells slots k : Nat} {σ τ : Sg} {H : Heap} (h : LI s0 nf D E σ τ H cells slots k) : cells ≤ 600000 ∧ slots ≤ 7302250 := by
  obtain ⟨⟨hP1, -⟩, h2, ⟨B, n, Q, q1, q2, q3, q4, q5⟩, h4, h5⟩ := h
  have zs : sz σ = H.size := hP1.1.symm
  have hz0 : H.size = s0 + 205 + nf + cn σ 16 := by
    rw [← zs, show sz σ = gC s0 nf 16 (cn σ 16) from q1.1.2.2]; rfl
  have h16 : nf ≤ 16 := q1.1.1.1.2
  have h64 : cn σ 16 ≤ 64 := q1.1.1.2.2.2.2.2.2.2.2.1
  omega
theorem law_loop (hL : L ≤ 2561) (C0 : lw_At p s m meth cd b L xs) (C : LX p s m cd b D E) : ∀ (fuel i k : Nat) (σ τ : Sg) (H : Heap) (locs : List Loc) (cells slots : Nat) (ls : Array Slot), i = 5 * k + 1 → i ≤ 3000 → L + 1 ≤ i + fuel → LI s.heap.size nf D E σ τ H cells slots k → va_S (fun q => s.heap.size ≤ q) s.heap H locs → lv_has ls 4 [(0, .ref b), (1, .ref (gC s.heap.size nf 10 0)), (2, .ref (gC s.heap.size nf 11 0)), (3, .int (nI i))] → W p l e room_1 s m #[Value.ref b] below meth cd H locs cells slots (lw_Z below #[Value.ref b] s) (F0 m 28 ls []) := by
  obtain ⟨hx, hb, hr, hml, hown, hts, hX, hbl, hlocks, hgv⟩ := id C0
  have hbA : ¬ (fun q : Nat => s.heap.size ≤ q) b := Nat.not_le.mpr hbl
  intro fuel
  induction fuel with
  | zero =>
    intro i k σ τ H locs cells slots ls hi hi3 hf hI hS hl
    obtain ⟨r1, r2⟩ := LI_room hI
    refine lv_iload_n hx hb dw28 rfl (lv_at hl 3 rfl) ?_
    refine lv_aload_n hx hb dw29 rfl (lv_at hl 0 rfl) ?_
    refine va_slen hx hb hX hbl hbA hS dw30 ?_
    refine lv_iconst (v := 5) hx hb dw31 (by decide) ?_
    refine lv_isub hx hb dw32 ?_
    have e1 : (Int32.ofNat L - 5).toInt = (L : Int) - 5 := by
      rw [ofN, Int32.toInt_sub, nI_toInt (by omega), show (5 : Int32).toInt = 5 by decide, Int.bmod_eq_of_le (by omega) (by omega)]
    refine lv_icmp_gt (tgt := 682) hx hb dw33 (by decide) (fun q => ?_) (fun q => ?_)
    · refine lv_iconst (v := 1) hx hb dw682 (by decide) ?_
      refine va_forget hS.2.2 ?_
      refine W.widen (k := 600000) (n := 7302250) r1 r2 ?_
      exact lw_ret hx hb hr hlocks dw683
    · rw [Int32.lt_iff_toInt_lt, e1, nI_toInt (by omega)] at q
      omega
  | succ fuel ih =>
    intro i k σ τ H locs cells slots ls hi hi3 hf hI hS hl
    obtain ⟨r1, r2⟩ := LI_room hI
    refine lv_iload_n hx hb dw28 rfl (lv_at hl 3 rfl) ?_
    refine lv_aload_n hx hb dw29 rfl (lv_at hl 0 rfl) ?_
    refine va_slen hx hb hX hbl hbA hS dw30 ?_
    refine lv_iconst (v := 5) hx hb dw31 (by decide) ?_
    refine lv_isub hx hb dw32 ?_
    have e1 : (Int32.ofNat L - 5).toInt = (L : Int) - 5 := by
      rw [ofN, Int32.toInt_sub, nI_toInt (by omega), show (5 : Int32).toInt = 5 by decide, Int.bmod_eq_of_le (by omega) (by omega)]
    refine lv_icmp_gt (tgt := 682) hx hb dw33 (by decide) (fun q => ?_) (fun q => ?_)
    · refine lv_iconst (v := 1) hx hb dw682 (by decide) ?_
      refine va_forget hS.2.2 ?_
      refine W.widen (k := 600000) (n := 7302250) r1 r2 ?_
      exact lw_ret hx hb hr hlocks dw683
    have hi5 : i + 5 ≤ L := by
      rw [Int32.lt_iff_toInt_lt, e1, nI_toInt (by omega)] at q
      omega
    have nx : ∀ (H2 : Heap) (locs2 : List Loc) (c2 s2 : Nat) (σ2 τ2 : Sg), va_S (fun q => s.heap.size ≤ q) s.heap H2 locs2 → LI s.heap.size nf D E σ2 τ2 H2 c2 s2 (k + 1) → W p l e room_1 s m #[Value.ref b] below meth cd H2 locs2 c2 s2 (lw_Z below #[Value.ref b] s) (F0 m 676 ls []) := fun H2 locs2 c2 s2 σ2 τ2 hS2 hI2 => by
      refine lv_iinc (v := nI (i + 5)) (lv' := [(3, .int (nI (i + 5))), (0, .ref b), (1, .ref (gC s.heap.size nf 10 0)), (2, .ref (gC s.heap.size nf 11 0))]) hx hb dw676 hl (k := 3) rfl (by rw [show Int32.ofInt 5 = nI 5 by decide, nI_add]) (by decide) rfl (fun ls2 hl2 => ?_)
      refine lv_goto (tgt := 28) hx hb dw679 (by decide) ?_
      exact ih (i + 5) (k + 1) σ2 τ2 H2 locs2 c2 s2 ls2 (by omega) (by omega) (by omega) hI2 hS2 (lv_sub hl2 [1, 2, 3, 0] rfl)
    refine lv_aload_n hx hb dw36 rfl (lv_at hl 0 rfl) ?_
    refine lv_iload_n hx hb dw37 rfl (lv_at hl 3 rfl) ?_
    refine va_sld hx hb hX hbl hbA hS (i := nI i) (vp_in_nI (by omega) (by omega)) dw38 ?_
    refine lv_bipush (v := 31) hx hb dw39 (by decide) ?_
    refine lv_iand hx hb dw41 ?_
    obtain ⟨x, x32, ex⟩ := msk (xs (nI i).toNatClampNeg) 5 (by omega) (M := 31) (by decide)
    rw [ex]
    by_cases x18 : 18 ≤ x
    · refine lv_tableOut (tgt := 676) hx hb dw42 (Or.inr ?_) (by decide) ?_
      · rw [nI_toInt (by omega)]; omega
      · exact nx H locs cells slots σ τ hS (LI_mono hI)
    have x17 : x < 18 := by omega
    match x, x17 with
    | 0, _ =>
      refine lv_tableIn (tgt := 128) (off := 86) hx hb dw42 (by decide) (by decide) (by decide) (by decide) ?_
      exact lq_key C hX hbl hS hl hi5 hL (by omega) hI nx
    | 1, _ =>
      refine lv_tableIn (tgt := 181) (off := 139) hx hb dw42 (by decide) (by decide) (by decide) (by decide) ?_
      exact lq_load C hX hbl hS hl hi5 hL (by omega) hI nx
    | 2, _ =>
      refine lv_tableIn (tgt := 214) (off := 172) hx hb dw42 (by decide) (by decide) (by decide) (by decide) ?_
      exact lq_tape C hX hbl hS hl hi5 hL (by omega) hI nx
    | 3, _ =>
      refine lv_tableIn (tgt := 237) (off := 195) hx hb dw42 (by decide) (by decide) (by decide) (by decide) ?_
      exact lq_start C hX hbl hS hl hi5 hL (by omega) hI nx
    | 4, _ =>
      refine lv_tableIn (tgt := 290) (off := 248) hx hb dw42 (by decide) (by decide) (by decide) (by decide) ?_
      exact lq_run C hX hbl hS hl hi5 hL (by omega) hI nx
    | 5, _ =>
      refine lv_tableIn (tgt := 313) (off := 271) hx hb dw42 (by decide) (by decide) (by decide) (by decide) ?_
      exact lq_job C hX hbl hS hl hi5 hL (by omega) hI nx
    | 6, _ =>
      refine lv_tableIn (tgt := 346) (off := 304) hx hb dw42 (by decide) (by decide) (by decide) (by decide) ?_
      exact lq_register C hX hbl hS hl hi5 hL (by omega) hI nx
    | 7, _ =>
      refine lv_tableIn (tgt := 379) (off := 337) hx hb dw42 (by decide) (by decide) (by decide) (by decide) ?_
      exact lq_accumulator C hX hbl hS hl hi5 hL (by omega) hI nx
    | 8, _ =>
      refine lv_tableIn (tgt := 403) (off := 361) hx hb dw42 (by decide) (by decide) (by decide) (by decide) ?_
      exact lq_word C hX hbl hS hl hi5 hL (by omega) hI nx
    | 9, _ =>
      refine lv_tableIn (tgt := 437) (off := 395) hx hb dw42 (by decide) (by decide) (by decide) (by decide) ?_
      exact lq_paper C hX hbl hS hl hi5 hL (by omega) hI nx
    | 10, _ =>
      refine lv_tableIn (tgt := 471) (off := 429) hx hb dw42 (by decide) (by decide) (by decide) (by decide) ?_
      exact lq_frame C hX hbl hS hl hi5 hL (by omega) hI nx
    | 11, _ =>
      refine lv_tableIn (tgt := 504) (off := 462) hx hb dw42 (by decide) (by decide) (by decide) (by decide) ?_
      exact lq_place C hX hbl hS hl hi5 hL (by omega) hI nx
    | 12, _ =>
      refine lv_tableIn (tgt := 537) (off := 495) hx hb dw42 (by decide) (by decide) (by decide) (by decide) ?_
      exact lq_drum C hX hbl hS hl hi5 hL (by omega) hI nx
    | 13, _ =>
      refine lv_tableIn (tgt := 560) (off := 518) hx hb dw42 (by decide) (by decide) (by decide) (by decide) ?_
      exact lq_queued C hX hbl hS hl hi5 hL (by omega) hI nx
    | 14, _ =>
      refine lv_tableIn (tgt := 583) (off := 541) hx hb dw42 (by decide) (by decide) (by decide) (by decide) ?_
      exact lq_chosen C hX hbl hS hl hi5 hL (by omega) hI nx
    | 15, _ =>
      refine lv_tableIn (tgt := 606) (off := 564) hx hb dw42 (by decide) (by decide) (by decide) (by decide) ?_
      exact lq_printed C hX hbl hS hl hi5 hL (by omega) hI nx
    | 16, _ =>
      refine lv_tableIn (tgt := 630) (off := 588) hx hb dw42 (by decide) (by decide) (by decide) (by decide) ?_
      exact lq_clock C hX hbl hS hl hi5 hL (by omega) hI nx
    | 17, _ =>
      refine lv_tableIn (tgt := 653) (off := 611) hx hb dw42 (by decide) (by decide) (by decide) (by decide) ?_
      exact lq_forget C hX hbl hS hl hi5 hL (by omega) hI nx
    | n + 18, h => exact absurd h (by omega)
end Law7
