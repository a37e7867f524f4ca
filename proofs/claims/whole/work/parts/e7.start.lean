/-! the law, from its entry -/
theorem kd10 : ((KD[10]?).getD []).length = 13 := by decide
theorem kd11 : ((KD[11]?).getD []).length = 51 := by decide
def emp (z : Nat) : Sg := (fun _ _ _ => 0, fun _ _ _ => 0, fun _ _ _ => none, fun _ => 0, fun _ _ => 0, z, 0)
theorem FC_emp (z : Nat) : FC (emp z) (fun _ _ _ => 0) (fun _ _ _ => none) (fun _ => 0) (fun _ _ => 0) z 0 := ⟨fun _ _ _ => rfl, fun _ _ _ => rfl, fun _ _ _ => rfl, fun _ => rfl, fun _ _ _ => rfl, ⟨rfl, rfl⟩, fun _ _ _ _ => rfl, fun _ _ _ _ => rfl⟩
theorem HP_emp {g : Nat → Nat → Nat} {D : va_G} {E : Nat → ClassId} (H : Heap) : HP g D E (emp H.size) H := ⟨rfl, fun c i hi => absurd hi (Nat.not_lt_zero i), fun c i c' i' hi => absurd hi (Nat.not_lt_zero i)⟩
theorem cn_emp {z c n d i : Nat} (h : i < cn (nw (emp z) c n) d) : d = c ∧ i = 0 := by
  rw [cn_nw] at h
  have h0 : ∀ x, cn (emp z) x = 0 := fun _ => rfl
  rw [h0, h0] at h
  by_cases q : d = c
  · rw [if_pos q] at h; exact ⟨q, by omega⟩
  · rw [if_neg q] at h; omega
theorem oki86 : 86 < 184 ∧ lw_tbl[81]? = some (.methodLink R_law 15 (yN 86)) ∧ kOK 86 1 = true ∧ ow 86 = 10 ∧ (fN 86 + 1 ≤ 10 ∧ 8 + (mx 86 + 11) + lW 86 ≤ 360) ∧ 1 = nP 86 - 1 ∧ mx 86 = 3 := by decide +kernel
theorem oki120 : 120 < 184 ∧ lw_tbl[925]? = some (.methodLink R_law 20 (yN 120)) ∧ kOK 120 1 = true ∧ ow 120 = 11 ∧ (fN 120 + 1 ≤ 10 ∧ 8 + (mx 120 + 11) + lW 120 ≤ 360) ∧ 1 = nP 120 - 1 ∧ mx 120 = 3 := by decide +kernel
theorem whole_start {p : Program} {e : Env} {s : State} {m : MethodId} {below : List Frame} {meth : Method} {c : Code} (l : Launch) {b L : Nat} {xs : Nat → Int32} (hL : L ≤ 2561) (C0 : lw_At p s m meth c b L xs) : W p l e room_1 s m #[Value.ref b] below meth c s.heap [] 0 0 (lw_Z below #[Value.ref b] s) (entryFrame m ([Value.ref b] : List Value).toArray 4) := by
  obtain ⟨hx, hb, hr, hml, hown, hts, hX, hbl, hlocks, hgv⟩ := id C0
  obtain ⟨D, E, hK⟩ := law_KK hts
  have hG : ∀ w ∈ GT, w.before #[Value.ref b] s = true := fun w hw => hts w (List.mem_filter.mp hw).1
  have C : LX p s m c b D E := ⟨hx, hb, hml, hown, hG, hK⟩
  obtain ⟨nf, h3, h16, hw1, hw2⟩ := nf_ex (fst0 L xs)
  have hS : va_S (fun q : Nat => s.heap.size ≤ q) s.heap s.heap [] := va_S.rf
  have hl := lv_entry ([.ref b]) (n := 4) (Nat.le_of_ble_eq_true rfl)
  rw [lg_entry_eq]
  generalize (lg_sl ([.ref b]) ++ List.replicate (4 - (lg_sl ([.ref b])).length) Slot.unset).toArray = ls at hl ⊢
  have hl : lv_has ls 4 [(0, .ref b)] := hl
  -- the class's object
  refine L_new (g := gC s.heap.size nf) (σ := emp s.heap.size) (c := 10) C (by omega) wd_link.1 (HP_emp s.heap) hS rfl (by omega) (by rw [kd10]; omega) dw0 (fun H1 hp1 hs1 ho1 hz1 => ?_)
  rw [kd10] at hp1 ⊢
  refine lv_dup hx hb dw3 rfl ?_
  refine lv_aload_n hx hb dw4 rfl (lv_at hl 0 rfl) ?_
  refine lv_iconst (v := 0) hx hb dw5 (by decide) ?_
  refine L_cell C hX hbl hL hs1 (Nat.le_of_ble_eq_true rfl) dw6 hl.1 (by omega) (fun locs1 hs1 => ?_)
  have f1 := FC_cg (N' := fun c => if c = 10 then 1 else 0) (FC_nw (c := 10) (n := 13) (FC_emp s.heap.size) (by omega)) (fun _ _ _ => rfl) (fun _ _ _ => rfl) (fun _ => rfl) (fun _ _ _ => rfl) rfl (show 0 + 13 = 13 from rfl)
  obtain ⟨s', r1, hIC⟩ := k_new (b := s.heap.size) h3 h16 hw1 f1
  have hR1 : Rn (gC s.heap.size nf) 86 0 [oC, some (.inl (fst0 L xs)), none] [] (nw (emp s.heap.size) 10 13) (s', none) := (r1 _).mpr rfl
  obtain ⟨N1, hN1⟩ := id hR1
  obtain ⟨-, -, x3⟩ := ex_sz _ _ _ _ _ _ _ hN1
  have xz : sz (nw (emp s.heap.size) 10 13) = s.heap.size + 1 := rfl
  have xl : sl (nw (emp s.heap.size) 10 13) = 13 := rfl
  have z1 : sz s' = s.heap.size + 170 + nf := hIC.2.2.2.2.2.1
  have z2 : sl s' ≤ 13 + 10000 := hIC.2.2.2.2.2.2
  dsimp only at x3
  obtain ⟨c1, c2, c3, c4, c5, c6, c7⟩ := oki86
  refine L_init (mj := 86) (n := 81) (c0 := 10) (as := [.inl (fst0 L xs)]) (rest := [.ref (gC s.heap.size nf 10 0)]) (A1 := fun q => s.heap.size ≤ q) (A0 := fun q => s.heap.size ≤ q) C c1 c2 c3 c4 (by omega) dw9 hl.1 c5 c6 (Nat.le_of_ble_eq_true rfl) (by rw [c7]; exact Nat.le_of_ble_eq_true rfl) (by rw [c7]; rfl) rfl hR1 hp1 (fun d i hi => by
    obtain ⟨rfl, rfl⟩ := cn_emp hi
    exact Nat.le_refl _) (fun q hq => by omega) hs1 (fun q hq => hq) (by dsimp only; omega) (fun H2 locs2 hp2 hs2 hzz2 hk2 => ?_)
  have zs2 : H2.size = s.heap.size + 170 + nf := hp2.1.trans z1
  refine lv_astore_n (lv' := [(1, .ref (gC s.heap.size nf 10 0)), (0, .ref b)]) hx hb dw12 rfl hl (by decide) rfl (fun ls hl => ?_)
  -- the reference's object
  refine L_new (g := gC s.heap.size nf) (σ := emp H2.size) (c := 11) C (by omega) wd_link.2.1 (HP_emp H2) hs2 (show H2.size = gC s.heap.size nf 11 0 from zs2) (by dsimp only; omega) (by rw [kd11]; dsimp only; omega) dw13 (fun H3 hp3 hs3 ho3 hz3 => ?_)
  rw [kd11] at hp3 ⊢
  refine lv_dup hx hb dw16 rfl ?_
  refine lv_aload_n hx hb dw17 rfl (lv_at hl 1 rfl) ?_
  refine lv_iconst (v := 0) hx hb dw18 (by decide) ?_
  refine L_cell C hX hbl hL hs3 (Nat.le_of_ble_eq_true rfl) dw19 hl.1 (by dsimp only; omega) (fun locs3 hs3 => ?_)
  have f2 := FC_cg (N' := fun c => if c = 11 then 1 else 0) (z' := s.heap.size + 171 + nf) (FC_nw (c := 11) (n := 51) (FC_emp H2.size) (by omega)) (fun _ _ _ => rfl) (fun _ _ _ => rfl) (fun _ => rfl) (fun _ _ _ => rfl) (by omega) (show 0 + 51 = 51 from rfl)
  obtain ⟨t', r2, hRI⟩ := k_mod (b := s.heap.size) h3 h16 hw2 f2
  have hR2 : Rn (gC s.heap.size nf) 120 0 [oR, some (.inl (fst0 L xs)), none] [] (nw (emp H2.size) 11 51) (t', none) := (r2 _).mpr rfl
  obtain ⟨N2, hN2⟩ := id hR2
  obtain ⟨-, -, y3⟩ := ex_sz _ _ _ _ _ _ _ hN2
  have yz : sz (nw (emp H2.size) 11 51) = H2.size + 1 := rfl
  have yl : sl (nw (emp H2.size) 11 51) = 51 := rfl
  have w1 : sz t' = s.heap.size + 205 + nf := hRI.2.2.2.1
  have w2 : sl t' ≤ 51 + 50000 := hRI.2.2.2.2
  dsimp only at y3
  obtain ⟨b1, b2, b3, b4, b5, b6, b7⟩ := oki120
  refine L_init (mj := 120) (n := 925) (c0 := 11) (as := [.inl (fst0 L xs)]) (rest := [.ref (gC s.heap.size nf 11 0)]) (A1 := fun q => s.heap.size + 170 + nf ≤ q) (A0 := fun q => s.heap.size ≤ q) C b1 b2 b3 b4 (by omega) dw22 hl.1 b5 b6 (Nat.le_of_ble_eq_true rfl) (by rw [b7]; exact Nat.le_of_ble_eq_true rfl) (by rw [b7]; rfl) rfl hR2 hp3 (fun d i hi => by
    obtain ⟨rfl, rfl⟩ := cn_emp hi
    exact Nat.le_refl _) (fun q hq => by omega) hs3 (fun q hq => by omega) (by dsimp only; omega) (fun H4 locs4 hp4 hs4 hzz4 hk4 => ?_)
  have zs4 : H4.size = s.heap.size + 205 + nf := hp4.1.trans w1
  refine lv_astore_n (lv' := [(2, .ref (gC s.heap.size nf 11 0)), (1, .ref (gC s.heap.size nf 10 0)), (0, .ref b)]) hx hb dw25 rfl hl (by decide) rfl (fun ls hl => ?_)
  refine lv_iconst (v := 1) hx hb dw26 (by decide) ?_
  refine lv_istore_n (lv' := [(3, .int 1), (2, .ref (gC s.heap.size nf 11 0)), (1, .ref (gC s.heap.size nf 10 0)), (0, .ref b)]) hx hb dw27 rfl hl (by decide) rfl (fun ls hl => ?_)
  have low : ∀ d i, i < cn s' d → s.heap.size ≤ gC s.heap.size nf d i ∧ gC s.heap.size nf d i < s.heap.size + 170 + nf := fun d i hi => by
    have q1 := cel_lt hp2 hi
    rcases x3 d i hi with q | q
    · obtain ⟨rfl, rfl⟩ := cn_emp q
      exact ⟨Nat.le_refl _, by omega⟩
    · exact ⟨by omega, by omega⟩
  have hQ := HP_keep (H1 := H4) hp2 (fun d i hi => by
    obtain ⟨q1, q2⟩ := low d i hi
    rw [hk4 _ (by omega) (by omega), ho3 _ (by omega)])
  rw [zs4] at hQ
  obtain ⟨i1, i2, i3⟩ := rl_init hIC hRI
  refine law_loop hL C0 C (L + 1) 1 0 (szF s' (s.heap.size + 205 + nf)) t' H4 locs4 _ _ ls rfl (by omega) (by omega) ⟨⟨hQ, hp4⟩, ⟨fun d i hi => ?_, fun d i hi => ?_⟩, ⟨0, 0, [], i1, i2, i3, by omega, by omega⟩, by dsimp only; omega, by dsimp only; omega⟩ hs4 (lv_sub hl [3, 2, 1, 0] rfl)
  · obtain ⟨q1, q2⟩ := low d i hi
    exact ⟨q1, by omega⟩
  · have q1 := cel_lt hp4 hi
    rcases y3 d i hi with q | q
    · obtain ⟨rfl, rfl⟩ := cn_emp q
      exact ⟨Nat.le_refl _, by omega⟩
    · exact ⟨by omega, by omega⟩
