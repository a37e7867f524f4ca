/-! the law's cases -/
theorem ok87 : okC 87 10 23 449 1 3 := by unfold okC; decide +kernel
theorem ok125 : okC 125 11 27 1088 1 3 := by unfold okC; decide +kernel
theorem ty87 : rT 87 = some .int ∨ rT 87 = some .boolean := by decide +kernel
theorem ok88 : okC 88 10 28 468 2 9 := by unfold okC; decide +kernel
theorem ok133 : okC 133 11 32 1095 2 9 := by unfold okC; decide +kernel
theorem ty88 : rT 88 = some .int ∨ rT 88 = some .boolean := by decide +kernel
theorem ok89 : okC 89 10 33 536 1 5 := by unfold okC; decide +kernel
theorem ok136 : okC 136 11 37 1129 1 3 := by unfold okC; decide +kernel
theorem ty89 : rT 89 = some .int ∨ rT 89 = some .boolean := by decide +kernel
theorem ok90 : okC 90 10 38 545 4 6 := by unfold okC; decide +kernel
theorem ok137 : okC 137 11 42 1133 4 5 := by unfold okC; decide +kernel
theorem ty90 : rT 90 = some .int ∨ rT 90 = some .boolean := by decide +kernel
theorem ok91 : okC 91 10 43 561 1 3 := by unfold okC; decide +kernel
theorem ok138 : okC 138 11 46 1142 1 3 := by unfold okC; decide +kernel
theorem ty91 : rT 91 = some .int ∨ rT 91 = some .boolean := by decide +kernel
theorem ok92 : okC 92 10 47 824 2 4 := by unfold okC; decide +kernel
theorem ok166 : okC 166 11 50 1281 2 3 := by unfold okC; decide +kernel
theorem ty92 : rT 92 = some .int ∨ rT 92 = some .boolean := by decide +kernel
theorem ok93 : okC 93 10 51 832 2 4 := by unfold okC; decide +kernel
theorem ok167 : okC 167 11 54 1285 2 3 := by unfold okC; decide +kernel
theorem ty93 : rT 93 = some .int ∨ rT 93 = some .boolean := by decide +kernel
theorem ok94 : okC 94 10 55 837 1 3 := by unfold okC; decide +kernel
theorem ok168 : okC 168 11 59 1289 1 2 := by unfold okC; decide +kernel
theorem ty94 : rT 94 = some .long := by decide +kernel
theorem ok95 : okC 95 10 60 841 2 4 := by unfold okC; decide +kernel
theorem ok169 : okC 169 11 64 1293 2 3 := by unfold okC; decide +kernel
theorem ty95 : rT 95 = some .long := by decide +kernel
theorem ok96 : okC 96 10 65 846 2 4 := by unfold okC; decide +kernel
theorem ok170 : okC 170 11 68 1297 2 3 := by unfold okC; decide +kernel
theorem ty96 : rT 96 = some .long := by decide +kernel
theorem ok97 : okC 97 10 69 850 2 4 := by unfold okC; decide +kernel
theorem ok171 : okC 171 11 72 1301 2 3 := by unfold okC; decide +kernel
theorem ty97 : rT 97 = some .int ∨ rT 97 = some .boolean := by decide +kernel
theorem ok98 : okC 98 10 73 862 2 4 := by unfold okC; decide +kernel
theorem ok172 : okC 172 11 76 1305 2 3 := by unfold okC; decide +kernel
theorem ty98 : rT 98 = some .int ∨ rT 98 = some .boolean := by decide +kernel
theorem ok99 : okC 99 10 77 870 1 2 := by unfold okC; decide +kernel
theorem ok173 : okC 173 11 80 1310 1 2 := by unfold okC; decide +kernel
theorem ty99 : rT 99 = some .int ∨ rT 99 = some .boolean := by decide +kernel
theorem ok100 : okC 100 10 81 878 1 3 := by unfold okC; decide +kernel
theorem ok174 : okC 174 11 84 1314 1 2 := by unfold okC; decide +kernel
theorem ty100 : rT 100 = some .int ∨ rT 100 = some .boolean := by decide +kernel
theorem ok101 : okC 101 10 85 886 1 2 := by unfold okC; decide +kernel
theorem ok175 : okC 175 11 88 1318 1 2 := by unfold okC; decide +kernel
theorem ty101 : rT 101 = some .int ∨ rT 101 = some .boolean := by decide +kernel
theorem ok102 : okC 102 10 89 895 1 2 := by unfold okC; decide +kernel
theorem ok176 : okC 176 11 92 1322 1 2 := by unfold okC; decide +kernel
theorem ty102 : rT 102 = some .long := by decide +kernel
theorem ok103 : okC 103 10 93 899 1 2 := by unfold okC; decide +kernel
theorem ok177 : okC 177 11 96 1327 1 2 := by unfold okC; decide +kernel
theorem ty103 : rT 103 = some .int ∨ rT 103 = some .boolean := by decide +kernel
theorem ok104 : okC 104 10 97 903 1 3 := by unfold okC; decide +kernel
theorem ok178 : okC 178 11 101 1331 1 4 := by unfold okC; decide +kernel
theorem ty104 : rT 104 = some .int ∨ rT 104 = some .boolean := by decide +kernel
section Law6
variable {p : Program} {l : Launch} {e : Env} {s : State} {m : MethodId} {below : List Frame} {meth : Method} {cd : Code} {H : Heap} {locs : List Loc} {cells slots b L i k nf : Nat} {xs : Nat → Int32} {Q : State → Prop} {ls : Array Slot} {D : va_G} {E : Nat → ClassId} {σ τ : Sg}
theorem cmp_x (x : Int64) : lg_cmp x x = 0 := by rw [cmp_eq]
theorem lq_key (C : LX p s m cd b D E) (hX : va_X b L xs s s.heap) (hbl : b < s.heap.size) (hS : va_S (fun q => s.heap.size ≤ q) s.heap H locs) (hl : lv_has ls 4 [(0, .ref b), (1, .ref (gC s.heap.size nf 10 0)), (2, .ref (gC s.heap.size nf 11 0)), (3, .int (nI i))]) (hi : i + 5 ≤ L) (hL : L ≤ 2561) (hk : k ≤ 600) (hI : LI s.heap.size nf D E σ τ H cells slots k) (fin : ∀ (H2 : Heap) (locs2 : List Loc) (c2 s2 : Nat) (σ2 τ2 : Sg), va_S (fun q => s.heap.size ≤ q) s.heap H2 locs2 → LI s.heap.size nf D E σ2 τ2 H2 c2 s2 (k + 1) → W p l e room_1 s m #[Value.ref b] below meth cd H2 locs2 c2 s2 Q (F0 m 676 ls [])) : W p l e room_1 s m #[Value.ref b] below meth cd H locs cells slots Q (F0 m 128 ls []) := by
  obtain ⟨hx, hb, hml, hown, hts, hK⟩ := id C
  refine lv_aload_n hx hb dw128 rfl (lv_at hl 1 rfl) ?_
  refine la_arg (pc := 129) (j := 1) C hX hbl hS hl hi hL (by omega) rfl dw129 dw130 dw131 dw132 dw133 ?_
  refine lv_i2l hx hb dw134 rfl ?_
  refine lv_bipush (v := 32) hx hb dw135 (by decide) ?_
  refine lv_lshl hx hb dw137 rfl ?_
  refine la_arg (pc := 138) (j := 2) C hX hbl hS hl hi hL (by omega) rfl dw138 dw139 dw140 dw141 dw142 ?_
  refine lv_i2l hx hb dw143 rfl ?_
  refine lv_ldc2 hx hb hown (hts _ (GT_at wd_link.2.2 rfl)) dw144 ?_
  refine lv_land hx hb dw147 ?_
  refine lv_lor hx hb dw148 ?_
  refine law_two (as := [.inr (.inl (((xs (i + 1)).toInt64 <<< ((32 : Int32).toInt64 &&& 63)) ||| ((xs (i + 2)).toInt64 &&& 4294967295)))]) (lc := [oC, some (.inr (.inl (((xs (i + 1)).toInt64 <<< ((32 : Int32).toInt64 &&& 63)) ||| ((xs (i + 2)).toInt64 &&& 4294967295)))), none]) (lr := [oR, some (.inr (.inl (((xs (i + 1)).toInt64 <<< ((32 : Int32).toInt64 &&& 63)) ||| ((xs (i + 2)).toInt64 &&& 4294967295)))), none]) (pc1 := 149) (pc2 := 173) C hI hS ok87 ok125 (by omega) rfl (Nat.le_of_ble_eq_true rfl) (Nat.le_of_ble_eq_true rfl) rfl rfl dw149 dw173 hl.1 (fun t0 B n Qq h h1 h2 hB hn => rel_key h h1 h2 _) (fun H1 locs1 c1 s1 u hS1 kk => ?_) (fun v H2 locs2 c2 s2 σ2 τ2 ty1 ty2 hS2 hI2 => ?_)
  · refine lv_aload_n hx hb dw152 rfl (lv_at hl 2 rfl) ?_
    refine la_arg (pc := 153) (j := 1) C hX hbl hS1 hl hi hL (by omega) rfl dw153 dw154 dw155 dw156 dw157 ?_
    refine lv_i2l hx hb dw158 rfl ?_
    refine lv_bipush (v := 32) hx hb dw159 (by decide) ?_
    refine lv_lshl hx hb dw161 rfl ?_
    refine la_arg (pc := 162) (j := 2) C hX hbl hS1 hl hi hL (by omega) rfl dw162 dw163 dw164 dw165 dw166 ?_
    refine lv_i2l hx hb dw167 rfl ?_
    refine lv_ldc2 hx hb hown (hts _ (GT_at wd_link.2.2 rfl)) dw168 ?_
    refine lv_land hx hb dw171 ?_
    refine lv_lor hx hb dw172 ?_
    exact kk
  · obtain ⟨x, rfl⟩ := ty1 ty87
    exact lv_icmp_eq (tgt := 676) hx hb dw176 (by decide) (fun _ => fin _ _ _ _ _ _ hS2 hI2) (fun z => absurd rfl z)
theorem lq_load (C : LX p s m cd b D E) (hX : va_X b L xs s s.heap) (hbl : b < s.heap.size) (hS : va_S (fun q => s.heap.size ≤ q) s.heap H locs) (hl : lv_has ls 4 [(0, .ref b), (1, .ref (gC s.heap.size nf 10 0)), (2, .ref (gC s.heap.size nf 11 0)), (3, .int (nI i))]) (hi : i + 5 ≤ L) (hL : L ≤ 2561) (hk : k ≤ 600) (hI : LI s.heap.size nf D E σ τ H cells slots k) (fin : ∀ (H2 : Heap) (locs2 : List Loc) (c2 s2 : Nat) (σ2 τ2 : Sg), va_S (fun q => s.heap.size ≤ q) s.heap H2 locs2 → LI s.heap.size nf D E σ2 τ2 H2 c2 s2 (k + 1) → W p l e room_1 s m #[Value.ref b] below meth cd H2 locs2 c2 s2 Q (F0 m 676 ls [])) : W p l e room_1 s m #[Value.ref b] below meth cd H locs cells slots Q (F0 m 181 ls []) := by
  obtain ⟨hx, hb, hml, hown, hts, hK⟩ := id C
  refine lv_aload_n hx hb dw181 rfl (lv_at hl 1 rfl) ?_
  refine la_arg (pc := 182) (j := 1) C hX hbl hS hl hi hL (by omega) rfl dw182 dw183 dw184 dw185 dw186 ?_
  refine la_arg (pc := 187) (j := 2) C hX hbl hS hl hi hL (by omega) rfl dw187 dw188 dw189 dw190 dw191 ?_
  refine law_two (as := [.inl (xs (i + 1)), .inl (xs (i + 2))]) (lc := [oC, some (.inl (xs (i + 1))), some (.inl (xs (i + 2))), none, none, none, none, none, none]) (lr := [oR, some (.inl (xs (i + 1))), some (.inl (xs (i + 2))), none, none, none, none, none, none]) (pc1 := 192) (pc2 := 206) C hI hS ok88 ok133 (by omega) rfl (Nat.le_of_ble_eq_true rfl) (Nat.le_of_ble_eq_true rfl) rfl rfl dw192 dw206 hl.1 (fun t0 B n Qq h h1 h2 hB hn => rel_load (fun i => rfl) h h1 h2 _ _) (fun H1 locs1 c1 s1 u hS1 kk => ?_) (fun v H2 locs2 c2 s2 σ2 τ2 ty1 ty2 hS2 hI2 => ?_)
  · refine lv_aload_n hx hb dw195 rfl (lv_at hl 2 rfl) ?_
    refine la_arg (pc := 196) (j := 1) C hX hbl hS1 hl hi hL (by omega) rfl dw196 dw197 dw198 dw199 dw200 ?_
    refine la_arg (pc := 201) (j := 2) C hX hbl hS1 hl hi hL (by omega) rfl dw201 dw202 dw203 dw204 dw205 ?_
    exact kk
  · obtain ⟨x, rfl⟩ := ty1 ty88
    exact lv_icmp_eq (tgt := 676) hx hb dw209 (by decide) (fun _ => fin _ _ _ _ _ _ hS2 hI2) (fun z => absurd rfl z)
theorem lq_tape (C : LX p s m cd b D E) (hX : va_X b L xs s s.heap) (hbl : b < s.heap.size) (hS : va_S (fun q => s.heap.size ≤ q) s.heap H locs) (hl : lv_has ls 4 [(0, .ref b), (1, .ref (gC s.heap.size nf 10 0)), (2, .ref (gC s.heap.size nf 11 0)), (3, .int (nI i))]) (hi : i + 5 ≤ L) (hL : L ≤ 2561) (hk : k ≤ 600) (hI : LI s.heap.size nf D E σ τ H cells slots k) (fin : ∀ (H2 : Heap) (locs2 : List Loc) (c2 s2 : Nat) (σ2 τ2 : Sg), va_S (fun q => s.heap.size ≤ q) s.heap H2 locs2 → LI s.heap.size nf D E σ2 τ2 H2 c2 s2 (k + 1) → W p l e room_1 s m #[Value.ref b] below meth cd H2 locs2 c2 s2 Q (F0 m 676 ls [])) : W p l e room_1 s m #[Value.ref b] below meth cd H locs cells slots Q (F0 m 214 ls []) := by
  obtain ⟨hx, hb, hml, hown, hts, hK⟩ := id C
  refine lv_aload_n hx hb dw214 rfl (lv_at hl 1 rfl) ?_
  refine la_arg (pc := 215) (j := 1) C hX hbl hS hl hi hL (by omega) rfl dw215 dw216 dw217 dw218 dw219 ?_
  refine law_two (as := [.inl (xs (i + 1))]) (lc := [oC, some (.inl (xs (i + 1))), none, none, none]) (lr := [oR, some (.inl (xs (i + 1))), none]) (pc1 := 220) (pc2 := 229) C hI hS ok89 ok136 (by omega) rfl (Nat.le_of_ble_eq_true rfl) (Nat.le_of_ble_eq_true rfl) rfl rfl dw220 dw229 hl.1 (fun t0 B n Qq h h1 h2 hB hn => rel_tape h h1 h2 _) (fun H1 locs1 c1 s1 u hS1 kk => ?_) (fun v H2 locs2 c2 s2 σ2 τ2 ty1 ty2 hS2 hI2 => ?_)
  · refine lv_aload_n hx hb dw223 rfl (lv_at hl 2 rfl) ?_
    refine la_arg (pc := 224) (j := 1) C hX hbl hS1 hl hi hL (by omega) rfl dw224 dw225 dw226 dw227 dw228 ?_
    exact kk
  · obtain ⟨x, rfl⟩ := ty1 ty89
    exact lv_icmp_eq (tgt := 676) hx hb dw232 (by decide) (fun _ => fin _ _ _ _ _ _ hS2 hI2) (fun z => absurd rfl z)
theorem lq_start (C : LX p s m cd b D E) (hX : va_X b L xs s s.heap) (hbl : b < s.heap.size) (hS : va_S (fun q => s.heap.size ≤ q) s.heap H locs) (hl : lv_has ls 4 [(0, .ref b), (1, .ref (gC s.heap.size nf 10 0)), (2, .ref (gC s.heap.size nf 11 0)), (3, .int (nI i))]) (hi : i + 5 ≤ L) (hL : L ≤ 2561) (hk : k ≤ 600) (hI : LI s.heap.size nf D E σ τ H cells slots k) (fin : ∀ (H2 : Heap) (locs2 : List Loc) (c2 s2 : Nat) (σ2 τ2 : Sg), va_S (fun q => s.heap.size ≤ q) s.heap H2 locs2 → LI s.heap.size nf D E σ2 τ2 H2 c2 s2 (k + 1) → W p l e room_1 s m #[Value.ref b] below meth cd H2 locs2 c2 s2 Q (F0 m 676 ls [])) : W p l e room_1 s m #[Value.ref b] below meth cd H locs cells slots Q (F0 m 237 ls []) := by
  obtain ⟨hx, hb, hml, hown, hts, hK⟩ := id C
  refine lv_aload_n hx hb dw237 rfl (lv_at hl 1 rfl) ?_
  refine la_arg (pc := 238) (j := 1) C hX hbl hS hl hi hL (by omega) rfl dw238 dw239 dw240 dw241 dw242 ?_
  refine la_arg (pc := 243) (j := 2) C hX hbl hS hl hi hL (by omega) rfl dw243 dw244 dw245 dw246 dw247 ?_
  refine la_arg (pc := 248) (j := 3) C hX hbl hS hl hi hL (by omega) rfl dw248 dw249 dw250 dw251 dw252 ?_
  refine la_arg (pc := 253) (j := 4) C hX hbl hS hl hi hL (by omega) rfl dw253 dw254 dw255 dw256 dw257 ?_
  refine law_two (as := [.inl (xs (i + 1)), .inl (xs (i + 2)), .inl (xs (i + 3)), .inl (xs (i + 4))]) (lc := [oC, some (.inl (xs (i + 1))), some (.inl (xs (i + 2))), some (.inl (xs (i + 3))), some (.inl (xs (i + 4))), none]) (lr := [oR, some (.inl (xs (i + 1))), some (.inl (xs (i + 2))), some (.inl (xs (i + 3))), some (.inl (xs (i + 4)))]) (pc1 := 258) (pc2 := 282) C hI hS ok90 ok137 (by omega) rfl (Nat.le_of_ble_eq_true rfl) (Nat.le_of_ble_eq_true rfl) rfl rfl dw258 dw282 hl.1 (fun t0 B n Qq h h1 h2 hB hn => rel_start h h1 h2 _ _ _ _) (fun H1 locs1 c1 s1 u hS1 kk => ?_) (fun v H2 locs2 c2 s2 σ2 τ2 ty1 ty2 hS2 hI2 => ?_)
  · refine lv_aload_n hx hb dw261 rfl (lv_at hl 2 rfl) ?_
    refine la_arg (pc := 262) (j := 1) C hX hbl hS1 hl hi hL (by omega) rfl dw262 dw263 dw264 dw265 dw266 ?_
    refine la_arg (pc := 267) (j := 2) C hX hbl hS1 hl hi hL (by omega) rfl dw267 dw268 dw269 dw270 dw271 ?_
    refine la_arg (pc := 272) (j := 3) C hX hbl hS1 hl hi hL (by omega) rfl dw272 dw273 dw274 dw275 dw276 ?_
    refine la_arg (pc := 277) (j := 4) C hX hbl hS1 hl hi hL (by omega) rfl dw277 dw278 dw279 dw280 dw281 ?_
    exact kk
  · obtain ⟨x, rfl⟩ := ty1 ty90
    exact lv_icmp_eq (tgt := 676) hx hb dw285 (by decide) (fun _ => fin _ _ _ _ _ _ hS2 hI2) (fun z => absurd rfl z)
theorem lq_run (C : LX p s m cd b D E) (hX : va_X b L xs s s.heap) (hbl : b < s.heap.size) (hS : va_S (fun q => s.heap.size ≤ q) s.heap H locs) (hl : lv_has ls 4 [(0, .ref b), (1, .ref (gC s.heap.size nf 10 0)), (2, .ref (gC s.heap.size nf 11 0)), (3, .int (nI i))]) (hi : i + 5 ≤ L) (hL : L ≤ 2561) (hk : k ≤ 600) (hI : LI s.heap.size nf D E σ τ H cells slots k) (fin : ∀ (H2 : Heap) (locs2 : List Loc) (c2 s2 : Nat) (σ2 τ2 : Sg), va_S (fun q => s.heap.size ≤ q) s.heap H2 locs2 → LI s.heap.size nf D E σ2 τ2 H2 c2 s2 (k + 1) → W p l e room_1 s m #[Value.ref b] below meth cd H2 locs2 c2 s2 Q (F0 m 676 ls [])) : W p l e room_1 s m #[Value.ref b] below meth cd H locs cells slots Q (F0 m 290 ls []) := by
  obtain ⟨hx, hb, hml, hown, hts, hK⟩ := id C
  refine lv_aload_n hx hb dw290 rfl (lv_at hl 1 rfl) ?_
  refine la_arg (pc := 291) (j := 1) C hX hbl hS hl hi hL (by omega) rfl dw291 dw292 dw293 dw294 dw295 ?_
  refine law_two (as := [.inl (xs (i + 1))]) (lc := [oC, some (.inl (xs (i + 1))), none]) (lr := [oR, some (.inl (xs (i + 1))), none]) (pc1 := 296) (pc2 := 305) C hI hS ok91 ok138 (by omega) rfl (Nat.le_of_ble_eq_true rfl) (Nat.le_of_ble_eq_true rfl) rfl rfl dw296 dw305 hl.1 (fun t0 B n Qq h h1 h2 hB hn => rel_run (fun i => rfl) h h1 h2 (by omega) (by omega) _) (fun H1 locs1 c1 s1 u hS1 kk => ?_) (fun v H2 locs2 c2 s2 σ2 τ2 ty1 ty2 hS2 hI2 => ?_)
  · refine lv_aload_n hx hb dw299 rfl (lv_at hl 2 rfl) ?_
    refine la_arg (pc := 300) (j := 1) C hX hbl hS1 hl hi hL (by omega) rfl dw300 dw301 dw302 dw303 dw304 ?_
    exact kk
  · obtain ⟨x, rfl⟩ := ty1 ty91
    exact lv_icmp_eq (tgt := 676) hx hb dw308 (by decide) (fun _ => fin _ _ _ _ _ _ hS2 hI2) (fun z => absurd rfl z)
theorem lq_job (C : LX p s m cd b D E) (hX : va_X b L xs s s.heap) (hbl : b < s.heap.size) (hS : va_S (fun q => s.heap.size ≤ q) s.heap H locs) (hl : lv_has ls 4 [(0, .ref b), (1, .ref (gC s.heap.size nf 10 0)), (2, .ref (gC s.heap.size nf 11 0)), (3, .int (nI i))]) (hi : i + 5 ≤ L) (hL : L ≤ 2561) (hk : k ≤ 600) (hI : LI s.heap.size nf D E σ τ H cells slots k) (fin : ∀ (H2 : Heap) (locs2 : List Loc) (c2 s2 : Nat) (σ2 τ2 : Sg), va_S (fun q => s.heap.size ≤ q) s.heap H2 locs2 → LI s.heap.size nf D E σ2 τ2 H2 c2 s2 (k + 1) → W p l e room_1 s m #[Value.ref b] below meth cd H2 locs2 c2 s2 Q (F0 m 676 ls [])) : W p l e room_1 s m #[Value.ref b] below meth cd H locs cells slots Q (F0 m 313 ls []) := by
  obtain ⟨hx, hb, hml, hown, hts, hK⟩ := id C
  refine lv_aload_n hx hb dw313 rfl (lv_at hl 1 rfl) ?_
  refine la_arg (pc := 314) (j := 1) C hX hbl hS hl hi hL (by omega) rfl dw314 dw315 dw316 dw317 dw318 ?_
  refine la_arg (pc := 319) (j := 2) C hX hbl hS hl hi hL (by omega) rfl dw319 dw320 dw321 dw322 dw323 ?_
  refine law_two (as := [.inl (xs (i + 1)), .inl (xs (i + 2))]) (lc := [oC, some (.inl (xs (i + 1))), some (.inl (xs (i + 2))), none]) (lr := [oR, some (.inl (xs (i + 1))), some (.inl (xs (i + 2)))]) (pc1 := 324) (pc2 := 338) C hI hS ok92 ok166 (by omega) rfl (Nat.le_of_ble_eq_true rfl) (Nat.le_of_ble_eq_true rfl) rfl rfl dw324 dw338 hl.1 (fun t0 B n Qq h h1 h2 hB hn => rel_job h h1 h2 _ _) (fun H1 locs1 c1 s1 u hS1 kk => ?_) (fun v H2 locs2 c2 s2 σ2 τ2 ty1 ty2 hS2 hI2 => ?_)
  · refine lv_aload_n hx hb dw327 rfl (lv_at hl 2 rfl) ?_
    refine la_arg (pc := 328) (j := 1) C hX hbl hS1 hl hi hL (by omega) rfl dw328 dw329 dw330 dw331 dw332 ?_
    refine la_arg (pc := 333) (j := 2) C hX hbl hS1 hl hi hL (by omega) rfl dw333 dw334 dw335 dw336 dw337 ?_
    exact kk
  · obtain ⟨x, rfl⟩ := ty1 ty92
    exact lv_icmp_eq (tgt := 676) hx hb dw341 (by decide) (fun _ => fin _ _ _ _ _ _ hS2 hI2) (fun z => absurd rfl z)
theorem lq_register (C : LX p s m cd b D E) (hX : va_X b L xs s s.heap) (hbl : b < s.heap.size) (hS : va_S (fun q => s.heap.size ≤ q) s.heap H locs) (hl : lv_has ls 4 [(0, .ref b), (1, .ref (gC s.heap.size nf 10 0)), (2, .ref (gC s.heap.size nf 11 0)), (3, .int (nI i))]) (hi : i + 5 ≤ L) (hL : L ≤ 2561) (hk : k ≤ 600) (hI : LI s.heap.size nf D E σ τ H cells slots k) (fin : ∀ (H2 : Heap) (locs2 : List Loc) (c2 s2 : Nat) (σ2 τ2 : Sg), va_S (fun q => s.heap.size ≤ q) s.heap H2 locs2 → LI s.heap.size nf D E σ2 τ2 H2 c2 s2 (k + 1) → W p l e room_1 s m #[Value.ref b] below meth cd H2 locs2 c2 s2 Q (F0 m 676 ls [])) : W p l e room_1 s m #[Value.ref b] below meth cd H locs cells slots Q (F0 m 346 ls []) := by
  obtain ⟨hx, hb, hml, hown, hts, hK⟩ := id C
  refine lv_aload_n hx hb dw346 rfl (lv_at hl 1 rfl) ?_
  refine la_arg (pc := 347) (j := 1) C hX hbl hS hl hi hL (by omega) rfl dw347 dw348 dw349 dw350 dw351 ?_
  refine la_arg (pc := 352) (j := 2) C hX hbl hS hl hi hL (by omega) rfl dw352 dw353 dw354 dw355 dw356 ?_
  refine law_two (as := [.inl (xs (i + 1)), .inl (xs (i + 2))]) (lc := [oC, some (.inl (xs (i + 1))), some (.inl (xs (i + 2))), none]) (lr := [oR, some (.inl (xs (i + 1))), some (.inl (xs (i + 2)))]) (pc1 := 357) (pc2 := 371) C hI hS ok93 ok167 (by omega) rfl (Nat.le_of_ble_eq_true rfl) (Nat.le_of_ble_eq_true rfl) rfl rfl dw357 dw371 hl.1 (fun t0 B n Qq h h1 h2 hB hn => rel_register h h1 h2 _ _) (fun H1 locs1 c1 s1 u hS1 kk => ?_) (fun v H2 locs2 c2 s2 σ2 τ2 ty1 ty2 hS2 hI2 => ?_)
  · refine lv_aload_n hx hb dw360 rfl (lv_at hl 2 rfl) ?_
    refine la_arg (pc := 361) (j := 1) C hX hbl hS1 hl hi hL (by omega) rfl dw361 dw362 dw363 dw364 dw365 ?_
    refine la_arg (pc := 366) (j := 2) C hX hbl hS1 hl hi hL (by omega) rfl dw366 dw367 dw368 dw369 dw370 ?_
    exact kk
  · obtain ⟨x, rfl⟩ := ty1 ty93
    exact lv_icmp_eq (tgt := 676) hx hb dw374 (by decide) (fun _ => fin _ _ _ _ _ _ hS2 hI2) (fun z => absurd rfl z)
theorem lq_accumulator (C : LX p s m cd b D E) (hX : va_X b L xs s s.heap) (hbl : b < s.heap.size) (hS : va_S (fun q => s.heap.size ≤ q) s.heap H locs) (hl : lv_has ls 4 [(0, .ref b), (1, .ref (gC s.heap.size nf 10 0)), (2, .ref (gC s.heap.size nf 11 0)), (3, .int (nI i))]) (hi : i + 5 ≤ L) (hL : L ≤ 2561) (hk : k ≤ 600) (hI : LI s.heap.size nf D E σ τ H cells slots k) (fin : ∀ (H2 : Heap) (locs2 : List Loc) (c2 s2 : Nat) (σ2 τ2 : Sg), va_S (fun q => s.heap.size ≤ q) s.heap H2 locs2 → LI s.heap.size nf D E σ2 τ2 H2 c2 s2 (k + 1) → W p l e room_1 s m #[Value.ref b] below meth cd H2 locs2 c2 s2 Q (F0 m 676 ls [])) : W p l e room_1 s m #[Value.ref b] below meth cd H locs cells slots Q (F0 m 379 ls []) := by
  obtain ⟨hx, hb, hml, hown, hts, hK⟩ := id C
  refine lv_aload_n hx hb dw379 rfl (lv_at hl 1 rfl) ?_
  refine la_arg (pc := 380) (j := 1) C hX hbl hS hl hi hL (by omega) rfl dw380 dw381 dw382 dw383 dw384 ?_
  refine law_two (as := [.inl (xs (i + 1))]) (lc := [oC, some (.inl (xs (i + 1))), none]) (lr := [oR, some (.inl (xs (i + 1)))]) (pc1 := 385) (pc2 := 394) C hI hS ok94 ok168 (by omega) rfl (Nat.le_of_ble_eq_true rfl) (Nat.le_of_ble_eq_true rfl) rfl rfl dw385 dw394 hl.1 (fun t0 B n Qq h h1 h2 hB hn => rel_accumulator h h1 h2 _) (fun H1 locs1 c1 s1 u hS1 kk => ?_) (fun v H2 locs2 c2 s2 σ2 τ2 ty1 ty2 hS2 hI2 => ?_)
  · refine lv_aload_n hx hb dw388 rfl (lv_at hl 2 rfl) ?_
    refine la_arg (pc := 389) (j := 1) C hX hbl hS1 hl hi hL (by omega) rfl dw389 dw390 dw391 dw392 dw393 ?_
    exact kk
  · obtain ⟨x, rfl⟩ := ty2 ty94
    refine W.lcmp hx hb dw397 ?_
    exact lv_if_eq (tgt := 676) hx hb dw398 (by decide) (fun _ => fin _ _ _ _ _ _ hS2 hI2) (fun z => absurd (cmp_x x) z)
theorem lq_word (C : LX p s m cd b D E) (hX : va_X b L xs s s.heap) (hbl : b < s.heap.size) (hS : va_S (fun q => s.heap.size ≤ q) s.heap H locs) (hl : lv_has ls 4 [(0, .ref b), (1, .ref (gC s.heap.size nf 10 0)), (2, .ref (gC s.heap.size nf 11 0)), (3, .int (nI i))]) (hi : i + 5 ≤ L) (hL : L ≤ 2561) (hk : k ≤ 600) (hI : LI s.heap.size nf D E σ τ H cells slots k) (fin : ∀ (H2 : Heap) (locs2 : List Loc) (c2 s2 : Nat) (σ2 τ2 : Sg), va_S (fun q => s.heap.size ≤ q) s.heap H2 locs2 → LI s.heap.size nf D E σ2 τ2 H2 c2 s2 (k + 1) → W p l e room_1 s m #[Value.ref b] below meth cd H2 locs2 c2 s2 Q (F0 m 676 ls [])) : W p l e room_1 s m #[Value.ref b] below meth cd H locs cells slots Q (F0 m 403 ls []) := by
  obtain ⟨hx, hb, hml, hown, hts, hK⟩ := id C
  refine lv_aload_n hx hb dw403 rfl (lv_at hl 1 rfl) ?_
  refine la_arg (pc := 404) (j := 1) C hX hbl hS hl hi hL (by omega) rfl dw404 dw405 dw406 dw407 dw408 ?_
  refine la_arg (pc := 409) (j := 2) C hX hbl hS hl hi hL (by omega) rfl dw409 dw410 dw411 dw412 dw413 ?_
  refine law_two (as := [.inl (xs (i + 1)), .inl (xs (i + 2))]) (lc := [oC, some (.inl (xs (i + 1))), some (.inl (xs (i + 2))), none]) (lr := [oR, some (.inl (xs (i + 1))), some (.inl (xs (i + 2)))]) (pc1 := 414) (pc2 := 428) C hI hS ok95 ok169 (by omega) rfl (Nat.le_of_ble_eq_true rfl) (Nat.le_of_ble_eq_true rfl) rfl rfl dw414 dw428 hl.1 (fun t0 B n Qq h h1 h2 hB hn => rel_word h h1 h2 _ _) (fun H1 locs1 c1 s1 u hS1 kk => ?_) (fun v H2 locs2 c2 s2 σ2 τ2 ty1 ty2 hS2 hI2 => ?_)
  · refine lv_aload_n hx hb dw417 rfl (lv_at hl 2 rfl) ?_
    refine la_arg (pc := 418) (j := 1) C hX hbl hS1 hl hi hL (by omega) rfl dw418 dw419 dw420 dw421 dw422 ?_
    refine la_arg (pc := 423) (j := 2) C hX hbl hS1 hl hi hL (by omega) rfl dw423 dw424 dw425 dw426 dw427 ?_
    exact kk
  · obtain ⟨x, rfl⟩ := ty2 ty95
    refine W.lcmp hx hb dw431 ?_
    exact lv_if_eq (tgt := 676) hx hb dw432 (by decide) (fun _ => fin _ _ _ _ _ _ hS2 hI2) (fun z => absurd (cmp_x x) z)
theorem lq_paper (C : LX p s m cd b D E) (hX : va_X b L xs s s.heap) (hbl : b < s.heap.size) (hS : va_S (fun q => s.heap.size ≤ q) s.heap H locs) (hl : lv_has ls 4 [(0, .ref b), (1, .ref (gC s.heap.size nf 10 0)), (2, .ref (gC s.heap.size nf 11 0)), (3, .int (nI i))]) (hi : i + 5 ≤ L) (hL : L ≤ 2561) (hk : k ≤ 600) (hI : LI s.heap.size nf D E σ τ H cells slots k) (fin : ∀ (H2 : Heap) (locs2 : List Loc) (c2 s2 : Nat) (σ2 τ2 : Sg), va_S (fun q => s.heap.size ≤ q) s.heap H2 locs2 → LI s.heap.size nf D E σ2 τ2 H2 c2 s2 (k + 1) → W p l e room_1 s m #[Value.ref b] below meth cd H2 locs2 c2 s2 Q (F0 m 676 ls [])) : W p l e room_1 s m #[Value.ref b] below meth cd H locs cells slots Q (F0 m 437 ls []) := by
  obtain ⟨hx, hb, hml, hown, hts, hK⟩ := id C
  refine lv_aload_n hx hb dw437 rfl (lv_at hl 1 rfl) ?_
  refine la_arg (pc := 438) (j := 1) C hX hbl hS hl hi hL (by omega) rfl dw438 dw439 dw440 dw441 dw442 ?_
  refine la_arg (pc := 443) (j := 2) C hX hbl hS hl hi hL (by omega) rfl dw443 dw444 dw445 dw446 dw447 ?_
  refine law_two (as := [.inl (xs (i + 1)), .inl (xs (i + 2))]) (lc := [oC, some (.inl (xs (i + 1))), some (.inl (xs (i + 2))), none]) (lr := [oR, some (.inl (xs (i + 1))), some (.inl (xs (i + 2)))]) (pc1 := 448) (pc2 := 462) C hI hS ok96 ok170 (by omega) rfl (Nat.le_of_ble_eq_true rfl) (Nat.le_of_ble_eq_true rfl) rfl rfl dw448 dw462 hl.1 (fun t0 B n Qq h h1 h2 hB hn => rel_paper h h1 h2 _ _) (fun H1 locs1 c1 s1 u hS1 kk => ?_) (fun v H2 locs2 c2 s2 σ2 τ2 ty1 ty2 hS2 hI2 => ?_)
  · refine lv_aload_n hx hb dw451 rfl (lv_at hl 2 rfl) ?_
    refine la_arg (pc := 452) (j := 1) C hX hbl hS1 hl hi hL (by omega) rfl dw452 dw453 dw454 dw455 dw456 ?_
    refine la_arg (pc := 457) (j := 2) C hX hbl hS1 hl hi hL (by omega) rfl dw457 dw458 dw459 dw460 dw461 ?_
    exact kk
  · obtain ⟨x, rfl⟩ := ty2 ty96
    refine W.lcmp hx hb dw465 ?_
    exact lv_if_eq (tgt := 676) hx hb dw466 (by decide) (fun _ => fin _ _ _ _ _ _ hS2 hI2) (fun z => absurd (cmp_x x) z)
theorem lq_frame (C : LX p s m cd b D E) (hX : va_X b L xs s s.heap) (hbl : b < s.heap.size) (hS : va_S (fun q => s.heap.size ≤ q) s.heap H locs) (hl : lv_has ls 4 [(0, .ref b), (1, .ref (gC s.heap.size nf 10 0)), (2, .ref (gC s.heap.size nf 11 0)), (3, .int (nI i))]) (hi : i + 5 ≤ L) (hL : L ≤ 2561) (hk : k ≤ 600) (hI : LI s.heap.size nf D E σ τ H cells slots k) (fin : ∀ (H2 : Heap) (locs2 : List Loc) (c2 s2 : Nat) (σ2 τ2 : Sg), va_S (fun q => s.heap.size ≤ q) s.heap H2 locs2 → LI s.heap.size nf D E σ2 τ2 H2 c2 s2 (k + 1) → W p l e room_1 s m #[Value.ref b] below meth cd H2 locs2 c2 s2 Q (F0 m 676 ls [])) : W p l e room_1 s m #[Value.ref b] below meth cd H locs cells slots Q (F0 m 471 ls []) := by
  obtain ⟨hx, hb, hml, hown, hts, hK⟩ := id C
  refine lv_aload_n hx hb dw471 rfl (lv_at hl 1 rfl) ?_
  refine la_arg (pc := 472) (j := 1) C hX hbl hS hl hi hL (by omega) rfl dw472 dw473 dw474 dw475 dw476 ?_
  refine la_arg (pc := 477) (j := 2) C hX hbl hS hl hi hL (by omega) rfl dw477 dw478 dw479 dw480 dw481 ?_
  refine law_two (as := [.inl (xs (i + 1)), .inl (xs (i + 2))]) (lc := [oC, some (.inl (xs (i + 1))), some (.inl (xs (i + 2))), none]) (lr := [oR, some (.inl (xs (i + 1))), some (.inl (xs (i + 2)))]) (pc1 := 482) (pc2 := 496) C hI hS ok97 ok171 (by omega) rfl (Nat.le_of_ble_eq_true rfl) (Nat.le_of_ble_eq_true rfl) rfl rfl dw482 dw496 hl.1 (fun t0 B n Qq h h1 h2 hB hn => rel_frame h h1 h2 _ _) (fun H1 locs1 c1 s1 u hS1 kk => ?_) (fun v H2 locs2 c2 s2 σ2 τ2 ty1 ty2 hS2 hI2 => ?_)
  · refine lv_aload_n hx hb dw485 rfl (lv_at hl 2 rfl) ?_
    refine la_arg (pc := 486) (j := 1) C hX hbl hS1 hl hi hL (by omega) rfl dw486 dw487 dw488 dw489 dw490 ?_
    refine la_arg (pc := 491) (j := 2) C hX hbl hS1 hl hi hL (by omega) rfl dw491 dw492 dw493 dw494 dw495 ?_
    exact kk
  · obtain ⟨x, rfl⟩ := ty1 ty97
    exact lv_icmp_eq (tgt := 676) hx hb dw499 (by decide) (fun _ => fin _ _ _ _ _ _ hS2 hI2) (fun z => absurd rfl z)
theorem lq_place (C : LX p s m cd b D E) (hX : va_X b L xs s s.heap) (hbl : b < s.heap.size) (hS : va_S (fun q => s.heap.size ≤ q) s.heap H locs) (hl : lv_has ls 4 [(0, .ref b), (1, .ref (gC s.heap.size nf 10 0)), (2, .ref (gC s.heap.size nf 11 0)), (3, .int (nI i))]) (hi : i + 5 ≤ L) (hL : L ≤ 2561) (hk : k ≤ 600) (hI : LI s.heap.size nf D E σ τ H cells slots k) (fin : ∀ (H2 : Heap) (locs2 : List Loc) (c2 s2 : Nat) (σ2 τ2 : Sg), va_S (fun q => s.heap.size ≤ q) s.heap H2 locs2 → LI s.heap.size nf D E σ2 τ2 H2 c2 s2 (k + 1) → W p l e room_1 s m #[Value.ref b] below meth cd H2 locs2 c2 s2 Q (F0 m 676 ls [])) : W p l e room_1 s m #[Value.ref b] below meth cd H locs cells slots Q (F0 m 504 ls []) := by
  obtain ⟨hx, hb, hml, hown, hts, hK⟩ := id C
  refine lv_aload_n hx hb dw504 rfl (lv_at hl 1 rfl) ?_
  refine la_arg (pc := 505) (j := 1) C hX hbl hS hl hi hL (by omega) rfl dw505 dw506 dw507 dw508 dw509 ?_
  refine la_arg (pc := 510) (j := 2) C hX hbl hS hl hi hL (by omega) rfl dw510 dw511 dw512 dw513 dw514 ?_
  refine law_two (as := [.inl (xs (i + 1)), .inl (xs (i + 2))]) (lc := [oC, some (.inl (xs (i + 1))), some (.inl (xs (i + 2))), none]) (lr := [oR, some (.inl (xs (i + 1))), some (.inl (xs (i + 2)))]) (pc1 := 515) (pc2 := 529) C hI hS ok98 ok172 (by omega) rfl (Nat.le_of_ble_eq_true rfl) (Nat.le_of_ble_eq_true rfl) rfl rfl dw515 dw529 hl.1 (fun t0 B n Qq h h1 h2 hB hn => rel_place h h1 h2 _ _) (fun H1 locs1 c1 s1 u hS1 kk => ?_) (fun v H2 locs2 c2 s2 σ2 τ2 ty1 ty2 hS2 hI2 => ?_)
  · refine lv_aload_n hx hb dw518 rfl (lv_at hl 2 rfl) ?_
    refine la_arg (pc := 519) (j := 1) C hX hbl hS1 hl hi hL (by omega) rfl dw519 dw520 dw521 dw522 dw523 ?_
    refine la_arg (pc := 524) (j := 2) C hX hbl hS1 hl hi hL (by omega) rfl dw524 dw525 dw526 dw527 dw528 ?_
    exact kk
  · obtain ⟨x, rfl⟩ := ty1 ty98
    exact lv_icmp_eq (tgt := 676) hx hb dw532 (by decide) (fun _ => fin _ _ _ _ _ _ hS2 hI2) (fun z => absurd rfl z)
theorem lq_drum (C : LX p s m cd b D E) (hX : va_X b L xs s s.heap) (hbl : b < s.heap.size) (hS : va_S (fun q => s.heap.size ≤ q) s.heap H locs) (hl : lv_has ls 4 [(0, .ref b), (1, .ref (gC s.heap.size nf 10 0)), (2, .ref (gC s.heap.size nf 11 0)), (3, .int (nI i))]) (hi : i + 5 ≤ L) (hL : L ≤ 2561) (hk : k ≤ 600) (hI : LI s.heap.size nf D E σ τ H cells slots k) (fin : ∀ (H2 : Heap) (locs2 : List Loc) (c2 s2 : Nat) (σ2 τ2 : Sg), va_S (fun q => s.heap.size ≤ q) s.heap H2 locs2 → LI s.heap.size nf D E σ2 τ2 H2 c2 s2 (k + 1) → W p l e room_1 s m #[Value.ref b] below meth cd H2 locs2 c2 s2 Q (F0 m 676 ls [])) : W p l e room_1 s m #[Value.ref b] below meth cd H locs cells slots Q (F0 m 537 ls []) := by
  obtain ⟨hx, hb, hml, hown, hts, hK⟩ := id C
  refine lv_aload_n hx hb dw537 rfl (lv_at hl 1 rfl) ?_
  refine la_arg (pc := 538) (j := 1) C hX hbl hS hl hi hL (by omega) rfl dw538 dw539 dw540 dw541 dw542 ?_
  refine law_two (as := [.inl (xs (i + 1))]) (lc := [oC, some (.inl (xs (i + 1)))]) (lr := [oR, some (.inl (xs (i + 1)))]) (pc1 := 543) (pc2 := 552) C hI hS ok99 ok173 (by omega) rfl (Nat.le_of_ble_eq_true rfl) (Nat.le_of_ble_eq_true rfl) rfl rfl dw543 dw552 hl.1 (fun t0 B n Qq h h1 h2 hB hn => rel_drumq h h1 h2 _) (fun H1 locs1 c1 s1 u hS1 kk => ?_) (fun v H2 locs2 c2 s2 σ2 τ2 ty1 ty2 hS2 hI2 => ?_)
  · refine lv_aload_n hx hb dw546 rfl (lv_at hl 2 rfl) ?_
    refine la_arg (pc := 547) (j := 1) C hX hbl hS1 hl hi hL (by omega) rfl dw547 dw548 dw549 dw550 dw551 ?_
    exact kk
  · obtain ⟨x, rfl⟩ := ty1 ty99
    exact lv_icmp_eq (tgt := 676) hx hb dw555 (by decide) (fun _ => fin _ _ _ _ _ _ hS2 hI2) (fun z => absurd rfl z)
theorem lq_queued (C : LX p s m cd b D E) (hX : va_X b L xs s s.heap) (hbl : b < s.heap.size) (hS : va_S (fun q => s.heap.size ≤ q) s.heap H locs) (hl : lv_has ls 4 [(0, .ref b), (1, .ref (gC s.heap.size nf 10 0)), (2, .ref (gC s.heap.size nf 11 0)), (3, .int (nI i))]) (hi : i + 5 ≤ L) (hL : L ≤ 2561) (hk : k ≤ 600) (hI : LI s.heap.size nf D E σ τ H cells slots k) (fin : ∀ (H2 : Heap) (locs2 : List Loc) (c2 s2 : Nat) (σ2 τ2 : Sg), va_S (fun q => s.heap.size ≤ q) s.heap H2 locs2 → LI s.heap.size nf D E σ2 τ2 H2 c2 s2 (k + 1) → W p l e room_1 s m #[Value.ref b] below meth cd H2 locs2 c2 s2 Q (F0 m 676 ls [])) : W p l e room_1 s m #[Value.ref b] below meth cd H locs cells slots Q (F0 m 560 ls []) := by
  obtain ⟨hx, hb, hml, hown, hts, hK⟩ := id C
  refine lv_aload_n hx hb dw560 rfl (lv_at hl 1 rfl) ?_
  refine la_arg (pc := 561) (j := 1) C hX hbl hS hl hi hL (by omega) rfl dw561 dw562 dw563 dw564 dw565 ?_
  refine law_two (as := [.inl (xs (i + 1))]) (lc := [oC, some (.inl (xs (i + 1))), none]) (lr := [oR, some (.inl (xs (i + 1)))]) (pc1 := 566) (pc2 := 575) C hI hS ok100 ok174 (by omega) rfl (Nat.le_of_ble_eq_true rfl) (Nat.le_of_ble_eq_true rfl) rfl rfl dw566 dw575 hl.1 (fun t0 B n Qq h h1 h2 hB hn => rel_queued h h1 h2 _) (fun H1 locs1 c1 s1 u hS1 kk => ?_) (fun v H2 locs2 c2 s2 σ2 τ2 ty1 ty2 hS2 hI2 => ?_)
  · refine lv_aload_n hx hb dw569 rfl (lv_at hl 2 rfl) ?_
    refine la_arg (pc := 570) (j := 1) C hX hbl hS1 hl hi hL (by omega) rfl dw570 dw571 dw572 dw573 dw574 ?_
    exact kk
  · obtain ⟨x, rfl⟩ := ty1 ty100
    exact lv_icmp_eq (tgt := 676) hx hb dw578 (by decide) (fun _ => fin _ _ _ _ _ _ hS2 hI2) (fun z => absurd rfl z)
theorem lq_chosen (C : LX p s m cd b D E) (hX : va_X b L xs s s.heap) (hbl : b < s.heap.size) (hS : va_S (fun q => s.heap.size ≤ q) s.heap H locs) (hl : lv_has ls 4 [(0, .ref b), (1, .ref (gC s.heap.size nf 10 0)), (2, .ref (gC s.heap.size nf 11 0)), (3, .int (nI i))]) (hi : i + 5 ≤ L) (hL : L ≤ 2561) (hk : k ≤ 600) (hI : LI s.heap.size nf D E σ τ H cells slots k) (fin : ∀ (H2 : Heap) (locs2 : List Loc) (c2 s2 : Nat) (σ2 τ2 : Sg), va_S (fun q => s.heap.size ≤ q) s.heap H2 locs2 → LI s.heap.size nf D E σ2 τ2 H2 c2 s2 (k + 1) → W p l e room_1 s m #[Value.ref b] below meth cd H2 locs2 c2 s2 Q (F0 m 676 ls [])) : W p l e room_1 s m #[Value.ref b] below meth cd H locs cells slots Q (F0 m 583 ls []) := by
  obtain ⟨hx, hb, hml, hown, hts, hK⟩ := id C
  refine lv_aload_n hx hb dw583 rfl (lv_at hl 1 rfl) ?_
  refine la_arg (pc := 584) (j := 1) C hX hbl hS hl hi hL (by omega) rfl dw584 dw585 dw586 dw587 dw588 ?_
  refine law_two (as := [.inl (xs (i + 1))]) (lc := [oC, some (.inl (xs (i + 1)))]) (lr := [oR, some (.inl (xs (i + 1)))]) (pc1 := 589) (pc2 := 598) C hI hS ok101 ok175 (by omega) rfl (Nat.le_of_ble_eq_true rfl) (Nat.le_of_ble_eq_true rfl) rfl rfl dw589 dw598 hl.1 (fun t0 B n Qq h h1 h2 hB hn => rel_chosen h h1 h2 (by omega) _) (fun H1 locs1 c1 s1 u hS1 kk => ?_) (fun v H2 locs2 c2 s2 σ2 τ2 ty1 ty2 hS2 hI2 => ?_)
  · refine lv_aload_n hx hb dw592 rfl (lv_at hl 2 rfl) ?_
    refine la_arg (pc := 593) (j := 1) C hX hbl hS1 hl hi hL (by omega) rfl dw593 dw594 dw595 dw596 dw597 ?_
    exact kk
  · obtain ⟨x, rfl⟩ := ty1 ty101
    exact lv_icmp_eq (tgt := 676) hx hb dw601 (by decide) (fun _ => fin _ _ _ _ _ _ hS2 hI2) (fun z => absurd rfl z)
theorem lq_printed (C : LX p s m cd b D E) (hX : va_X b L xs s s.heap) (hbl : b < s.heap.size) (hS : va_S (fun q => s.heap.size ≤ q) s.heap H locs) (hl : lv_has ls 4 [(0, .ref b), (1, .ref (gC s.heap.size nf 10 0)), (2, .ref (gC s.heap.size nf 11 0)), (3, .int (nI i))]) (hi : i + 5 ≤ L) (hL : L ≤ 2561) (hk : k ≤ 600) (hI : LI s.heap.size nf D E σ τ H cells slots k) (fin : ∀ (H2 : Heap) (locs2 : List Loc) (c2 s2 : Nat) (σ2 τ2 : Sg), va_S (fun q => s.heap.size ≤ q) s.heap H2 locs2 → LI s.heap.size nf D E σ2 τ2 H2 c2 s2 (k + 1) → W p l e room_1 s m #[Value.ref b] below meth cd H2 locs2 c2 s2 Q (F0 m 676 ls [])) : W p l e room_1 s m #[Value.ref b] below meth cd H locs cells slots Q (F0 m 606 ls []) := by
  obtain ⟨hx, hb, hml, hown, hts, hK⟩ := id C
  refine lv_aload_n hx hb dw606 rfl (lv_at hl 1 rfl) ?_
  refine la_arg (pc := 607) (j := 1) C hX hbl hS hl hi hL (by omega) rfl dw607 dw608 dw609 dw610 dw611 ?_
  refine law_two (as := [.inl (xs (i + 1))]) (lc := [oC, some (.inl (xs (i + 1)))]) (lr := [oR, some (.inl (xs (i + 1)))]) (pc1 := 612) (pc2 := 621) C hI hS ok102 ok176 (by omega) rfl (Nat.le_of_ble_eq_true rfl) (Nat.le_of_ble_eq_true rfl) rfl rfl dw612 dw621 hl.1 (fun t0 B n Qq h h1 h2 hB hn => rel_printed h h1 h2 (by omega) _) (fun H1 locs1 c1 s1 u hS1 kk => ?_) (fun v H2 locs2 c2 s2 σ2 τ2 ty1 ty2 hS2 hI2 => ?_)
  · refine lv_aload_n hx hb dw615 rfl (lv_at hl 2 rfl) ?_
    refine la_arg (pc := 616) (j := 1) C hX hbl hS1 hl hi hL (by omega) rfl dw616 dw617 dw618 dw619 dw620 ?_
    exact kk
  · obtain ⟨x, rfl⟩ := ty2 ty102
    refine W.lcmp hx hb dw624 ?_
    exact lv_if_eq (tgt := 676) hx hb dw625 (by decide) (fun _ => fin _ _ _ _ _ _ hS2 hI2) (fun z => absurd (cmp_x x) z)
theorem lq_clock (C : LX p s m cd b D E) (hX : va_X b L xs s s.heap) (hbl : b < s.heap.size) (hS : va_S (fun q => s.heap.size ≤ q) s.heap H locs) (hl : lv_has ls 4 [(0, .ref b), (1, .ref (gC s.heap.size nf 10 0)), (2, .ref (gC s.heap.size nf 11 0)), (3, .int (nI i))]) (hi : i + 5 ≤ L) (hL : L ≤ 2561) (hk : k ≤ 600) (hI : LI s.heap.size nf D E σ τ H cells slots k) (fin : ∀ (H2 : Heap) (locs2 : List Loc) (c2 s2 : Nat) (σ2 τ2 : Sg), va_S (fun q => s.heap.size ≤ q) s.heap H2 locs2 → LI s.heap.size nf D E σ2 τ2 H2 c2 s2 (k + 1) → W p l e room_1 s m #[Value.ref b] below meth cd H2 locs2 c2 s2 Q (F0 m 676 ls [])) : W p l e room_1 s m #[Value.ref b] below meth cd H locs cells slots Q (F0 m 630 ls []) := by
  obtain ⟨hx, hb, hml, hown, hts, hK⟩ := id C
  refine lv_aload_n hx hb dw630 rfl (lv_at hl 1 rfl) ?_
  refine la_arg (pc := 631) (j := 1) C hX hbl hS hl hi hL (by omega) rfl dw631 dw632 dw633 dw634 dw635 ?_
  refine law_two (as := [.inl (xs (i + 1))]) (lc := [oC, some (.inl (xs (i + 1)))]) (lr := [oR, some (.inl (xs (i + 1)))]) (pc1 := 636) (pc2 := 645) C hI hS ok103 ok177 (by omega) rfl (Nat.le_of_ble_eq_true rfl) (Nat.le_of_ble_eq_true rfl) rfl rfl dw636 dw645 hl.1 (fun t0 B n Qq h h1 h2 hB hn => rel_clock h h1 h2 _) (fun H1 locs1 c1 s1 u hS1 kk => ?_) (fun v H2 locs2 c2 s2 σ2 τ2 ty1 ty2 hS2 hI2 => ?_)
  · refine lv_aload_n hx hb dw639 rfl (lv_at hl 2 rfl) ?_
    refine la_arg (pc := 640) (j := 1) C hX hbl hS1 hl hi hL (by omega) rfl dw640 dw641 dw642 dw643 dw644 ?_
    exact kk
  · obtain ⟨x, rfl⟩ := ty1 ty103
    exact lv_icmp_eq (tgt := 676) hx hb dw648 (by decide) (fun _ => fin _ _ _ _ _ _ hS2 hI2) (fun z => absurd rfl z)
theorem lq_forget (C : LX p s m cd b D E) (hX : va_X b L xs s s.heap) (hbl : b < s.heap.size) (hS : va_S (fun q => s.heap.size ≤ q) s.heap H locs) (hl : lv_has ls 4 [(0, .ref b), (1, .ref (gC s.heap.size nf 10 0)), (2, .ref (gC s.heap.size nf 11 0)), (3, .int (nI i))]) (hi : i + 5 ≤ L) (hL : L ≤ 2561) (hk : k ≤ 600) (hI : LI s.heap.size nf D E σ τ H cells slots k) (fin : ∀ (H2 : Heap) (locs2 : List Loc) (c2 s2 : Nat) (σ2 τ2 : Sg), va_S (fun q => s.heap.size ≤ q) s.heap H2 locs2 → LI s.heap.size nf D E σ2 τ2 H2 c2 s2 (k + 1) → W p l e room_1 s m #[Value.ref b] below meth cd H2 locs2 c2 s2 Q (F0 m 676 ls [])) : W p l e room_1 s m #[Value.ref b] below meth cd H locs cells slots Q (F0 m 653 ls []) := by
  obtain ⟨hx, hb, hml, hown, hts, hK⟩ := id C
  refine lv_aload_n hx hb dw653 rfl (lv_at hl 1 rfl) ?_
  refine la_arg (pc := 654) (j := 1) C hX hbl hS hl hi hL (by omega) rfl dw654 dw655 dw656 dw657 dw658 ?_
  refine law_two (as := [.inl (xs (i + 1))]) (lc := [oC, some (.inl (xs (i + 1))), none]) (lr := [oR, some (.inl (xs (i + 1))), none, none]) (pc1 := 659) (pc2 := 668) C hI hS ok104 ok178 (by omega) rfl (Nat.le_of_ble_eq_true rfl) (Nat.le_of_ble_eq_true rfl) rfl rfl dw659 dw668 hl.1 (fun t0 B n Qq h h1 h2 hB hn => rel_forget h h1 h2 _) (fun H1 locs1 c1 s1 u hS1 kk => ?_) (fun v H2 locs2 c2 s2 σ2 τ2 ty1 ty2 hS2 hI2 => ?_)
  · refine lv_aload_n hx hb dw662 rfl (lv_at hl 2 rfl) ?_
    refine la_arg (pc := 663) (j := 1) C hX hbl hS1 hl hi hL (by omega) rfl dw663 dw664 dw665 dw666 dw667 ?_
    exact kk
  · obtain ⟨x, rfl⟩ := ty1 ty104
    exact lv_icmp_eq (tgt := 676) hx hb dw671 (by decide) (fun _ => fin _ _ _ _ _ _ hS2 hI2) (fun z => absurd rfl z)
end Law6
