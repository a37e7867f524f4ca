/-! the code words stand in the tables -/
set_option maxRecDepth 100000 in
theorem ck0 : Cond.code yX0_init cX0_init 3 none ∈ lw_tbl := List.mem_append_right _ (show _ ∈ tables_1 from (List.mem_append_left _ (List.mem_of_getElem? (i := 185) (l := tables_1_1) rfl)))
set_option maxRecDepth 100000 in
theorem ck1 : Cond.code yX0_frameOf cX0_frameOf 2 (some ((FieldType.object "OneLevelStore$Frame"))) ∈ lw_tbl := List.mem_append_right _ (show _ ∈ tables_1 from (List.mem_append_right _ (List.mem_append_right _ (List.mem_append_right _ (List.mem_append_left _ (List.mem_of_getElem? (i := 74) (l := tables_1_4) rfl))))))
set_option maxRecDepth 100000 in
theorem ck2 : Cond.code yX0_lowest cX0_lowest 3 (some ((FieldType.object "OneLevelStore$Frame"))) ∈ lw_tbl := List.mem_append_right _ (show _ ∈ tables_1 from (List.mem_append_right _ (List.mem_append_right _ (List.mem_append_left _ (List.mem_of_getElem? (i := 78) (l := tables_1_3) rfl)))))
set_option maxRecDepth 100000 in
theorem ck3 : Cond.code yX0_holding cX0_holding 5 (some ((FieldType.object "OneLevelStore$Frame"))) ∈ lw_tbl := List.mem_append_right _ (show _ ∈ tables_1 from (List.mem_append_right _ (List.mem_append_right _ (List.mem_append_left _ (List.mem_of_getElem? (i := 129) (l := tables_1_3) rfl)))))
set_option maxRecDepth 100000 in
theorem ck4 : Cond.code yX0_choose cX0_choose 2 (some ((FieldType.object "OneLevelStore$Frame"))) ∈ lw_tbl := List.mem_append_right _ (show _ ∈ tables_1 from (List.mem_append_right _ (List.mem_append_right _ (List.mem_append_left _ (List.mem_of_getElem? (i := 91) (l := tables_1_3) rfl)))))
set_option maxRecDepth 100000 in
theorem ck5 : Cond.code yX0_best cX0_best 5 (some ((FieldType.object "OneLevelStore$Frame"))) ∈ lw_tbl := List.mem_append_right _ (show _ ∈ tables_1 from (List.mem_append_right _ (List.mem_append_right _ (List.mem_append_left _ (List.mem_of_getElem? (i := 95) (l := tables_1_3) rfl)))))
set_option maxRecDepth 100000 in
theorem ck6 : Cond.code yX0_look cX0_look 2 none ∈ lw_tbl := List.mem_append_right _ (show _ ∈ tables_1 from (List.mem_append_right _ (List.mem_append_right _ (List.mem_append_right _ (List.mem_append_left _ (List.mem_of_getElem? (i := 25) (l := tables_1_4) rfl))))))
set_option maxRecDepth 100000 in
theorem ck7 : Cond.code yX0_clear cX0_clear 5 none ∈ lw_tbl := List.mem_append_right _ (show _ ∈ tables_1 from (List.mem_append_right _ (List.mem_append_right _ (List.mem_append_right _ (List.mem_append_left _ (List.mem_of_getElem? (i := 1) (l := tables_1_4) rfl))))))
set_option maxRecDepth 100000 in
theorem ck8 : Cond.code yX1_init cX1_init 2 none ∈ lw_tbl := List.mem_append_right _ (show _ ∈ tables_1 from (List.mem_append_left _ (List.mem_of_getElem? (i := 97) (l := tables_1_1) rfl)))
set_option maxRecDepth 100000 in
theorem ck9 : Cond.code yX1_placeOf cX1_placeOf 2 (some ((FieldType.object "OneLevelStore$Place"))) ∈ lw_tbl := List.mem_append_right _ (show _ ∈ tables_1 from (List.mem_append_right _ (List.mem_append_right _ (List.mem_append_right _ (List.mem_append_left _ (List.mem_of_getElem? (i := 86) (l := tables_1_4) rfl))))))
set_option maxRecDepth 100000 in
theorem ck10 : Cond.code yX1_queuedFrame cX1_queuedFrame 2 (some ((FieldType.object "OneLevelStore$Frame"))) ∈ lw_tbl := List.mem_append_right _ (show _ ∈ tables_1 from (List.mem_append_right _ (List.mem_append_right _ (List.mem_append_right _ (List.mem_append_left _ (List.mem_of_getElem? (i := 102) (l := tables_1_4) rfl))))))
set_option maxRecDepth 100000 in
theorem ck11 : Cond.code yX1_countFree cX1_countFree 3 (some (FieldType.int)) ∈ lw_tbl := List.mem_append_right _ (show _ ∈ tables_1 from (List.mem_append_right _ (List.mem_append_left _ (List.mem_of_getElem? (i := 200) (l := tables_1_2) rfl))))
set_option maxRecDepth 100000 in
theorem ck12 : Cond.code yX1_lowestFree cX1_lowestFree 2 (some ((FieldType.object "OneLevelStore$Place"))) ∈ lw_tbl := List.mem_append_right _ (show _ ∈ tables_1 from (List.mem_append_right _ (List.mem_append_left _ (List.mem_of_getElem? (i := 208) (l := tables_1_2) rfl))))
set_option maxRecDepth 100000 in
theorem ck13 : Cond.code yX1_enqueue cX1_enqueue 2 none ∈ lw_tbl := List.mem_append_right _ (show _ ∈ tables_1 from (List.mem_append_right _ (List.mem_append_right _ (List.mem_append_left _ (List.mem_of_getElem? (i := 83) (l := tables_1_3) rfl)))))
set_option maxRecDepth 100000 in
theorem ck14 : Cond.code yX1_endTransfer cX1_endTransfer 4 none ∈ lw_tbl := List.mem_append_right _ (show _ ∈ tables_1 from (List.mem_append_right _ (List.mem_append_right _ (List.mem_append_left _ (List.mem_of_getElem? (i := 29) (l := tables_1_3) rfl)))))
set_option maxRecDepth 100000 in
theorem ck15 : Cond.code yX1_leave cX1_leave 2 none ∈ lw_tbl := List.mem_append_right _ (show _ ∈ tables_1 from (List.mem_append_right _ (List.mem_append_right _ (List.mem_append_left _ (List.mem_of_getElem? (i := 32) (l := tables_1_3) rfl)))))
set_option maxRecDepth 100000 in
theorem ck16 : Cond.code yX1_beginTransfer cX1_beginTransfer 7 none ∈ lw_tbl := List.mem_append_right _ (show _ ∈ tables_1 from (List.mem_append_right _ (List.mem_append_right _ (List.mem_append_left _ (List.mem_of_getElem? (i := 44) (l := tables_1_3) rfl)))))
set_option maxRecDepth 100000 in
theorem ck17 : Cond.code yX1_placeFor cX1_placeFor 5 (some ((FieldType.object "OneLevelStore$Place"))) ∈ lw_tbl := List.mem_append_right _ (show _ ∈ tables_1 from (List.mem_append_right _ (List.mem_append_right _ (List.mem_append_left _ (List.mem_of_getElem? (i := 48) (l := tables_1_3) rfl)))))
set_option maxRecDepth 100000 in
theorem ck18 : Cond.code yX1_removeAt cX1_removeAt 3 none ∈ lw_tbl := List.mem_append_right _ (show _ ∈ tables_1 from (List.mem_append_right _ (List.mem_append_right _ (List.mem_append_left _ (List.mem_of_getElem? (i := 53) (l := tables_1_3) rfl)))))
set_option maxRecDepth 100000 in
theorem ck19 : Cond.code yX1_dropQueued cX1_dropQueued 5 none ∈ lw_tbl := List.mem_append_right _ (show _ ∈ tables_1 from (List.mem_append_right _ (List.mem_append_right _ (List.mem_append_left _ (List.mem_of_getElem? (i := 237) (l := tables_1_3) rfl)))))
set_option maxRecDepth 100000 in
theorem ck20 : Cond.code yX1_clear cX1_clear 3 none ∈ lw_tbl := List.mem_append_right _ (show _ ∈ tables_1 from (List.mem_append_right _ (List.mem_append_right _ (List.mem_append_right _ (List.mem_append_left _ (List.mem_of_getElem? (i := 6) (l := tables_1_4) rfl))))))
set_option maxRecDepth 100000 in
theorem ck21 : Cond.code yX1_tell cX1_tell 3 (some (FieldType.int)) ∈ lw_tbl := List.mem_append_right _ (show _ ∈ tables_1 from (List.mem_append_right _ (List.mem_append_right _ (List.mem_append_right _ (List.mem_append_left _ (List.mem_of_getElem? (i := 94) (l := tables_1_4) rfl))))))
set_option maxRecDepth 100000 in
theorem ck22 : Cond.code yX2_init cX2_init 2 none ∈ lw_tbl := List.mem_append_right _ (show _ ∈ tables_1 from (List.mem_append_left _ (List.mem_of_getElem? (i := 192) (l := tables_1_1) rfl)))
set_option maxRecDepth 100000 in
theorem ck23 : Cond.code yX2_take cX2_take 3 none ∈ lw_tbl := List.mem_append_right _ (show _ ∈ tables_1 from (List.mem_append_right _ (List.mem_append_right _ (List.mem_append_left _ (List.mem_of_getElem? (i := 40) (l := tables_1_3) rfl)))))
set_option maxRecDepth 100000 in
theorem ck24 : Cond.code yX2_empty cX2_empty 1 none ∈ lw_tbl := List.mem_append_right _ (show _ ∈ tables_1 from (List.mem_append_right _ (List.mem_append_right _ (List.mem_append_left _ (List.mem_of_getElem? (i := 36) (l := tables_1_3) rfl)))))
set_option maxRecDepth 100000 in
theorem ck25 : Cond.code yX2_touch cX2_touch 1 none ∈ lw_tbl := List.mem_append_right _ (show _ ∈ tables_1 from (List.mem_append_right _ (List.mem_append_right _ (List.mem_append_left _ (List.mem_of_getElem? (i := 225) (l := tables_1_3) rfl)))))
set_option maxRecDepth 100000 in
theorem ck26 : Cond.code yX2_look cX2_look 1 none ∈ lw_tbl := List.mem_append_right _ (show _ ∈ tables_1 from (List.mem_append_right _ (List.mem_append_right _ (List.mem_append_right _ (List.mem_append_left _ (List.mem_of_getElem? (i := 29) (l := tables_1_4) rfl))))))
set_option maxRecDepth 100000 in
theorem ck27 : Cond.code yX2_tell cX2_tell 2 (some (FieldType.int)) ∈ lw_tbl := List.mem_append_right _ (show _ ∈ tables_1 from (List.mem_append_right _ (List.mem_append_right _ (List.mem_append_right _ (List.mem_append_left _ (List.mem_of_getElem? (i := 78) (l := tables_1_4) rfl))))))
set_option maxRecDepth 100000 in
theorem ck28 : Cond.code yX2_part cX2_part 1 (some (FieldType.int)) ∈ lw_tbl := List.mem_append_right _ (show _ ∈ tables_1 from (List.mem_append_right _ (List.mem_append_right _ (List.mem_append_left _ (List.mem_of_getElem? (i := 103) (l := tables_1_3) rfl)))))
set_option maxRecDepth 100000 in
theorem ck29 : Cond.code yX2_goesBefore cX2_goesBefore 2 (some (FieldType.boolean)) ∈ lw_tbl := List.mem_append_right _ (show _ ∈ tables_1 from (List.mem_append_right _ (List.mem_append_right _ (List.mem_append_left _ (List.mem_of_getElem? (i := 99) (l := tables_1_3) rfl)))))
set_option maxRecDepth 100000 in
theorem ck30 : Cond.code yX3_init cX3_init 2 none ∈ lw_tbl := List.mem_append_right _ (show _ ∈ tables_1 from (List.mem_append_right _ (List.mem_append_left _ (List.mem_of_getElem? (i := 35) (l := tables_1_2) rfl))))
set_option maxRecDepth 100000 in
theorem ck31 : Cond.code yX3_reset cX3_reset 1 none ∈ lw_tbl := List.mem_append_right _ (show _ ∈ tables_1 from (List.mem_append_right _ (List.mem_append_right _ (List.mem_append_right _ (List.mem_append_left _ (List.mem_of_getElem? (i := 132) (l := tables_1_4) rfl))))))
set_option maxRecDepth 100000 in
theorem ck32 : Cond.code yX3_begin cX3_begin 4 none ∈ lw_tbl := List.mem_append_right _ (show _ ∈ tables_1 from (List.mem_append_right _ (List.mem_append_right _ (List.mem_append_left _ (List.mem_of_getElem? (i := 10) (l := tables_1_3) rfl)))))
set_option maxRecDepth 100000 in
theorem ck33 : Cond.code yX3_await cX3_await 2 none ∈ lw_tbl := List.mem_append_right _ (show _ ∈ tables_1 from (List.mem_append_right _ (List.mem_append_right _ (List.mem_append_left _ (List.mem_of_getElem? (i := 139) (l := tables_1_3) rfl)))))
set_option maxRecDepth 100000 in
theorem ck34 : Cond.code yX3_wake cX3_wake 1 none ∈ lw_tbl := List.mem_append_right _ (show _ ∈ tables_1 from (List.mem_append_right _ (List.mem_append_right _ (List.mem_append_left _ (List.mem_of_getElem? (i := 66) (l := tables_1_3) rfl)))))
set_option maxRecDepth 100000 in
theorem ck35 : Cond.code yX3_isOver cX3_isOver 1 (some (FieldType.boolean)) ∈ lw_tbl := List.mem_append_right _ (show _ ∈ tables_1 from (List.mem_append_right _ (List.mem_append_left _ (List.mem_of_getElem? (i := 196) (l := tables_1_2) rfl))))
set_option maxRecDepth 100000 in
theorem ck36 : Cond.code yX3_isPrinted cX3_isPrinted 1 (some (FieldType.boolean)) ∈ lw_tbl := List.mem_append_right _ (show _ ∈ tables_1 from (List.mem_append_right _ (List.mem_append_right _ (List.mem_append_right _ (List.mem_append_left _ (List.mem_of_getElem? (i := 37) (l := tables_1_4) rfl))))))
set_option maxRecDepth 100000 in
theorem ck37 : Cond.code yX3_reserved cX3_reserved 1 (some (FieldType.int)) ∈ lw_tbl := List.mem_append_right _ (show _ ∈ tables_1 from (List.mem_append_right _ (List.mem_append_left _ (List.mem_of_getElem? (i := 192) (l := tables_1_2) rfl))))
set_option maxRecDepth 100000 in
theorem ck38 : Cond.code yX3_getB cX3_getB 2 (some (FieldType.int)) ∈ lw_tbl := List.mem_append_right _ (show _ ∈ tables_1 from (List.mem_append_right _ (List.mem_append_right _ (List.mem_append_left _ (List.mem_of_getElem? (i := 124) (l := tables_1_3) rfl)))))
set_option maxRecDepth 100000 in
theorem ck39 : Cond.code yX3_putB cX3_putB 4 none ∈ lw_tbl := List.mem_append_right _ (show _ ∈ tables_1 from (List.mem_append_right _ (List.mem_append_right _ (List.mem_append_left _ (List.mem_of_getElem? (i := 14) (l := tables_1_3) rfl)))))
set_option maxRecDepth 100000 in
theorem ck40 : Cond.code yX3_tell cX3_tell 2 (some (FieldType.int)) ∈ lw_tbl := List.mem_append_right _ (show _ ∈ tables_1 from (List.mem_append_right _ (List.mem_append_right _ (List.mem_append_right _ (List.mem_append_left _ (List.mem_of_getElem? (i := 48) (l := tables_1_4) rfl))))))
set_option maxRecDepth 100000 in
theorem ck41 : Cond.code yX4_init cX4_init 1 none ∈ lw_tbl := List.mem_append_right _ (show _ ∈ tables_1 from (List.mem_append_left _ (List.mem_of_getElem? (i := 57) (l := tables_1_1) rfl)))
set_option maxRecDepth 100000 in
theorem ck42 : Cond.code yX4_hold cX4_hold 3 none ∈ lw_tbl := List.mem_append_right _ (show _ ∈ tables_1 from (List.mem_append_right _ (List.mem_append_left _ (List.mem_of_getElem? (i := 216) (l := tables_1_2) rfl))))
set_option maxRecDepth 100000 in
theorem ck43 : Cond.code yX4_release cX4_release 1 none ∈ lw_tbl := List.mem_append_right _ (show _ ∈ tables_1 from (List.mem_append_right _ (List.mem_append_right _ (List.mem_append_right _ (List.mem_append_left _ (List.mem_of_getElem? (i := 14) (l := tables_1_4) rfl))))))
set_option maxRecDepth 100000 in
theorem ck44 : Cond.code yX4_isInUse cX4_isInUse 1 (some (FieldType.boolean)) ∈ lw_tbl := List.mem_append_right _ (show _ ∈ tables_1 from (List.mem_append_right _ (List.mem_append_right _ (List.mem_append_left _ (List.mem_of_getElem? (i := 62) (l := tables_1_3) rfl)))))
set_option maxRecDepth 100000 in
theorem ck45 : Cond.code yX4_wordAt cX4_wordAt 2 (some (FieldType.long)) ∈ lw_tbl := List.mem_append_right _ (show _ ∈ tables_1 from (List.mem_append_right _ (List.mem_append_right _ (List.mem_append_left _ (List.mem_of_getElem? (i := 143) (l := tables_1_3) rfl)))))
set_option maxRecDepth 100000 in
theorem ck46 : Cond.code yX4_putWord cX4_putWord 4 none ∈ lw_tbl := List.mem_append_right _ (show _ ∈ tables_1 from (List.mem_append_right _ (List.mem_append_left _ (List.mem_of_getElem? (i := 228) (l := tables_1_2) rfl))))
set_option maxRecDepth 100000 in
theorem ck47 : Cond.code yX5_init cX5_init 2 none ∈ lw_tbl := List.mem_append_right _ (show _ ∈ tables_1 from (List.mem_append_left _ (List.mem_of_getElem? (i := 50) (l := tables_1_1) rfl)))
set_option maxRecDepth 100000 in
theorem ck48 : Cond.code yX5_find cX5_find 4 (some ((FieldType.object "OneLevelStore$Page"))) ∈ lw_tbl := List.mem_append_right _ (show _ ∈ tables_1 from (List.mem_append_right _ (List.mem_append_left _ (List.mem_of_getElem? (i := 184) (l := tables_1_2) rfl))))
set_option maxRecDepth 100000 in
theorem ck49 : Cond.code yX5_hold cX5_hold 4 (some ((FieldType.object "OneLevelStore$Page"))) ∈ lw_tbl := List.mem_append_right _ (show _ ∈ tables_1 from (List.mem_append_right _ (List.mem_append_left _ (List.mem_of_getElem? (i := 212) (l := tables_1_2) rfl))))
set_option maxRecDepth 100000 in
theorem ck50 : Cond.code yX5_release cX5_release 3 none ∈ lw_tbl := List.mem_append_right _ (show _ ∈ tables_1 from (List.mem_append_right _ (List.mem_append_right _ (List.mem_append_right _ (List.mem_append_left _ (List.mem_of_getElem? (i := 10) (l := tables_1_4) rfl))))))
set_option maxRecDepth 100000 in
theorem ck51 : Cond.code yX6_init cX6_init 2 none ∈ lw_tbl := List.mem_append_right _ (show _ ∈ tables_1 from (List.mem_append_left _ (List.mem_of_getElem? (i := 106) (l := tables_1_1) rfl)))
set_option maxRecDepth 100000 in
theorem ck52 : Cond.code yX6_take cX6_take 2 none ∈ lw_tbl := List.mem_append_right _ (show _ ∈ tables_1 from (List.mem_append_right _ (List.mem_append_left _ (List.mem_of_getElem? (i := 220) (l := tables_1_2) rfl))))
set_option maxRecDepth 100000 in
theorem ck53 : Cond.code yX7_init cX7_init 1 none ∈ lw_tbl := List.mem_append_right _ (show _ ∈ tables_1 from (List.mem_append_left _ (List.mem_of_getElem? (i := 157) (l := tables_1_1) rfl)))
set_option maxRecDepth 100000 in
theorem ck54 : Cond.code yX7_add cX7_add 2 none ∈ lw_tbl := List.mem_append_right _ (show _ ∈ tables_1 from (List.mem_append_right _ (List.mem_append_right _ (List.mem_append_right _ (List.mem_append_left _ (List.mem_of_getElem? (i := 21) (l := tables_1_4) rfl))))))
set_option maxRecDepth 100000 in
theorem ck55 : Cond.code yX7_drop cX7_drop 4 none ∈ lw_tbl := List.mem_append_right _ (show _ ∈ tables_1 from (List.mem_append_right _ (List.mem_append_right _ (List.mem_append_right _ (List.mem_append_left _ (List.mem_of_getElem? (i := 128) (l := tables_1_4) rfl))))))
set_option maxRecDepth 100000 in
theorem ck56 : Cond.code yX7_printNext cX7_printNext 3 none ∈ lw_tbl := List.mem_append_right _ (show _ ∈ tables_1 from (List.mem_append_right _ (List.mem_append_right _ (List.mem_append_right _ (List.mem_append_left _ (List.mem_of_getElem? (i := 33) (l := tables_1_4) rfl))))))
set_option maxRecDepth 100000 in
theorem ck57 : Cond.code yX8_init cX8_init 3 none ∈ lw_tbl := List.mem_append_right _ (show _ ∈ tables_1 from (List.mem_append_right _ (List.mem_append_left _ (List.mem_of_getElem? (i := 5) (l := tables_1_2) rfl))))
set_option maxRecDepth 100000 in
theorem ck58 : Cond.code yX8_step cX8_step 5 (some (FieldType.int)) ∈ lw_tbl := List.mem_append_right _ (show _ ∈ tables_1 from (List.mem_append_right _ (List.mem_append_right _ (List.mem_append_left _ (List.mem_of_getElem? (i := 120) (l := tables_1_3) rfl)))))
set_option maxRecDepth 100000 in
theorem ck59 : Cond.code yX8_decode cX8_decode 3 none ∈ lw_tbl := List.mem_append_right _ (show _ ∈ tables_1 from (List.mem_append_right _ (List.mem_append_right _ (List.mem_append_left _ (List.mem_of_getElem? (i := 147) (l := tables_1_3) rfl)))))
set_option maxRecDepth 100000 in
theorem ck60 : Cond.code yX8_missing cX8_missing 3 (some (FieldType.int)) ∈ lw_tbl := List.mem_append_right _ (show _ ∈ tables_1 from (List.mem_append_right _ (List.mem_append_right _ (List.mem_append_left _ (List.mem_of_getElem? (i := 133) (l := tables_1_3) rfl)))))
set_option maxRecDepth 100000 in
theorem ck61 : Cond.code yX8_perform cX8_perform 1 (some (FieldType.int)) ∈ lw_tbl := List.mem_append_right _ (show _ ∈ tables_1 from (List.mem_append_right _ (List.mem_append_right _ (List.mem_append_left _ (List.mem_of_getElem? (i := 153) (l := tables_1_3) rfl)))))
set_option maxRecDepth 100000 in
theorem ck62 : Cond.code yX8_hasOperand cX8_hasOperand 1 (some (FieldType.boolean)) ∈ lw_tbl := List.mem_append_right _ (show _ ∈ tables_1 from (List.mem_append_right _ (List.mem_append_right _ (List.mem_append_left _ (List.mem_of_getElem? (i := 157) (l := tables_1_3) rfl)))))
set_option maxRecDepth 100000 in
theorem ck63 : Cond.code yX8_effective cX8_effective 3 (some (FieldType.int)) ∈ lw_tbl := List.mem_append_right _ (show _ ∈ tables_1 from (List.mem_append_right _ (List.mem_append_right _ (List.mem_append_left _ (List.mem_of_getElem? (i := 165) (l := tables_1_3) rfl)))))
set_option maxRecDepth 100000 in
theorem ck64 : Cond.code yX8_withOperand cX8_withOperand 4 (some (FieldType.int)) ∈ lw_tbl := List.mem_append_right _ (show _ ∈ tables_1 from (List.mem_append_right _ (List.mem_append_right _ (List.mem_append_left _ (List.mem_of_getElem? (i := 161) (l := tables_1_3) rfl)))))
set_option maxRecDepth 100000 in
theorem ck65 : Cond.code yX8_registerWithWord cX8_registerWithWord 7 (some (FieldType.int)) ∈ lw_tbl := List.mem_append_right _ (show _ ∈ tables_1 from (List.mem_append_right _ (List.mem_append_right _ (List.mem_append_left _ (List.mem_of_getElem? (i := 169) (l := tables_1_3) rfl)))))
set_option maxRecDepth 100000 in
theorem ck66 : Cond.code yX8_accumulatorWithWord cX8_accumulatorWithWord 7 (some (FieldType.int)) ∈ lw_tbl := List.mem_append_right _ (show _ ∈ tables_1 from (List.mem_append_right _ (List.mem_append_right _ (List.mem_append_left _ (List.mem_of_getElem? (i := 178) (l := tables_1_3) rfl)))))
set_option maxRecDepth 100000 in
theorem ck67 : Cond.code yX8_registerOrder cX8_registerOrder 5 (some (FieldType.int)) ∈ lw_tbl := List.mem_append_right _ (show _ ∈ tables_1 from (List.mem_append_right _ (List.mem_append_right _ (List.mem_append_left _ (List.mem_of_getElem? (i := 182) (l := tables_1_3) rfl)))))
set_option maxRecDepth 100000 in
theorem ck68 : Cond.code yX8_jumpOrder cX8_jumpOrder 1 (some (FieldType.int)) ∈ lw_tbl := List.mem_append_right _ (show _ ∈ tables_1 from (List.mem_append_right _ (List.mem_append_right _ (List.mem_append_left _ (List.mem_of_getElem? (i := 186) (l := tables_1_3) rfl)))))
set_option maxRecDepth 100000 in
theorem ck69 : Cond.code yX8_count cX8_count 3 none ∈ lw_tbl := List.mem_append_right _ (show _ ∈ tables_1 from (List.mem_append_right _ (List.mem_append_right _ (List.mem_append_left _ (List.mem_of_getElem? (i := 190) (l := tables_1_3) rfl)))))
set_option maxRecDepth 100000 in
theorem ck70 : Cond.code yX8_goWhen cX8_goWhen 4 none ∈ lw_tbl := List.mem_append_right _ (show _ ∈ tables_1 from (List.mem_append_right _ (List.mem_append_right _ (List.mem_append_left _ (List.mem_of_getElem? (i := 194) (l := tables_1_3) rfl)))))
set_option maxRecDepth 100000 in
theorem ck71 : Cond.code yX8_holds cX8_holds 3 (some (FieldType.boolean)) ∈ lw_tbl := List.mem_append_right _ (show _ ∈ tables_1 from (List.mem_append_right _ (List.mem_append_right _ (List.mem_append_left _ (List.mem_of_getElem? (i := 197) (l := tables_1_3) rfl)))))
set_option maxRecDepth 100000 in
theorem ck72 : Cond.code yX8_shiftOrder cX8_shiftOrder 1 (some (FieldType.int)) ∈ lw_tbl := List.mem_append_right _ (show _ ∈ tables_1 from (List.mem_append_right _ (List.mem_append_right _ (List.mem_append_left _ (List.mem_of_getElem? (i := 201) (l := tables_1_3) rfl)))))
set_option maxRecDepth 100000 in
theorem ck73 : Cond.code yX8_extracode cX8_extracode 1 (some (FieldType.int)) ∈ lw_tbl := List.mem_append_right _ (show _ ∈ tables_1 from (List.mem_append_right _ (List.mem_append_right _ (List.mem_append_left _ (List.mem_of_getElem? (i := 206) (l := tables_1_3) rfl)))))
set_option maxRecDepth 100000 in
theorem ck74 : Cond.code yX8_signOf cX8_signOf 2 (some (FieldType.int)) ∈ lw_tbl := List.mem_append_right _ (show _ ∈ tables_1 from (List.mem_append_right _ (List.mem_append_right _ (List.mem_append_left _ (List.mem_of_getElem? (i := 174) (l := tables_1_3) rfl)))))
set_option maxRecDepth 100000 in
theorem ck75 : Cond.code yX8_rootOf cX8_rootOf 9 (some (FieldType.long)) ∈ lw_tbl := List.mem_append_right _ (show _ ∈ tables_1 from (List.mem_append_right _ (List.mem_append_right _ (List.mem_append_left _ (List.mem_of_getElem? (i := 219) (l := tables_1_3) rfl)))))
set_option maxRecDepth 100000 in
theorem ck76 : Cond.code yX9_init cX9_init 2 none ∈ lw_tbl := List.mem_append_right _ (show _ ∈ tables_1 from (List.mem_append_left _ (List.mem_of_getElem? (i := 28) (l := tables_1_1) rfl)))
set_option maxRecDepth 100000 in
theorem ck77 : Cond.code yX9_size cX9_size 1 (some (FieldType.int)) ∈ lw_tbl := List.mem_append_right _ (show _ ∈ tables_1 from (List.mem_append_right _ (List.mem_append_left _ (List.mem_of_getElem? (i := 164) (l := tables_1_2) rfl))))
set_option maxRecDepth 100000 in
theorem ck78 : Cond.code yX9_room cX9_room 1 (some (FieldType.int)) ∈ lw_tbl := List.mem_append_right _ (show _ ∈ tables_1 from (List.mem_append_right _ (List.mem_append_right _ (List.mem_append_left _ (List.mem_of_getElem? (i := 1) (l := tables_1_3) rfl)))))
set_option maxRecDepth 100000 in
theorem ck79 : Cond.code yX9_append cX9_append 4 (some (FieldType.boolean)) ∈ lw_tbl := List.mem_append_right _ (show _ ∈ tables_1 from (List.mem_append_right _ (List.mem_append_left _ (List.mem_of_getElem? (i := 156) (l := tables_1_2) rfl))))
set_option maxRecDepth 100000 in
theorem ck80 : Cond.code yX9_push cX9_push 3 none ∈ lw_tbl := List.mem_append_right _ (show _ ∈ tables_1 from (List.mem_append_right _ (List.mem_append_right _ (List.mem_append_left _ (List.mem_of_getElem? (i := 107) (l := tables_1_3) rfl)))))
set_option maxRecDepth 100000 in
theorem ck81 : Cond.code yX9_takeFirst cX9_takeFirst 3 (some (FieldType.long)) ∈ lw_tbl := List.mem_append_right _ (show _ ∈ tables_1 from (List.mem_append_right _ (List.mem_append_right _ (List.mem_append_left _ (List.mem_of_getElem? (i := 111) (l := tables_1_3) rfl)))))
set_option maxRecDepth 100000 in
theorem ck82 : Cond.code yX9_at cX9_at 3 (some (FieldType.long)) ∈ lw_tbl := List.mem_append_right _ (show _ ∈ tables_1 from (List.mem_append_right _ (List.mem_append_left _ (List.mem_of_getElem? (i := 224) (l := tables_1_2) rfl))))
set_option maxRecDepth 100000 in
theorem ck83 : Cond.code yX9_fromEnd cX9_fromEnd 2 (some (FieldType.long)) ∈ lw_tbl := List.mem_append_right _ (show _ ∈ tables_1 from (List.mem_append_right _ (List.mem_append_right _ (List.mem_append_right _ (List.mem_append_left _ (List.mem_of_getElem? (i := 110) (l := tables_1_4) rfl))))))
set_option maxRecDepth 100000 in
theorem ck84 : Cond.code yX9_clear cX9_clear 1 none ∈ lw_tbl := List.mem_append_right _ (show _ ∈ tables_1 from (List.mem_append_right _ (List.mem_append_left _ (List.mem_of_getElem? (i := 232) (l := tables_1_2) rfl))))
set_option maxRecDepth 100000 in
theorem ck85 : Cond.code yX9_cellOf cX9_cellOf 3 (some (FieldType.int)) ∈ lw_tbl := List.mem_append_right _ (show _ ∈ tables_1 from (List.mem_append_right _ (List.mem_append_left _ (List.mem_of_getElem? (i := 160) (l := tables_1_2) rfl))))
set_option maxRecDepth 100000 in
theorem ck86 : Cond.code yX10_init cX10_init 3 none ∈ lw_tbl := List.mem_append_right _ (show _ ∈ tables_1 from (List.mem_append_left _ (List.mem_of_getElem? (i := 20) (l := tables_1_1) rfl)))
set_option maxRecDepth 100000 in
theorem ck87 : Cond.code yX10_key cX10_key 3 (some (FieldType.int)) ∈ lw_tbl := List.mem_append_right _ (show _ ∈ tables_1 from (List.mem_append_right _ (List.mem_append_left _ (List.mem_of_getElem? (i := 149) (l := tables_1_2) rfl))))
set_option maxRecDepth 100000 in
theorem ck88 : Cond.code yX10_load cX10_load 9 (some (FieldType.int)) ∈ lw_tbl := List.mem_append_right _ (show _ ∈ tables_1 from (List.mem_append_right _ (List.mem_append_left _ (List.mem_of_getElem? (i := 168) (l := tables_1_2) rfl))))
set_option maxRecDepth 100000 in
theorem ck89 : Cond.code yX10_tape cX10_tape 5 (some (FieldType.int)) ∈ lw_tbl := List.mem_append_right _ (show _ ∈ tables_1 from (List.mem_append_right _ (List.mem_append_left _ (List.mem_of_getElem? (i := 236) (l := tables_1_2) rfl))))
set_option maxRecDepth 100000 in
theorem ck90 : Cond.code yX10_start cX10_start 6 (some (FieldType.boolean)) ∈ lw_tbl := List.mem_append_right _ (show _ ∈ tables_1 from (List.mem_append_right _ (List.mem_append_right _ (List.mem_append_left _ (List.mem_of_getElem? (i := 5) (l := tables_1_3) rfl)))))
set_option maxRecDepth 100000 in
theorem ck91 : Cond.code yX10_run cX10_run 3 (some (FieldType.int)) ∈ lw_tbl := List.mem_append_right _ (show _ ∈ tables_1 from (List.mem_append_right _ (List.mem_append_right _ (List.mem_append_left _ (List.mem_of_getElem? (i := 21) (l := tables_1_3) rfl)))))
set_option maxRecDepth 100000 in
theorem ck92 : Cond.code yX10_job cX10_job 4 (some (FieldType.int)) ∈ lw_tbl := List.mem_append_right _ (show _ ∈ tables_1 from (List.mem_append_right _ (List.mem_append_right _ (List.mem_append_right _ (List.mem_append_left _ (List.mem_of_getElem? (i := 44) (l := tables_1_4) rfl))))))
set_option maxRecDepth 100000 in
theorem ck93 : Cond.code yX10_register cX10_register 4 (some (FieldType.int)) ∈ lw_tbl := List.mem_append_right _ (show _ ∈ tables_1 from (List.mem_append_right _ (List.mem_append_right _ (List.mem_append_right _ (List.mem_append_left _ (List.mem_of_getElem? (i := 52) (l := tables_1_4) rfl))))))
set_option maxRecDepth 100000 in
theorem ck94 : Cond.code yX10_accumulator cX10_accumulator 3 (some (FieldType.long)) ∈ lw_tbl := List.mem_append_right _ (show _ ∈ tables_1 from (List.mem_append_right _ (List.mem_append_right _ (List.mem_append_right _ (List.mem_append_left _ (List.mem_of_getElem? (i := 57) (l := tables_1_4) rfl))))))
set_option maxRecDepth 100000 in
theorem ck95 : Cond.code yX10_word cX10_word 4 (some (FieldType.long)) ∈ lw_tbl := List.mem_append_right _ (show _ ∈ tables_1 from (List.mem_append_right _ (List.mem_append_right _ (List.mem_append_right _ (List.mem_append_left _ (List.mem_of_getElem? (i := 61) (l := tables_1_4) rfl))))))
set_option maxRecDepth 100000 in
theorem ck96 : Cond.code yX10_paper cX10_paper 4 (some (FieldType.long)) ∈ lw_tbl := List.mem_append_right _ (show _ ∈ tables_1 from (List.mem_append_right _ (List.mem_append_right _ (List.mem_append_right _ (List.mem_append_left _ (List.mem_of_getElem? (i := 66) (l := tables_1_4) rfl))))))
set_option maxRecDepth 100000 in
theorem ck97 : Cond.code yX10_frame cX10_frame 4 (some (FieldType.int)) ∈ lw_tbl := List.mem_append_right _ (show _ ∈ tables_1 from (List.mem_append_right _ (List.mem_append_right _ (List.mem_append_right _ (List.mem_append_left _ (List.mem_of_getElem? (i := 70) (l := tables_1_4) rfl))))))
set_option maxRecDepth 100000 in
theorem ck98 : Cond.code yX10_place cX10_place 4 (some (FieldType.int)) ∈ lw_tbl := List.mem_append_right _ (show _ ∈ tables_1 from (List.mem_append_right _ (List.mem_append_right _ (List.mem_append_right _ (List.mem_append_left _ (List.mem_of_getElem? (i := 82) (l := tables_1_4) rfl))))))
set_option maxRecDepth 100000 in
theorem ck99 : Cond.code yX10_drum cX10_drum 2 (some (FieldType.int)) ∈ lw_tbl := List.mem_append_right _ (show _ ∈ tables_1 from (List.mem_append_right _ (List.mem_append_right _ (List.mem_append_right _ (List.mem_append_left _ (List.mem_of_getElem? (i := 90) (l := tables_1_4) rfl))))))
set_option maxRecDepth 100000 in
theorem ck100 : Cond.code yX10_queued cX10_queued 3 (some (FieldType.int)) ∈ lw_tbl := List.mem_append_right _ (show _ ∈ tables_1 from (List.mem_append_right _ (List.mem_append_right _ (List.mem_append_right _ (List.mem_append_left _ (List.mem_of_getElem? (i := 98) (l := tables_1_4) rfl))))))
set_option maxRecDepth 100000 in
theorem ck101 : Cond.code yX10_chosen cX10_chosen 2 (some (FieldType.int)) ∈ lw_tbl := List.mem_append_right _ (show _ ∈ tables_1 from (List.mem_append_right _ (List.mem_append_right _ (List.mem_append_right _ (List.mem_append_left _ (List.mem_of_getElem? (i := 106) (l := tables_1_4) rfl))))))
set_option maxRecDepth 100000 in
theorem ck102 : Cond.code yX10_printed cX10_printed 2 (some (FieldType.long)) ∈ lw_tbl := List.mem_append_right _ (show _ ∈ tables_1 from (List.mem_append_right _ (List.mem_append_right _ (List.mem_append_right _ (List.mem_append_left _ (List.mem_of_getElem? (i := 115) (l := tables_1_4) rfl))))))
set_option maxRecDepth 100000 in
theorem ck103 : Cond.code yX10_clock cX10_clock 2 (some (FieldType.int)) ∈ lw_tbl := List.mem_append_right _ (show _ ∈ tables_1 from (List.mem_append_right _ (List.mem_append_right _ (List.mem_append_right _ (List.mem_append_left _ (List.mem_of_getElem? (i := 119) (l := tables_1_4) rfl))))))
set_option maxRecDepth 100000 in
theorem ck104 : Cond.code yX10_forget cX10_forget 3 (some (FieldType.boolean)) ∈ lw_tbl := List.mem_append_right _ (show _ ∈ tables_1 from (List.mem_append_right _ (List.mem_append_right _ (List.mem_append_right _ (List.mem_append_left _ (List.mem_of_getElem? (i := 123) (l := tables_1_4) rfl))))))
set_option maxRecDepth 100000 in
theorem ck105 : Cond.code yX10_jobOf cX10_jobOf 2 (some ((FieldType.object "OneLevelStore$Job"))) ∈ lw_tbl := List.mem_append_right _ (show _ ∈ tables_1 from (List.mem_append_right _ (List.mem_append_left _ (List.mem_of_getElem? (i := 172) (l := tables_1_2) rfl))))
set_option maxRecDepth 100000 in
theorem ck106 : Cond.code yX10_reservedBesides cX10_reservedBesides 4 (some (FieldType.int)) ∈ lw_tbl := List.mem_append_right _ (show _ ∈ tables_1 from (List.mem_append_right _ (List.mem_append_left _ (List.mem_of_getElem? (i := 188) (l := tables_1_2) rfl))))
set_option maxRecDepth 100000 in
theorem ck107 : Cond.code yX10_countNewBlocks cX10_countNewBlocks 6 (some (FieldType.int)) ∈ lw_tbl := List.mem_append_right _ (show _ ∈ tables_1 from (List.mem_append_right _ (List.mem_append_left _ (List.mem_of_getElem? (i := 180) (l := tables_1_2) rfl))))
set_option maxRecDepth 100000 in
theorem ck108 : Cond.code yX10_pageToLoad cX10_pageToLoad 5 (some ((FieldType.object "OneLevelStore$Page"))) ∈ lw_tbl := List.mem_append_right _ (show _ ∈ tables_1 from (List.mem_append_right _ (List.mem_append_left _ (List.mem_of_getElem? (i := 204) (l := tables_1_2) rfl))))
set_option maxRecDepth 100000 in
theorem ck109 : Cond.code yX10_tick cX10_tick 2 none ∈ lw_tbl := List.mem_append_right _ (show _ ∈ tables_1 from (List.mem_append_right _ (List.mem_append_right _ (List.mem_append_left _ (List.mem_of_getElem? (i := 25) (l := tables_1_3) rfl)))))
set_option maxRecDepth 100000 in
theorem ck110 : Cond.code yX10_wakeJobs cX10_wakeJobs 3 none ∈ lw_tbl := List.mem_append_right _ (show _ ∈ tables_1 from (List.mem_append_right _ (List.mem_append_right _ (List.mem_append_left _ (List.mem_of_getElem? (i := 58) (l := tables_1_3) rfl)))))
set_option maxRecDepth 100000 in
theorem ck111 : Cond.code yX10_findFrames cX10_findFrames 3 none ∈ lw_tbl := List.mem_append_right _ (show _ ∈ tables_1 from (List.mem_append_right _ (List.mem_append_right _ (List.mem_append_left _ (List.mem_of_getElem? (i := 70) (l := tables_1_3) rfl)))))
set_option maxRecDepth 100000 in
theorem ck112 : Cond.code yX10_findFrame cX10_findFrame 4 none ∈ lw_tbl := List.mem_append_right _ (show _ ∈ tables_1 from (List.mem_append_right _ (List.mem_append_right _ (List.mem_append_left _ (List.mem_of_getElem? (i := 74) (l := tables_1_3) rfl)))))
set_option maxRecDepth 100000 in
theorem ck113 : Cond.code yX10_keepFrameEmpty cX10_keepFrameEmpty 2 none ∈ lw_tbl := List.mem_append_right _ (show _ ∈ tables_1 from (List.mem_append_right _ (List.mem_append_right _ (List.mem_append_left _ (List.mem_of_getElem? (i := 87) (l := tables_1_3) rfl)))))
set_option maxRecDepth 100000 in
theorem ck114 : Cond.code yX10_firstReady cX10_firstReady 2 (some ((FieldType.object "OneLevelStore$Job"))) ∈ lw_tbl := List.mem_append_right _ (show _ ∈ tables_1 from (List.mem_append_right _ (List.mem_append_right _ (List.mem_append_left _ (List.mem_of_getElem? (i := 116) (l := tables_1_3) rfl)))))
set_option maxRecDepth 100000 in
theorem ck115 : Cond.code yX10_settle cX10_settle 3 none ∈ lw_tbl := List.mem_append_right _ (show _ ∈ tables_1 from (List.mem_append_right _ (List.mem_append_right _ (List.mem_append_left _ (List.mem_of_getElem? (i := 229) (l := tables_1_3) rfl)))))
set_option maxRecDepth 100000 in
theorem ck116 : Cond.code yX10_close cX10_close 3 none ∈ lw_tbl := List.mem_append_right _ (show _ ∈ tables_1 from (List.mem_append_right _ (List.mem_append_right _ (List.mem_append_left _ (List.mem_of_getElem? (i := 233) (l := tables_1_3) rfl)))))
set_option maxRecDepth 100000 in
theorem ck117 : Cond.code yX10_isAddress cX10_isAddress 1 (some (FieldType.boolean)) ∈ lw_tbl := List.mem_append_right _ (show _ ∈ tables_1 from (List.mem_append_right _ (List.mem_append_left _ (List.mem_of_getElem? (i := 175) (l := tables_1_2) rfl))))
set_option maxRecDepth 100000 in
theorem ck118 : Cond.code yX10_cutToWord cX10_cutToWord 2 (some (FieldType.long)) ∈ lw_tbl := List.mem_append_right _ (show _ ∈ tables_1 from (List.mem_append_right _ (List.mem_append_left _ (List.mem_of_getElem? (i := 152) (l := tables_1_2) rfl))))
set_option maxRecDepth 100000 in
theorem ck119 : Cond.code yX10_cutToHalf cX10_cutToHalf 2 (some (FieldType.int)) ∈ lw_tbl := List.mem_append_right _ (show _ ∈ tables_1 from (List.mem_append_right _ (List.mem_append_right _ (List.mem_append_left _ (List.mem_of_getElem? (i := 17) (l := tables_1_3) rfl)))))
set_option maxRecDepth 100000 in
theorem ck120 : Cond.code yX11_init cX11_init 3 none ∈ lw_tbl := List.mem_append_right _ (show _ ∈ tables_1 from (List.mem_append_right _ (List.mem_append_right _ (List.mem_append_right _ (List.mem_append_left _ (List.mem_of_getElem? (i := 144) (l := tables_1_4) rfl))))))
set_option maxRecDepth 100000 in
theorem ck121 : Cond.code yX11_fresh cX11_fresh 3 none ∈ lw_tbl := List.mem_append_right _ (show _ ∈ tables_1 from (List.mem_append_right _ (List.mem_append_right _ (List.mem_append_right _ (List.mem_append_left _ (List.mem_of_getElem? (i := 150) (l := tables_1_4) rfl))))))
set_option maxRecDepth 100000 in
theorem ck122 : Cond.code yX11_in cX11_in 6 (some (FieldType.boolean)) ∈ lw_tbl := List.mem_append_right _ (show _ ∈ tables_1 from (List.mem_append_right _ (List.mem_append_right _ (List.mem_append_right _ (List.mem_append_right _ (List.mem_append_left _ (List.mem_of_getElem? (i := 79) (l := tables_1_5) rfl)))))))
set_option maxRecDepth 100000 in
theorem ck123 : Cond.code yX11_whole cX11_whole 2 (some (FieldType.long)) ∈ lw_tbl := List.mem_append_right _ (show _ ∈ tables_1 from (List.mem_append_right _ (List.mem_append_right _ (List.mem_append_right _ (List.mem_append_right _ (List.mem_append_left _ (List.mem_of_getElem? (i := 71) (l := tables_1_5) rfl)))))))
set_option maxRecDepth 100000 in
theorem ck124 : Cond.code yX11_half cX11_half 2 (some (FieldType.int)) ∈ lw_tbl := List.mem_append_right _ (show _ ∈ tables_1 from (List.mem_append_right _ (List.mem_append_right _ (List.mem_append_right _ (List.mem_append_right _ (List.mem_append_left _ (List.mem_of_getElem? (i := 118) (l := tables_1_5) rfl)))))))
set_option maxRecDepth 100000 in
theorem ck125 : Cond.code yX11_key cX11_key 3 (some (FieldType.int)) ∈ lw_tbl := List.mem_append_right _ (show _ ∈ tables_1 from (List.mem_append_right _ (List.mem_append_right _ (List.mem_append_right _ (List.mem_append_right _ (List.mem_append_left _ (List.mem_of_getElem? (i := 68) (l := tables_1_5) rfl)))))))
set_option maxRecDepth 100000 in
theorem ck126 : Cond.code yX11_isOver cX11_isOver 2 (some (FieldType.boolean)) ∈ lw_tbl := List.mem_append_right _ (show _ ∈ tables_1 from (List.mem_append_right _ (List.mem_append_right _ (List.mem_append_right _ (List.mem_append_right _ (List.mem_append_left _ (List.mem_of_getElem? (i := 93) (l := tables_1_5) rfl)))))))
set_option maxRecDepth 100000 in
theorem ck127 : Cond.code yX11_slot cX11_slot 4 (some (FieldType.int)) ∈ lw_tbl := List.mem_append_right _ (show _ ∈ tables_1 from (List.mem_append_right _ (List.mem_append_right _ (List.mem_append_right _ (List.mem_append_right _ (List.mem_append_left _ (List.mem_of_getElem? (i := 85) (l := tables_1_5) rfl)))))))
set_option maxRecDepth 100000 in
theorem ck128 : Cond.code yX11_newSlot cX11_newSlot 5 (some (FieldType.int)) ∈ lw_tbl := List.mem_append_right _ (show _ ∈ tables_1 from (List.mem_append_right _ (List.mem_append_right _ (List.mem_append_right _ (List.mem_append_right _ (List.mem_append_left _ (List.mem_of_getElem? (i := 101) (l := tables_1_5) rfl)))))))
set_option maxRecDepth 100000 in
theorem ck129 : Cond.code yX11_frameOf cX11_frameOf 4 (some (FieldType.int)) ∈ lw_tbl := List.mem_append_right _ (show _ ∈ tables_1 from (List.mem_append_right _ (List.mem_append_right _ (List.mem_append_right _ (List.mem_append_right _ (List.mem_append_left _ (List.mem_of_getElem? (i := 151) (l := tables_1_5) rfl)))))))
set_option maxRecDepth 100000 in
theorem ck130 : Cond.code yX11_placeOf cX11_placeOf 4 (some (FieldType.int)) ∈ lw_tbl := List.mem_append_right _ (show _ ∈ tables_1 from (List.mem_append_right _ (List.mem_append_right _ (List.mem_append_right _ (List.mem_append_right _ (List.mem_append_left _ (List.mem_of_getElem? (i := 139) (l := tables_1_5) rfl)))))))
set_option maxRecDepth 100000 in
theorem ck131 : Cond.code yX11_freePlaces cX11_freePlaces 3 (some (FieldType.int)) ∈ lw_tbl := List.mem_append_right _ (show _ ∈ tables_1 from (List.mem_append_right _ (List.mem_append_right _ (List.mem_append_right _ (List.mem_append_right _ (List.mem_append_left _ (List.mem_of_getElem? (i := 97) (l := tables_1_5) rfl)))))))
set_option maxRecDepth 100000 in
theorem ck132 : Cond.code yX11_blocksBut cX11_blocksBut 4 (some (FieldType.int)) ∈ lw_tbl := List.mem_append_right _ (show _ ∈ tables_1 from (List.mem_append_right _ (List.mem_append_right _ (List.mem_append_right _ (List.mem_append_right _ (List.mem_append_left _ (List.mem_of_getElem? (i := 89) (l := tables_1_5) rfl)))))))
set_option maxRecDepth 100000 in
theorem ck133 : Cond.code yX11_load cX11_load 9 (some (FieldType.int)) ∈ lw_tbl := List.mem_append_right _ (show _ ∈ tables_1 from (List.mem_append_right _ (List.mem_append_right _ (List.mem_append_right _ (List.mem_append_right _ (List.mem_append_left _ (List.mem_of_getElem? (i := 75) (l := tables_1_5) rfl)))))))
set_option maxRecDepth 100000 in
theorem ck134 : Cond.code yX11_put cX11_put 5 none ∈ lw_tbl := List.mem_append_right _ (show _ ∈ tables_1 from (List.mem_append_right _ (List.mem_append_right _ (List.mem_append_right _ (List.mem_append_right _ (List.mem_append_left _ (List.mem_of_getElem? (i := 105) (l := tables_1_5) rfl)))))))
set_option maxRecDepth 100000 in
theorem ck135 : Cond.code yX11_at cX11_at 4 (some (FieldType.long)) ∈ lw_tbl := List.mem_append_right _ (show _ ∈ tables_1 from (List.mem_append_right _ (List.mem_append_right _ (List.mem_append_right _ (List.mem_append_right _ (List.mem_append_left _ (List.mem_of_getElem? (i := 191) (l := tables_1_5) rfl)))))))
set_option maxRecDepth 100000 in
theorem ck136 : Cond.code yX11_tape cX11_tape 3 (some (FieldType.int)) ∈ lw_tbl := List.mem_append_right _ (show _ ∈ tables_1 from (List.mem_append_right _ (List.mem_append_right _ (List.mem_append_right _ (List.mem_append_right _ (List.mem_append_left _ (List.mem_of_getElem? (i := 109) (l := tables_1_5) rfl)))))))
set_option maxRecDepth 100000 in
theorem ck137 : Cond.code yX11_start cX11_start 5 (some (FieldType.boolean)) ∈ lw_tbl := List.mem_append_right _ (show _ ∈ tables_1 from (List.mem_append_right _ (List.mem_append_right _ (List.mem_append_right _ (List.mem_append_right _ (List.mem_append_left _ (List.mem_of_getElem? (i := 113) (l := tables_1_5) rfl)))))))
set_option maxRecDepth 100000 in
theorem ck138 : Cond.code yX11_run cX11_run 3 (some (FieldType.int)) ∈ lw_tbl := List.mem_append_right _ (show _ ∈ tables_1 from (List.mem_append_right _ (List.mem_append_right _ (List.mem_append_right _ (List.mem_append_right _ (List.mem_append_left _ (List.mem_of_getElem? (i := 122) (l := tables_1_5) rfl)))))))
set_option maxRecDepth 100000 in
theorem ck139 : Cond.code yX11_tick cX11_tick 3 none ∈ lw_tbl := List.mem_append_right _ (show _ ∈ tables_1 from (List.mem_append_right _ (List.mem_append_right _ (List.mem_append_right _ (List.mem_append_right _ (List.mem_append_left _ (List.mem_of_getElem? (i := 127) (l := tables_1_5) rfl)))))))
set_option maxRecDepth 100000 in
theorem ck140 : Cond.code yX11_drumTurns cX11_drumTurns 6 none ∈ lw_tbl := List.mem_append_right _ (show _ ∈ tables_1 from (List.mem_append_right _ (List.mem_append_right _ (List.mem_append_right _ (List.mem_append_right _ (List.mem_append_left _ (List.mem_of_getElem? (i := 131) (l := tables_1_5) rfl)))))))
set_option maxRecDepth 100000 in
theorem ck141 : Cond.code yX11_leaves cX11_leaves 3 none ∈ lw_tbl := List.mem_append_right _ (show _ ∈ tables_1 from (List.mem_append_right _ (List.mem_append_right _ (List.mem_append_right _ (List.mem_append_right _ (List.mem_append_left _ (List.mem_of_getElem? (i := 143) (l := tables_1_5) rfl)))))))
set_option maxRecDepth 100000 in
theorem ck142 : Cond.code yX11_comes cX11_comes 2 none ∈ lw_tbl := List.mem_append_right _ (show _ ∈ tables_1 from (List.mem_append_right _ (List.mem_append_right _ (List.mem_append_right _ (List.mem_append_right _ (List.mem_append_left _ (List.mem_of_getElem? (i := 135) (l := tables_1_5) rfl)))))))
set_option maxRecDepth 100000 in
theorem ck143 : Cond.code yX11_emptyFrame cX11_emptyFrame 2 (some (FieldType.int)) ∈ lw_tbl := List.mem_append_right _ (show _ ∈ tables_1 from (List.mem_append_right _ (List.mem_append_right _ (List.mem_append_right _ (List.mem_append_right _ (List.mem_append_left _ (List.mem_of_getElem? (i := 159) (l := tables_1_5) rfl)))))))
set_option maxRecDepth 100000 in
theorem ck144 : Cond.code yX11_queues cX11_queues 3 none ∈ lw_tbl := List.mem_append_right _ (show _ ∈ tables_1 from (List.mem_append_right _ (List.mem_append_right _ (List.mem_append_right _ (List.mem_append_right _ (List.mem_append_left _ (List.mem_of_getElem? (i := 163) (l := tables_1_5) rfl)))))))
set_option maxRecDepth 100000 in
theorem ck145 : Cond.code yX11_bring cX11_bring 3 none ∈ lw_tbl := List.mem_append_right _ (show _ ∈ tables_1 from (List.mem_append_right _ (List.mem_append_right _ (List.mem_append_right _ (List.mem_append_right _ (List.mem_append_left _ (List.mem_of_getElem? (i := 147) (l := tables_1_5) rfl)))))))
set_option maxRecDepth 100000 in
theorem ck146 : Cond.code yX11_ready cX11_ready 2 none ∈ lw_tbl := List.mem_append_right _ (show _ ∈ tables_1 from (List.mem_append_right _ (List.mem_append_right _ (List.mem_append_right _ (List.mem_append_right _ (List.mem_append_left _ (List.mem_of_getElem? (i := 155) (l := tables_1_5) rfl)))))))
set_option maxRecDepth 100000 in
theorem ck147 : Cond.code yX11_choice cX11_choice 7 (some (FieldType.int)) ∈ lw_tbl := List.mem_append_right _ (show _ ∈ tables_1 from (List.mem_append_right _ (List.mem_append_right _ (List.mem_append_right _ (List.mem_append_right _ (List.mem_append_left _ (List.mem_of_getElem? (i := 167) (l := tables_1_5) rfl)))))))
set_option maxRecDepth 100000 in
theorem ck148 : Cond.code yX11_look cX11_look 2 none ∈ lw_tbl := List.mem_append_right _ (show _ ∈ tables_1 from (List.mem_append_right _ (List.mem_append_right _ (List.mem_append_right _ (List.mem_append_right _ (List.mem_append_right _ (List.mem_of_getElem? (i := 13) (l := tables_1_6) rfl)))))))
set_option maxRecDepth 100000 in
theorem ck149 : Cond.code yX11_prints cX11_prints 3 none ∈ lw_tbl := List.mem_append_right _ (show _ ∈ tables_1 from (List.mem_append_right _ (List.mem_append_right _ (List.mem_append_right _ (List.mem_append_right _ (List.mem_append_right _ (List.mem_of_getElem? (i := 17) (l := tables_1_6) rfl)))))))
set_option maxRecDepth 100000 in
theorem ck150 : Cond.code yX11_fails cX11_fails 4 (some (FieldType.boolean)) ∈ lw_tbl := List.mem_append_right _ (show _ ∈ tables_1 from (List.mem_append_right _ (List.mem_append_right _ (List.mem_append_right _ (List.mem_append_right _ (List.mem_append_left _ (List.mem_of_getElem? (i := 175) (l := tables_1_5) rfl)))))))
set_option maxRecDepth 100000 in
theorem ck151 : Cond.code yX11_ends cX11_ends 6 none ∈ lw_tbl := List.mem_append_right _ (show _ ∈ tables_1 from (List.mem_append_right _ (List.mem_append_right _ (List.mem_append_right _ (List.mem_append_right _ (List.mem_append_left _ (List.mem_of_getElem? (i := 179) (l := tables_1_5) rfl)))))))
set_option maxRecDepth 100000 in
theorem ck152 : Cond.code yX11_wants cX11_wants 6 (some (FieldType.int)) ∈ lw_tbl := List.mem_append_right _ (show _ ∈ tables_1 from (List.mem_append_right _ (List.mem_append_right _ (List.mem_append_right _ (List.mem_append_right _ (List.mem_append_left _ (List.mem_of_getElem? (i := 187) (l := tables_1_5) rfl)))))))
set_option maxRecDepth 100000 in
theorem ck153 : Cond.code yX11_isStored cX11_isStored 1 (some (FieldType.boolean)) ∈ lw_tbl := List.mem_append_right _ (show _ ∈ tables_1 from (List.mem_append_right _ (List.mem_append_right _ (List.mem_append_right _ (List.mem_append_right _ (List.mem_append_left _ (List.mem_of_getElem? (i := 199) (l := tables_1_5) rfl)))))))
set_option maxRecDepth 100000 in
theorem ck154 : Cond.code yX11_isKnown cX11_isKnown 1 (some (FieldType.boolean)) ∈ lw_tbl := List.mem_append_right _ (show _ ∈ tables_1 from (List.mem_append_right _ (List.mem_append_right _ (List.mem_append_right _ (List.mem_append_right _ (List.mem_append_left _ (List.mem_of_getElem? (i := 196) (l := tables_1_5) rfl)))))))
set_option maxRecDepth 100000 in
theorem ck155 : Cond.code yX11_reg cX11_reg 3 (some (FieldType.int)) ∈ lw_tbl := List.mem_append_right _ (show _ ∈ tables_1 from (List.mem_append_right _ (List.mem_append_right _ (List.mem_append_right _ (List.mem_append_right _ (List.mem_append_left _ (List.mem_of_getElem? (i := 183) (l := tables_1_5) rfl)))))))
set_option maxRecDepth 100000 in
theorem ck156 : Cond.code yX11_sets cX11_sets 5 none ∈ lw_tbl := List.mem_append_right _ (show _ ∈ tables_1 from (List.mem_append_right _ (List.mem_append_right _ (List.mem_append_right _ (List.mem_append_right _ (List.mem_append_left _ (List.mem_of_getElem? (i := 229) (l := tables_1_5) rfl)))))))
set_option maxRecDepth 100000 in
theorem ck157 : Cond.code yX11_works cX11_works 12 (some (FieldType.boolean)) ∈ lw_tbl := List.mem_append_right _ (show _ ∈ tables_1 from (List.mem_append_right _ (List.mem_append_right _ (List.mem_append_right _ (List.mem_append_right _ (List.mem_append_left _ (List.mem_of_getElem? (i := 171) (l := tables_1_5) rfl)))))))
set_option maxRecDepth 100000 in
theorem ck158 : Cond.code yX11_touches cX11_touches 4 none ∈ lw_tbl := List.mem_append_right _ (show _ ∈ tables_1 from (List.mem_append_right _ (List.mem_append_right _ (List.mem_append_right _ (List.mem_append_right _ (List.mem_append_left _ (List.mem_of_getElem? (i := 221) (l := tables_1_5) rfl)))))))
set_option maxRecDepth 100000 in
theorem ck159 : Cond.code yX11_wrong cX11_wrong 4 (some (FieldType.int)) ∈ lw_tbl := List.mem_append_right _ (show _ ∈ tables_1 from (List.mem_append_right _ (List.mem_append_right _ (List.mem_append_right _ (List.mem_append_right _ (List.mem_append_left _ (List.mem_of_getElem? (i := 217) (l := tables_1_5) rfl)))))))
set_option maxRecDepth 100000 in
theorem ck160 : Cond.code yX11_sign cX11_sign 2 (some (FieldType.int)) ∈ lw_tbl := List.mem_append_right _ (show _ ∈ tables_1 from (List.mem_append_right _ (List.mem_append_right _ (List.mem_append_right _ (List.mem_append_right _ (List.mem_append_left _ (List.mem_of_getElem? (i := 232) (l := tables_1_5) rfl)))))))
set_option maxRecDepth 100000 in
theorem ck161 : Cond.code yX11_registers cX11_registers 10 none ∈ lw_tbl := List.mem_append_right _ (show _ ∈ tables_1 from (List.mem_append_right _ (List.mem_append_right _ (List.mem_append_right _ (List.mem_append_right _ (List.mem_append_left _ (List.mem_of_getElem? (i := 225) (l := tables_1_5) rfl)))))))
set_option maxRecDepth 100000 in
theorem ck162 : Cond.code yX11_is cX11_is 3 (some (FieldType.boolean)) ∈ lw_tbl := List.mem_append_right _ (show _ ∈ tables_1 from (List.mem_append_right _ (List.mem_append_right _ (List.mem_append_right _ (List.mem_append_right _ (List.mem_append_left _ (List.mem_of_getElem? (i := 239) (l := tables_1_5) rfl)))))))
set_option maxRecDepth 100000 in
theorem ck163 : Cond.code yX11_jumps cX11_jumps 9 none ∈ lw_tbl := List.mem_append_right _ (show _ ∈ tables_1 from (List.mem_append_right _ (List.mem_append_right _ (List.mem_append_right _ (List.mem_append_right _ (List.mem_append_left _ (List.mem_of_getElem? (i := 236) (l := tables_1_5) rfl)))))))
set_option maxRecDepth 100000 in
theorem ck164 : Cond.code yX11_sums cX11_sums 8 none ∈ lw_tbl := List.mem_append_right _ (show _ ∈ tables_1 from (List.mem_append_right _ (List.mem_append_right _ (List.mem_append_right _ (List.mem_append_right _ (List.mem_append_right _ (List.mem_of_getElem? (i := 3) (l := tables_1_6) rfl)))))))
set_option maxRecDepth 100000 in
theorem ck165 : Cond.code yX11_extra cX11_extra 10 none ∈ lw_tbl := List.mem_append_right _ (show _ ∈ tables_1 from (List.mem_append_right _ (List.mem_append_right _ (List.mem_append_right _ (List.mem_append_right _ (List.mem_append_right _ (List.mem_of_getElem? (i := 8) (l := tables_1_6) rfl)))))))
set_option maxRecDepth 100000 in
theorem ck166 : Cond.code yX11_job cX11_job 3 (some (FieldType.int)) ∈ lw_tbl := List.mem_append_right _ (show _ ∈ tables_1 from (List.mem_append_right _ (List.mem_append_right _ (List.mem_append_right _ (List.mem_append_right _ (List.mem_append_right _ (List.mem_of_getElem? (i := 21) (l := tables_1_6) rfl)))))))
set_option maxRecDepth 100000 in
theorem ck167 : Cond.code yX11_register cX11_register 3 (some (FieldType.int)) ∈ lw_tbl := List.mem_append_right _ (show _ ∈ tables_1 from (List.mem_append_right _ (List.mem_append_right _ (List.mem_append_right _ (List.mem_append_right _ (List.mem_append_right _ (List.mem_of_getElem? (i := 25) (l := tables_1_6) rfl)))))))
set_option maxRecDepth 100000 in
theorem ck168 : Cond.code yX11_accumulator cX11_accumulator 2 (some (FieldType.long)) ∈ lw_tbl := List.mem_append_right _ (show _ ∈ tables_1 from (List.mem_append_right _ (List.mem_append_right _ (List.mem_append_right _ (List.mem_append_right _ (List.mem_append_right _ (List.mem_of_getElem? (i := 29) (l := tables_1_6) rfl)))))))
set_option maxRecDepth 100000 in
theorem ck169 : Cond.code yX11_word cX11_word 3 (some (FieldType.long)) ∈ lw_tbl := List.mem_append_right _ (show _ ∈ tables_1 from (List.mem_append_right _ (List.mem_append_right _ (List.mem_append_right _ (List.mem_append_right _ (List.mem_append_right _ (List.mem_of_getElem? (i := 33) (l := tables_1_6) rfl)))))))
set_option maxRecDepth 100000 in
theorem ck170 : Cond.code yX11_paper cX11_paper 3 (some (FieldType.long)) ∈ lw_tbl := List.mem_append_right _ (show _ ∈ tables_1 from (List.mem_append_right _ (List.mem_append_right _ (List.mem_append_right _ (List.mem_append_right _ (List.mem_append_right _ (List.mem_of_getElem? (i := 37) (l := tables_1_6) rfl)))))))
set_option maxRecDepth 100000 in
theorem ck171 : Cond.code yX11_frame cX11_frame 3 (some (FieldType.int)) ∈ lw_tbl := List.mem_append_right _ (show _ ∈ tables_1 from (List.mem_append_right _ (List.mem_append_right _ (List.mem_append_right _ (List.mem_append_right _ (List.mem_append_right _ (List.mem_of_getElem? (i := 41) (l := tables_1_6) rfl)))))))
set_option maxRecDepth 100000 in
theorem ck172 : Cond.code yX11_place cX11_place 3 (some (FieldType.int)) ∈ lw_tbl := List.mem_append_right _ (show _ ∈ tables_1 from (List.mem_append_right _ (List.mem_append_right _ (List.mem_append_right _ (List.mem_append_right _ (List.mem_append_right _ (List.mem_of_getElem? (i := 45) (l := tables_1_6) rfl)))))))
set_option maxRecDepth 100000 in
theorem ck173 : Cond.code yX11_drum cX11_drum 2 (some (FieldType.int)) ∈ lw_tbl := List.mem_append_right _ (show _ ∈ tables_1 from (List.mem_append_right _ (List.mem_append_right _ (List.mem_append_right _ (List.mem_append_right _ (List.mem_append_right _ (List.mem_of_getElem? (i := 50) (l := tables_1_6) rfl)))))))
set_option maxRecDepth 100000 in
theorem ck174 : Cond.code yX11_queued cX11_queued 2 (some (FieldType.int)) ∈ lw_tbl := List.mem_append_right _ (show _ ∈ tables_1 from (List.mem_append_right _ (List.mem_append_right _ (List.mem_append_right _ (List.mem_append_right _ (List.mem_append_right _ (List.mem_of_getElem? (i := 54) (l := tables_1_6) rfl)))))))
set_option maxRecDepth 100000 in
theorem ck175 : Cond.code yX11_chosen cX11_chosen 2 (some (FieldType.int)) ∈ lw_tbl := List.mem_append_right _ (show _ ∈ tables_1 from (List.mem_append_right _ (List.mem_append_right _ (List.mem_append_right _ (List.mem_append_right _ (List.mem_append_right _ (List.mem_of_getElem? (i := 58) (l := tables_1_6) rfl)))))))
set_option maxRecDepth 100000 in
theorem ck176 : Cond.code yX11_printed cX11_printed 2 (some (FieldType.long)) ∈ lw_tbl := List.mem_append_right _ (show _ ∈ tables_1 from (List.mem_append_right _ (List.mem_append_right _ (List.mem_append_right _ (List.mem_append_right _ (List.mem_append_right _ (List.mem_of_getElem? (i := 62) (l := tables_1_6) rfl)))))))
set_option maxRecDepth 100000 in
theorem ck177 : Cond.code yX11_clock cX11_clock 2 (some (FieldType.int)) ∈ lw_tbl := List.mem_append_right _ (show _ ∈ tables_1 from (List.mem_append_right _ (List.mem_append_right _ (List.mem_append_right _ (List.mem_append_right _ (List.mem_append_right _ (List.mem_of_getElem? (i := 67) (l := tables_1_6) rfl)))))))
set_option maxRecDepth 100000 in
theorem ck178 : Cond.code yX11_forget cX11_forget 4 (some (FieldType.boolean)) ∈ lw_tbl := List.mem_append_right _ (show _ ∈ tables_1 from (List.mem_append_right _ (List.mem_append_right _ (List.mem_append_right _ (List.mem_append_right _ (List.mem_append_right _ (List.mem_of_getElem? (i := 71) (l := tables_1_6) rfl)))))))
set_option maxRecDepth 100000 in
theorem ck179 : Cond.code yJ13_bitCount_95d88 cJ13_bitCount_95d88 2 (some (FieldType.int)) ∈ lw_tbl := List.mem_append_right _ (show _ ∈ tables_1 from (List.mem_append_right _ (List.mem_append_right _ (List.mem_append_left _ (List.mem_of_getElem? (i := 213) (l := tables_1_3) rfl)))))
set_option maxRecDepth 100000 in
theorem ck180 : Cond.code yJ9_max_7cf53 cJ9_max_7cf53 2 (some (FieldType.int)) ∈ lw_tbl := List.mem_append_right _ (show _ ∈ tables_1 from (List.mem_append_left _ (List.mem_of_getElem? (i := 32) (l := tables_1_1) rfl)))
set_option maxRecDepth 100000 in
theorem ck181 : Cond.code yJ9_min_7cf53 cJ9_min_7cf53 2 (some (FieldType.int)) ∈ lw_tbl := List.mem_append_right _ (show _ ∈ tables_1 from (List.mem_append_left _ (List.mem_of_getElem? (i := 181) (l := tables_1_1) rfl)))
set_option maxRecDepth 100000 in
theorem ck182 : Cond.code yJ7_fill_d0a16 cJ7_fill_d0a16 5 none ∈ lw_tbl := List.mem_append_right _ (show _ ∈ tables_1 from (List.mem_append_right _ (List.mem_append_right _ (List.mem_append_right _ (List.mem_append_left _ (List.mem_of_getElem? (i := 17) (l := tables_1_4) rfl))))))
set_option maxRecDepth 100000 in
theorem ck183 : Cond.code yJ7_fill_53178 cJ7_fill_53178 4 none ∈ lw_tbl := List.mem_append_right _ (show _ ∈ tables_1 from (List.mem_append_right _ (List.mem_append_right _ (List.mem_append_right _ (List.mem_append_left _ (List.mem_of_getElem? (i := 135) (l := tables_1_4) rfl))))))
