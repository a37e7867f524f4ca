/-! what the tables say, decided by program -/
def layP : List (List Nat) := [[301], [199, 201, 203, 205, 207, 209, 211, 213], [281, 283, 285, 287, 289, 291, 293, 295, 297], [377, 379, 381, 383, 385, 387, 389, 391, 393, 395, 397, 399, 401, 403, 405], [141, 143, 145, 147, 149], [153], [181, 183, 185, 187], [231, 233, 235, 237], [318, 320, 322, 324, 326, 328, 330, 332], [99, 101, 103], [422, 424, 426, 428, 430, 432, 434, 436, 438, 440, 442, 444, 446], [985, 987, 989, 991, 993, 995, 997, 999, 1001, 1003, 1005, 1007, 1009, 1011, 1013, 1015, 1017, 1019, 1021, 1023, 1025, 1027, 1029, 1031, 1033, 1035, 1037, 1039, 1041, 1043, 1045, 1047, 1049, 1051, 1053, 1055, 1057, 1059, 1061, 1063, 1065, 1067, 1069, 1071, 1073, 1075, 1077, 1079, 1081, 1083, 1085]]
def tyT : List (Nat → FieldType) := [tyX0, tyX1, tyX2, tyX3, tyX4, tyX5, tyX6, tyX7, tyX8, tyX9, tyX10, tyX11]
def cC (c : Nat) : vw_C := (vwCl[c]?).getD ("", fun _ => ("", "", "", false), 0)
def cR (c : Nat) : String := (cC c).1
def cT (c : Nat) : u_T := (cC c).2.1
def cF (c : Nat) : Nat := (cC c).2.2
def isIni (mi : Nat) : Bool := (yN mi).name == "<init>"
def okI (mi : Nat) (q : Nat × Instr × Nat) : Bool := decide (decode (bC mi) q.1 = .ok (q.2.1, q.2.2)) && (il q.2.1 == q.2.2 || il q.2.1 == 0) && (match q.2.1 with
  | .putfield x => (match fL.lookup (ow mi, x) with
    | some f => !(cT f.1 f.2.1).2.2.2 || (isIni mi && ow mi == f.1)
    | none => false)
  | _ => true)
theorem dk0 : ∀ q ∈ iL0, okI 0 q = true := by decide +kernel
theorem dk1 : ∀ q ∈ iL1, okI 1 q = true := by decide +kernel
theorem dk2 : ∀ q ∈ iL2, okI 2 q = true := by decide +kernel
theorem dk3 : ∀ q ∈ iL3, okI 3 q = true := by decide +kernel
theorem dk4 : ∀ q ∈ iL4, okI 4 q = true := by decide +kernel
theorem dk5 : ∀ q ∈ iL5, okI 5 q = true := by decide +kernel
theorem dk6 : ∀ q ∈ iL6, okI 6 q = true := by decide +kernel
theorem dk7 : ∀ q ∈ iL7, okI 7 q = true := by decide +kernel
theorem dk8 : ∀ q ∈ iL8, okI 8 q = true := by decide +kernel
theorem dk9 : ∀ q ∈ iL9, okI 9 q = true := by decide +kernel
theorem dk10 : ∀ q ∈ iL10, okI 10 q = true := by decide +kernel
theorem dk11 : ∀ q ∈ iL11, okI 11 q = true := by decide +kernel
theorem dk12 : ∀ q ∈ iL12, okI 12 q = true := by decide +kernel
theorem dk13 : ∀ q ∈ iL13, okI 13 q = true := by decide +kernel
theorem dk14 : ∀ q ∈ iL14, okI 14 q = true := by decide +kernel
theorem dk15 : ∀ q ∈ iL15, okI 15 q = true := by decide +kernel
theorem dk16 : ∀ q ∈ iL16, okI 16 q = true := by decide +kernel
theorem dk17 : ∀ q ∈ iL17, okI 17 q = true := by decide +kernel
theorem dk18 : ∀ q ∈ iL18, okI 18 q = true := by decide +kernel
theorem dk19 : ∀ q ∈ iL19, okI 19 q = true := by decide +kernel
theorem dk20 : ∀ q ∈ iL20, okI 20 q = true := by decide +kernel
theorem dk21 : ∀ q ∈ iL21, okI 21 q = true := by decide +kernel
theorem dk22 : ∀ q ∈ iL22, okI 22 q = true := by decide +kernel
theorem dk23 : ∀ q ∈ iL23, okI 23 q = true := by decide +kernel
theorem dk24 : ∀ q ∈ iL24, okI 24 q = true := by decide +kernel
theorem dk25 : ∀ q ∈ iL25, okI 25 q = true := by decide +kernel
theorem dk26 : ∀ q ∈ iL26, okI 26 q = true := by decide +kernel
theorem dk27 : ∀ q ∈ iL27, okI 27 q = true := by decide +kernel
theorem dk28 : ∀ q ∈ iL28, okI 28 q = true := by decide +kernel
theorem dk29 : ∀ q ∈ iL29, okI 29 q = true := by decide +kernel
theorem dk30 : ∀ q ∈ iL30, okI 30 q = true := by decide +kernel
theorem dk31 : ∀ q ∈ iL31, okI 31 q = true := by decide +kernel
theorem dk32 : ∀ q ∈ iL32, okI 32 q = true := by decide +kernel
theorem dk33 : ∀ q ∈ iL33, okI 33 q = true := by decide +kernel
theorem dk34 : ∀ q ∈ iL34, okI 34 q = true := by decide +kernel
theorem dk35 : ∀ q ∈ iL35, okI 35 q = true := by decide +kernel
theorem dk36 : ∀ q ∈ iL36, okI 36 q = true := by decide +kernel
theorem dk37 : ∀ q ∈ iL37, okI 37 q = true := by decide +kernel
theorem dk38 : ∀ q ∈ iL38, okI 38 q = true := by decide +kernel
theorem dk39 : ∀ q ∈ iL39, okI 39 q = true := by decide +kernel
theorem dk40 : ∀ q ∈ iL40, okI 40 q = true := by decide +kernel
theorem dk41 : ∀ q ∈ iL41, okI 41 q = true := by decide +kernel
theorem dk42 : ∀ q ∈ iL42, okI 42 q = true := by decide +kernel
theorem dk43 : ∀ q ∈ iL43, okI 43 q = true := by decide +kernel
theorem dk44 : ∀ q ∈ iL44, okI 44 q = true := by decide +kernel
theorem dk45 : ∀ q ∈ iL45, okI 45 q = true := by decide +kernel
theorem dk46 : ∀ q ∈ iL46, okI 46 q = true := by decide +kernel
theorem dk47 : ∀ q ∈ iL47, okI 47 q = true := by decide +kernel
theorem dk48 : ∀ q ∈ iL48, okI 48 q = true := by decide +kernel
theorem dk49 : ∀ q ∈ iL49, okI 49 q = true := by decide +kernel
theorem dk50 : ∀ q ∈ iL50, okI 50 q = true := by decide +kernel
theorem dk51 : ∀ q ∈ iL51, okI 51 q = true := by decide +kernel
theorem dk52 : ∀ q ∈ iL52, okI 52 q = true := by decide +kernel
theorem dk53 : ∀ q ∈ iL53, okI 53 q = true := by decide +kernel
theorem dk54 : ∀ q ∈ iL54, okI 54 q = true := by decide +kernel
theorem dk55 : ∀ q ∈ iL55, okI 55 q = true := by decide +kernel
theorem dk56 : ∀ q ∈ iL56, okI 56 q = true := by decide +kernel
theorem dk57 : ∀ q ∈ iL57, okI 57 q = true := by decide +kernel
theorem dk58 : ∀ q ∈ iL58, okI 58 q = true := by decide +kernel
theorem dk59 : ∀ q ∈ iL59, okI 59 q = true := by decide +kernel
theorem dk60 : ∀ q ∈ iL60, okI 60 q = true := by decide +kernel
theorem dk61 : ∀ q ∈ iL61, okI 61 q = true := by decide +kernel
theorem dk62 : ∀ q ∈ iL62, okI 62 q = true := by decide +kernel
theorem dk63 : ∀ q ∈ iL63, okI 63 q = true := by decide +kernel
theorem dk64 : ∀ q ∈ iL64, okI 64 q = true := by decide +kernel
theorem dk65 : ∀ q ∈ iL65, okI 65 q = true := by decide +kernel
theorem dk66 : ∀ q ∈ iL66, okI 66 q = true := by decide +kernel
theorem dk67 : ∀ q ∈ iL67, okI 67 q = true := by decide +kernel
theorem dk68 : ∀ q ∈ iL68, okI 68 q = true := by decide +kernel
theorem dk69 : ∀ q ∈ iL69, okI 69 q = true := by decide +kernel
theorem dk70 : ∀ q ∈ iL70, okI 70 q = true := by decide +kernel
theorem dk71 : ∀ q ∈ iL71, okI 71 q = true := by decide +kernel
theorem dk72 : ∀ q ∈ iL72, okI 72 q = true := by decide +kernel
theorem dk73 : ∀ q ∈ iL73, okI 73 q = true := by decide +kernel
theorem dk74 : ∀ q ∈ iL74, okI 74 q = true := by decide +kernel
theorem dk75 : ∀ q ∈ iL75, okI 75 q = true := by decide +kernel
theorem dk76 : ∀ q ∈ iL76, okI 76 q = true := by decide +kernel
theorem dk77 : ∀ q ∈ iL77, okI 77 q = true := by decide +kernel
theorem dk78 : ∀ q ∈ iL78, okI 78 q = true := by decide +kernel
theorem dk79 : ∀ q ∈ iL79, okI 79 q = true := by decide +kernel
theorem dk80 : ∀ q ∈ iL80, okI 80 q = true := by decide +kernel
theorem dk81 : ∀ q ∈ iL81, okI 81 q = true := by decide +kernel
theorem dk82 : ∀ q ∈ iL82, okI 82 q = true := by decide +kernel
theorem dk83 : ∀ q ∈ iL83, okI 83 q = true := by decide +kernel
theorem dk84 : ∀ q ∈ iL84, okI 84 q = true := by decide +kernel
theorem dk85 : ∀ q ∈ iL85, okI 85 q = true := by decide +kernel
theorem dk86 : ∀ q ∈ iL86, okI 86 q = true := by decide +kernel
theorem dk87 : ∀ q ∈ iL87, okI 87 q = true := by decide +kernel
theorem dk88 : ∀ q ∈ iL88, okI 88 q = true := by decide +kernel
theorem dk89 : ∀ q ∈ iL89, okI 89 q = true := by decide +kernel
theorem dk90 : ∀ q ∈ iL90, okI 90 q = true := by decide +kernel
theorem dk91 : ∀ q ∈ iL91, okI 91 q = true := by decide +kernel
theorem dk92 : ∀ q ∈ iL92, okI 92 q = true := by decide +kernel
theorem dk93 : ∀ q ∈ iL93, okI 93 q = true := by decide +kernel
theorem dk94 : ∀ q ∈ iL94, okI 94 q = true := by decide +kernel
theorem dk95 : ∀ q ∈ iL95, okI 95 q = true := by decide +kernel
theorem dk96 : ∀ q ∈ iL96, okI 96 q = true := by decide +kernel
theorem dk97 : ∀ q ∈ iL97, okI 97 q = true := by decide +kernel
theorem dk98 : ∀ q ∈ iL98, okI 98 q = true := by decide +kernel
theorem dk99 : ∀ q ∈ iL99, okI 99 q = true := by decide +kernel
theorem dk100 : ∀ q ∈ iL100, okI 100 q = true := by decide +kernel
theorem dk101 : ∀ q ∈ iL101, okI 101 q = true := by decide +kernel
theorem dk102 : ∀ q ∈ iL102, okI 102 q = true := by decide +kernel
theorem dk103 : ∀ q ∈ iL103, okI 103 q = true := by decide +kernel
theorem dk104 : ∀ q ∈ iL104, okI 104 q = true := by decide +kernel
theorem dk105 : ∀ q ∈ iL105, okI 105 q = true := by decide +kernel
theorem dk106 : ∀ q ∈ iL106, okI 106 q = true := by decide +kernel
theorem dk107 : ∀ q ∈ iL107, okI 107 q = true := by decide +kernel
theorem dk108 : ∀ q ∈ iL108, okI 108 q = true := by decide +kernel
theorem dk109 : ∀ q ∈ iL109, okI 109 q = true := by decide +kernel
theorem dk110 : ∀ q ∈ iL110, okI 110 q = true := by decide +kernel
theorem dk111 : ∀ q ∈ iL111, okI 111 q = true := by decide +kernel
theorem dk112 : ∀ q ∈ iL112, okI 112 q = true := by decide +kernel
theorem dk113 : ∀ q ∈ iL113, okI 113 q = true := by decide +kernel
theorem dk114 : ∀ q ∈ iL114, okI 114 q = true := by decide +kernel
theorem dk115 : ∀ q ∈ iL115, okI 115 q = true := by decide +kernel
theorem dk116 : ∀ q ∈ iL116, okI 116 q = true := by decide +kernel
theorem dk117 : ∀ q ∈ iL117, okI 117 q = true := by decide +kernel
theorem dk118 : ∀ q ∈ iL118, okI 118 q = true := by decide +kernel
theorem dk119 : ∀ q ∈ iL119, okI 119 q = true := by decide +kernel
theorem dk120 : ∀ q ∈ iL120, okI 120 q = true := by decide +kernel
theorem dk121 : ∀ q ∈ iL121, okI 121 q = true := by decide +kernel
theorem dk122 : ∀ q ∈ iL122, okI 122 q = true := by decide +kernel
theorem dk123 : ∀ q ∈ iL123, okI 123 q = true := by decide +kernel
theorem dk124 : ∀ q ∈ iL124, okI 124 q = true := by decide +kernel
theorem dk125 : ∀ q ∈ iL125, okI 125 q = true := by decide +kernel
theorem dk126 : ∀ q ∈ iL126, okI 126 q = true := by decide +kernel
theorem dk127 : ∀ q ∈ iL127, okI 127 q = true := by decide +kernel
theorem dk128 : ∀ q ∈ iL128, okI 128 q = true := by decide +kernel
theorem dk129 : ∀ q ∈ iL129, okI 129 q = true := by decide +kernel
theorem dk130 : ∀ q ∈ iL130, okI 130 q = true := by decide +kernel
theorem dk131 : ∀ q ∈ iL131, okI 131 q = true := by decide +kernel
theorem dk132 : ∀ q ∈ iL132, okI 132 q = true := by decide +kernel
theorem dk133 : ∀ q ∈ iL133, okI 133 q = true := by decide +kernel
theorem dk134 : ∀ q ∈ iL134, okI 134 q = true := by decide +kernel
theorem dk135 : ∀ q ∈ iL135, okI 135 q = true := by decide +kernel
theorem dk136 : ∀ q ∈ iL136, okI 136 q = true := by decide +kernel
theorem dk137 : ∀ q ∈ iL137, okI 137 q = true := by decide +kernel
theorem dk138 : ∀ q ∈ iL138, okI 138 q = true := by decide +kernel
theorem dk139 : ∀ q ∈ iL139, okI 139 q = true := by decide +kernel
theorem dk140 : ∀ q ∈ iL140, okI 140 q = true := by decide +kernel
theorem dk141 : ∀ q ∈ iL141, okI 141 q = true := by decide +kernel
theorem dk142 : ∀ q ∈ iL142, okI 142 q = true := by decide +kernel
theorem dk143 : ∀ q ∈ iL143, okI 143 q = true := by decide +kernel
theorem dk144 : ∀ q ∈ iL144, okI 144 q = true := by decide +kernel
theorem dk145 : ∀ q ∈ iL145, okI 145 q = true := by decide +kernel
theorem dk146 : ∀ q ∈ iL146, okI 146 q = true := by decide +kernel
theorem dk147 : ∀ q ∈ iL147, okI 147 q = true := by decide +kernel
theorem dk148 : ∀ q ∈ iL148, okI 148 q = true := by decide +kernel
theorem dk149 : ∀ q ∈ iL149, okI 149 q = true := by decide +kernel
theorem dk150 : ∀ q ∈ iL150, okI 150 q = true := by decide +kernel
theorem dk151 : ∀ q ∈ iL151, okI 151 q = true := by decide +kernel
theorem dk152 : ∀ q ∈ iL152, okI 152 q = true := by decide +kernel
theorem dk153 : ∀ q ∈ iL153, okI 153 q = true := by decide +kernel
theorem dk154 : ∀ q ∈ iL154, okI 154 q = true := by decide +kernel
theorem dk155 : ∀ q ∈ iL155, okI 155 q = true := by decide +kernel
theorem dk156 : ∀ q ∈ iL156, okI 156 q = true := by decide +kernel
theorem dk157 : ∀ q ∈ iL157, okI 157 q = true := by decide +kernel
theorem dk158 : ∀ q ∈ iL158, okI 158 q = true := by decide +kernel
theorem dk159 : ∀ q ∈ iL159, okI 159 q = true := by decide +kernel
theorem dk160 : ∀ q ∈ iL160, okI 160 q = true := by decide +kernel
theorem dk161 : ∀ q ∈ iL161, okI 161 q = true := by decide +kernel
theorem dk162 : ∀ q ∈ iL162, okI 162 q = true := by decide +kernel
theorem dk163 : ∀ q ∈ iL163, okI 163 q = true := by decide +kernel
theorem dk164 : ∀ q ∈ iL164, okI 164 q = true := by decide +kernel
theorem dk165 : ∀ q ∈ iL165, okI 165 q = true := by decide +kernel
theorem dk166 : ∀ q ∈ iL166, okI 166 q = true := by decide +kernel
theorem dk167 : ∀ q ∈ iL167, okI 167 q = true := by decide +kernel
theorem dk168 : ∀ q ∈ iL168, okI 168 q = true := by decide +kernel
theorem dk169 : ∀ q ∈ iL169, okI 169 q = true := by decide +kernel
theorem dk170 : ∀ q ∈ iL170, okI 170 q = true := by decide +kernel
theorem dk171 : ∀ q ∈ iL171, okI 171 q = true := by decide +kernel
theorem dk172 : ∀ q ∈ iL172, okI 172 q = true := by decide +kernel
theorem dk173 : ∀ q ∈ iL173, okI 173 q = true := by decide +kernel
theorem dk174 : ∀ q ∈ iL174, okI 174 q = true := by decide +kernel
theorem dk175 : ∀ q ∈ iL175, okI 175 q = true := by decide +kernel
theorem dk176 : ∀ q ∈ iL176, okI 176 q = true := by decide +kernel
theorem dk177 : ∀ q ∈ iL177, okI 177 q = true := by decide +kernel
theorem dk178 : ∀ q ∈ iL178, okI 178 q = true := by decide +kernel
theorem dk179 : ∀ q ∈ iL179, okI 179 q = true := by decide +kernel
theorem dk180 : ∀ q ∈ iL180, okI 180 q = true := by decide +kernel
theorem dk181 : ∀ q ∈ iL181, okI 181 q = true := by decide +kernel
theorem dk182 : ∀ q ∈ iL182, okI 182 q = true := by decide +kernel
theorem dk183 : ∀ q ∈ iL183, okI 183 q = true := by decide +kernel
theorem dkA : ∀ mi, mi < 184 → ∀ q ∈ (iT[mi]?).getD [], okI mi q = true := by
  intro mi h
  match mi, h with
  | 0, _ => exact dk0
  | 1, _ => exact dk1
  | 2, _ => exact dk2
  | 3, _ => exact dk3
  | 4, _ => exact dk4
  | 5, _ => exact dk5
  | 6, _ => exact dk6
  | 7, _ => exact dk7
  | 8, _ => exact dk8
  | 9, _ => exact dk9
  | 10, _ => exact dk10
  | 11, _ => exact dk11
  | 12, _ => exact dk12
  | 13, _ => exact dk13
  | 14, _ => exact dk14
  | 15, _ => exact dk15
  | 16, _ => exact dk16
  | 17, _ => exact dk17
  | 18, _ => exact dk18
  | 19, _ => exact dk19
  | 20, _ => exact dk20
  | 21, _ => exact dk21
  | 22, _ => exact dk22
  | 23, _ => exact dk23
  | 24, _ => exact dk24
  | 25, _ => exact dk25
  | 26, _ => exact dk26
  | 27, _ => exact dk27
  | 28, _ => exact dk28
  | 29, _ => exact dk29
  | 30, _ => exact dk30
  | 31, _ => exact dk31
  | 32, _ => exact dk32
  | 33, _ => exact dk33
  | 34, _ => exact dk34
  | 35, _ => exact dk35
  | 36, _ => exact dk36
  | 37, _ => exact dk37
  | 38, _ => exact dk38
  | 39, _ => exact dk39
  | 40, _ => exact dk40
  | 41, _ => exact dk41
  | 42, _ => exact dk42
  | 43, _ => exact dk43
  | 44, _ => exact dk44
  | 45, _ => exact dk45
  | 46, _ => exact dk46
  | 47, _ => exact dk47
  | 48, _ => exact dk48
  | 49, _ => exact dk49
  | 50, _ => exact dk50
  | 51, _ => exact dk51
  | 52, _ => exact dk52
  | 53, _ => exact dk53
  | 54, _ => exact dk54
  | 55, _ => exact dk55
  | 56, _ => exact dk56
  | 57, _ => exact dk57
  | 58, _ => exact dk58
  | 59, _ => exact dk59
  | 60, _ => exact dk60
  | 61, _ => exact dk61
  | 62, _ => exact dk62
  | 63, _ => exact dk63
  | 64, _ => exact dk64
  | 65, _ => exact dk65
  | 66, _ => exact dk66
  | 67, _ => exact dk67
  | 68, _ => exact dk68
  | 69, _ => exact dk69
  | 70, _ => exact dk70
  | 71, _ => exact dk71
  | 72, _ => exact dk72
  | 73, _ => exact dk73
  | 74, _ => exact dk74
  | 75, _ => exact dk75
  | 76, _ => exact dk76
  | 77, _ => exact dk77
  | 78, _ => exact dk78
  | 79, _ => exact dk79
  | 80, _ => exact dk80
  | 81, _ => exact dk81
  | 82, _ => exact dk82
  | 83, _ => exact dk83
  | 84, _ => exact dk84
  | 85, _ => exact dk85
  | 86, _ => exact dk86
  | 87, _ => exact dk87
  | 88, _ => exact dk88
  | 89, _ => exact dk89
  | 90, _ => exact dk90
  | 91, _ => exact dk91
  | 92, _ => exact dk92
  | 93, _ => exact dk93
  | 94, _ => exact dk94
  | 95, _ => exact dk95
  | 96, _ => exact dk96
  | 97, _ => exact dk97
  | 98, _ => exact dk98
  | 99, _ => exact dk99
  | 100, _ => exact dk100
  | 101, _ => exact dk101
  | 102, _ => exact dk102
  | 103, _ => exact dk103
  | 104, _ => exact dk104
  | 105, _ => exact dk105
  | 106, _ => exact dk106
  | 107, _ => exact dk107
  | 108, _ => exact dk108
  | 109, _ => exact dk109
  | 110, _ => exact dk110
  | 111, _ => exact dk111
  | 112, _ => exact dk112
  | 113, _ => exact dk113
  | 114, _ => exact dk114
  | 115, _ => exact dk115
  | 116, _ => exact dk116
  | 117, _ => exact dk117
  | 118, _ => exact dk118
  | 119, _ => exact dk119
  | 120, _ => exact dk120
  | 121, _ => exact dk121
  | 122, _ => exact dk122
  | 123, _ => exact dk123
  | 124, _ => exact dk124
  | 125, _ => exact dk125
  | 126, _ => exact dk126
  | 127, _ => exact dk127
  | 128, _ => exact dk128
  | 129, _ => exact dk129
  | 130, _ => exact dk130
  | 131, _ => exact dk131
  | 132, _ => exact dk132
  | 133, _ => exact dk133
  | 134, _ => exact dk134
  | 135, _ => exact dk135
  | 136, _ => exact dk136
  | 137, _ => exact dk137
  | 138, _ => exact dk138
  | 139, _ => exact dk139
  | 140, _ => exact dk140
  | 141, _ => exact dk141
  | 142, _ => exact dk142
  | 143, _ => exact dk143
  | 144, _ => exact dk144
  | 145, _ => exact dk145
  | 146, _ => exact dk146
  | 147, _ => exact dk147
  | 148, _ => exact dk148
  | 149, _ => exact dk149
  | 150, _ => exact dk150
  | 151, _ => exact dk151
  | 152, _ => exact dk152
  | 153, _ => exact dk153
  | 154, _ => exact dk154
  | 155, _ => exact dk155
  | 156, _ => exact dk156
  | 157, _ => exact dk157
  | 158, _ => exact dk158
  | 159, _ => exact dk159
  | 160, _ => exact dk160
  | 161, _ => exact dk161
  | 162, _ => exact dk162
  | 163, _ => exact dk163
  | 164, _ => exact dk164
  | 165, _ => exact dk165
  | 166, _ => exact dk166
  | 167, _ => exact dk167
  | 168, _ => exact dk168
  | 169, _ => exact dk169
  | 170, _ => exact dk170
  | 171, _ => exact dk171
  | 172, _ => exact dk172
  | 173, _ => exact dk173
  | 174, _ => exact dk174
  | 175, _ => exact dk175
  | 176, _ => exact dk176
  | 177, _ => exact dk177
  | 178, _ => exact dk178
  | 179, _ => exact dk179
  | 180, _ => exact dk180
  | 181, _ => exact dk181
  | 182, _ => exact dk182
  | 183, _ => exact dk183
  | n + 184, h => exact absurd h (by omega)
theorem look_mem {α β : Type} [BEq α] [LawfulBEq α] {a : α} {b : β} : ∀ {L : List (α × β)}, L.lookup a = some b → (a, b) ∈ L
  | [], h => by simp at h
  | (x, y) :: L, h => by
    rw [List.lookup_cons] at h
    by_cases hx : a == x
    · rw [hx] at h
      simp at h
      rw [eq_of_beq hx, h]
      exact List.mem_cons_self
    · rw [show (a == x) = false by simpa using hx] at h
      exact List.mem_cons_of_mem _ (look_mem h)
theorem ii_ok {mi pc len : Nat} {i : Instr} (hm : mi < 184) (h : ii mi pc = some (i, len)) : okI mi (pc, i, len) = true := dkA mi hm _ (look_mem h)
