theorem fL_ok : ∀ e ∈ fL, e.2.1 < 12 ∧ e.2.2.1 < cF e.2.1 ∧ lw_tbl[e.2.2.2]? = some (.fieldLink (oN e.1.1) e.1.2 (cT e.2.1 e.2.2.1).1 (cT e.2.1 e.2.2.1).2.1 (cT e.2.1 e.2.2.1).2.2.1) := by decide +kernel
def mLp (e : (Nat × Nat) × (Nat × Nat × Nat)) : Cond := if e.2.2.1 = 5 then .methodLink (oN e.1.1) e.1.2 objectInit else if e.2.2.1 = 3 ∨ e.2.2.1 = 4 then .methodLinkNest (oN e.1.1) e.1.2 (yN e.2.1) "OneLevelStore" else .methodLink (oN e.1.1) e.1.2 (yN e.2.1)
theorem mL_ok : ∀ e ∈ mL, lw_tbl[e.2.2.2]? = some (mLp e) ∧ (e.2.2.1 = 7 → yN e.2.1 = Lib.Math.max.name) ∧ (e.2.2.1 = 8 → yN e.2.1 = Lib.Math.min.name) ∧ (e.2.2.1 < 5 → ow e.2.1 ≠ 13) := by decide +kernel
theorem cL_ok : ∀ e ∈ cL, e.2.1 < 12 ∧ lw_tbl[e.2.2]? = some (.classLink (oN e.1.1) e.1.2 (cR e.2.1)) := by decide +kernel
theorem kI_ok : ∀ e ∈ kI, lw_tbl[e.2.2]? = some (.constant (oN e.1.1) e.1.2 e.2.1) := by decide +kernel
theorem kJ_ok : ∀ e ∈ kJ, lw_tbl[e.2.2]? = some (.constantLong (oN e.1.1) e.1.2 e.2.1) := by decide +kernel
theorem sL_ok : ∀ e ∈ sL, 12 ≤ e.2 ∧ e.2 < 55 := by decide +kernel
theorem cp_ok : ∀ c, c < 12 → lw_tbl[((cpL[c]?).getD (0, 0)).1]? = some (.instantiable (cR c) (cF c)) ∧ lw_tbl[((cpL[c]?).getD (0, 0)).2]? = some (.initialized (cR c)) ∧ oN c = cR c ∧ cF c = ((KD[c]?).getD []).length ∧ vwCl[c]?.isSome = true := by decide +kernel
theorem lay_ok : ∀ c, c < 12 → ∀ k, k < cF c → lw_tbl[(((layP[c]?).getD [])[k]?).getD 0]? = some (u_lay (cR c) (cT c) k) := by decide +kernel
def tyF (c k : Nat) : FieldType := ((tyT[c]?).getD (fun _ => .int)) k
theorem ty_ok : ∀ c, c < 12 → ∀ k, k < cF c → parseFieldDescriptor (cT c k).2.2.1 = some (tyF c k) := by decide +kernel
theorem nm_ok : ∀ c, c < 12 → ∀ a, a < cF c → ∀ b, b < cF c → a ≠ b → (cT c a).2.1 ≠ (cT c b).2.1 := by decide +kernel
theorem own_ok : ∀ c, c < 12 → ∀ k, k < cF c → (cT c k).1 = cR c := by decide +kernel
def kty (q : Nat) (t : FieldType) : Bool := match q, t with
  | 0, .int => true
  | 1, .boolean => true
  | 2, .long => true
  | _ + 3, .object _ => true
  | _ + 3, .array _ => true
  | _, _ => false
theorem kd_ok : ∀ c, c < 12 → ∀ k, k < cF c → kty (kd c k) (tyF c k) = true := by decide +kernel
def mpG (mi : Nat) : Nat × Nat × Nat × Nat × Nat := (mpL[mi]?).getD (0, 0, 0, 0, 0)
theorem mt_ok : ∀ mi, mi < 184 → lw_tbl[(mpG mi).2.2.2.2]? = some (.initialized (yN mi).cls) ∧ (yN mi).cls = oN (ow mi) ∧ (ow mi ≠ 13 → plainName (yN mi).cls = true) ∧ ((yN mi).cls ≠ "java/lang/invoke/MethodHandle" ∧ (yN mi).cls ≠ "java/lang/invoke/VarHandle") ∧ (isIni mi = true → rT mi = none) := by decide +kernel
/-- kind 0: virtual, 1 and 3: constructors, 2 and 4: static -/
def kOK (mi k : Nat) : Bool := if k = 0 then decide (lw_tbl[(mpG mi).2.1]? = some (.instanceMethod (yN mi)) ∧ lw_tbl[(mpG mi).2.2.2.1]? = some (.selects (yN mi).cls (yN mi) (yN mi)) ∧ (parseMethodDescriptor (yN mi).desc).map (fun d => d.parameters.length) = some (nP mi - 1) ∧ 0 < nP mi ∧ ow mi < 12) else if k = 1 ∨ k = 3 then decide (lw_tbl[(mpG mi).2.1]? = some (.instanceMethod (yN mi)) ∧ isIni mi = true ∧ (parseMethodDescriptor (yN mi).desc).map (fun d => d.parameters.length) = some (nP mi - 1) ∧ 0 < nP mi) else decide (lw_tbl[(mpG mi).2.2.1]? = some (.static (yN mi)) ∧ (parseMethodDescriptor (yN mi).desc).map (fun d => d.parameters.length) = some (nP mi))
theorem mk_ok : ∀ e ∈ mL, e.2.2.1 < 5 → kOK e.2.1 e.2.2.1 = true := by decide +kernel
theorem arr_ok : lw_tbl[408]? = some (.arrayClass .int) ∧ lw_tbl[106]? = some (.arrayClass .long) := by decide +kernel
def aT (k : Nat) : FieldType := match k with
  | 0 => .int
  | 1 => .long
  | 2 => .object RX2
  | 3 => .object RX4
  | 4 => .object RX6
  | _ => .object RX3
def ai (c : Nat) : Nat := (AT[c - 12]?).getD 0
theorem ai_ok : ∀ c, c < 55 → 12 ≤ c → ai c < 6 ∧ (kd c 0 = 0 → ai c = 0) ∧ (kd c 0 = 2 → ai c = 1) ∧ (3 ≤ kd c 0 → 2 ≤ ai c ∧ aT (ai c) = .object (cR (kd c 0 - 3)) ∧ kd c 0 - 3 < 12) ∧ kd c 0 ≠ 1 := by decide +kernel
