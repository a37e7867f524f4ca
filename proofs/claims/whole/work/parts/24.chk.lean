/-! returns stand where the method's type has them -/
def rfT (t : Option FieldType) : Bool := match t with
  | some (.object _) => true
  | some (.array _) => true
  | _ => false
def okR (mi : Nat) (q : Nat × Instr × Nat) : Bool := match q.2.1 with
  | .areturn => rfT (rT mi)
  | .return_ => decide (rT mi = none)
  | _ => true
theorem okR_all : ∀ mi, mi < 184 → ∀ q ∈ (iT[mi]?).getD [], okR mi q = true := by decide +kernel
theorem ii_okR {mi pc len : Nat} {i : Instr} (hm : mi < 184) (h : ii mi pc = some (i, len)) : okR mi (pc, i, len) = true := okR_all mi hm _ (look_mem h)
