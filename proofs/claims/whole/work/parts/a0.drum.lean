/-! the drum turns: a transfer ends -/
/-- the reference's memory behind the end of a transfer of frame f at place p -/
def etR (t : Sg) (f p : Nat) : Sg :=
  sI (if gI t 11 36 0 = 1 then sI (sI (if gI t 11 35 0 = 1 then sI t 11 39 0 (gI t 11 39 0 + 1) else sI t 11 38 0 (gI t 11 38 0 + 1)) 42 f 0 0) 49 p 0 (-1)
    else if gI t 11 35 0 = 1 then sI (sI t 11 39 0 (gI t 11 39 0 + 1)) 42 f 0 0
    else sI (comF (sI t 11 38 0 (gI t 11 38 0 + 1)) f) 49 p 0 (-1)) 11 33 0 (-1)
section Dru1
variable {g : Nat → Nat → Nat} {s t u : Sg} {X : Sg × Option Av} {nf B : Nat} {Q : List Nat} {n : Int32}
theorem r_drum_0 (h : LR t nf) (hm : gI t 11 33 0 < 0) : Rn g 140 0 [some (.inr (.inr (some (11, 0)))), some (.inl n), none, none, none, none] [] t X ↔ Rn g 140 109 [some (.inr (.inr (some (11, 0)))), some (.inl n), none, none, none, none] [] t X := by
  simp [e140_0, e140_1, e140_4, MM, MK, h, hm]
theorem r_drum_1 (h : LR t nf) {f p : Nat} (hm : gI t 11 33 0 = nI f) (hf : f < 16) (hp : gI t 11 34 0 = nI p) (hp2 : p < 64) : Rn g 140 0 [some (.inr (.inr (some (11, 0)))), some (.inl n), none, none, none, none] [] t X ↔ Rn g 140 109 [some (.inr (.inr (some (11, 0)))), some (.inl n), some (.inl (nI f)), none, none, none] [] (etR t f p) X := by
  have h0 : ¬ nI f < 0 := nI_pos (by omega)
  have c1 : LR (sI t 11 38 0 (gI t 11 38 0 + 1)) nf := LR_sI (by omega) h
  have r1 := fun X => r_comes (g := g) (X := X) c1 hf
  have c2 : LR (comF (sI t 11 38 0 (gI t 11 38 0 + 1)) f) nf := LR_sI (by omega) (LR_sI (by omega) (LR_sI (by omega) (LR_sI (by omega) (LR_sI (by omega) c1))))
  have e34 : gI (comF (sI t 11 38 0 (gI t 11 38 0 + 1)) f) 11 34 0 = nI p := hp
  unfold etR
  by_cases a1 : gI t 11 36 0 = 1
  · by_cases a2 : gI t 11 35 0 = 1
    · simp [e140_0, e140_1, e140_4, e140_7, e140_8, e140_11, e140_12, e140_13, e140_16, e140_17, e140_20, e140_21, e140_22, e140_25, e140_26, e140_27, e140_30, e140_33, e140_34, e140_35, e140_38, e140_39, e140_40, e140_43, e140_44, e140_47, e140_48, e140_51, e140_52, e140_55, e140_56, e140_57, e140_58, e140_59, e140_62, e140_63, e140_66, e140_67, e140_68, e140_71, e140_72, e140_75, e140_76, e140_79, e140_80, e140_83, e140_84, e140_85, e140_86, e140_89, e140_90, e140_91, e140_94, e140_95, e140_98, e140_99, e140_102, e140_103, e140_104, e140_105, e140_106, MM, MK, h, hm, h0, a1, a2, inN hf, hp, inN hp2]
    · simp [e140_0, e140_1, e140_4, e140_7, e140_8, e140_11, e140_12, e140_13, e140_16, e140_17, e140_20, e140_21, e140_22, e140_25, e140_26, e140_27, e140_30, e140_33, e140_34, e140_35, e140_38, e140_39, e140_40, e140_43, e140_44, e140_47, e140_48, e140_51, e140_52, e140_55, e140_56, e140_57, e140_58, e140_59, e140_62, e140_63, e140_66, e140_67, e140_68, e140_71, e140_72, e140_75, e140_76, e140_79, e140_80, e140_83, e140_84, e140_85, e140_86, e140_89, e140_90, e140_91, e140_94, e140_95, e140_98, e140_99, e140_102, e140_103, e140_104, e140_105, e140_106, MM, MK, h, hm, h0, a1, a2, inN hf, hp, inN hp2]
  · by_cases a2 : gI t 11 35 0 = 1
    · simp [e140_0, e140_1, e140_4, e140_7, e140_8, e140_11, e140_12, e140_13, e140_16, e140_17, e140_20, e140_21, e140_22, e140_25, e140_26, e140_27, e140_30, e140_33, e140_34, e140_35, e140_38, e140_39, e140_40, e140_43, e140_44, e140_47, e140_48, e140_51, e140_52, e140_55, e140_56, e140_57, e140_58, e140_59, e140_62, e140_63, e140_66, e140_67, e140_68, e140_71, e140_72, e140_75, e140_76, e140_79, e140_80, e140_83, e140_84, e140_85, e140_86, e140_89, e140_90, e140_91, e140_94, e140_95, e140_98, e140_99, e140_102, e140_103, e140_104, e140_105, e140_106, MM, MK, h, hm, h0, a1, a2, inN hf, hp, inN hp2]
    · simp [e140_0, e140_1, e140_4, e140_7, e140_8, e140_11, e140_12, e140_13, e140_16, e140_17, e140_20, e140_21, e140_22, e140_25, e140_26, e140_27, e140_30, e140_33, e140_34, e140_35, e140_38, e140_39, e140_40, e140_43, e140_44, e140_47, e140_48, e140_51, e140_52, e140_55, e140_56, e140_57, e140_58, e140_59, e140_62, e140_63, e140_66, e140_67, e140_68, e140_71, e140_72, e140_75, e140_76, e140_79, e140_80, e140_83, e140_84, e140_85, e140_86, e140_89, e140_90, e140_91, e140_94, e140_95, e140_98, e140_99, e140_102, e140_103, e140_104, e140_105, e140_106, MM, MK, h, c2, hm, h0, a1, a2, inN hf, hp, inN hp2, r1, e34]
end Dru1
