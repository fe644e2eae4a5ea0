/-! RungHouse$House.copyFrom -/
def p_X0_copyFrom_2b  (K2 : Int → Int → Int → St → Option (Int × St)) (o0 : Int) (o1 : Int) (v2 : Int) (σ : St) : Option (Int × St) :=
  if 10 ≤ zm v2 then (nx (su σ o0 1 (σ o1 1)) fun σ31 => nx (su σ31 o0 2 (σ31 o1 2)) fun σ39 => nx (su σ39 o0 3 (σ39 o1 3)) fun σ47 => nx (su σ47 o0 4 (σ47 o1 4)) fun σ55 => nx (su σ55 o0 5 (σ55 o1 5)) fun σ63 => nx (su σ63 o0 6 (σ63 o1 6)) fun σ71 => some (0, σ71)) else (gd (0 ≤ zm v2 ∧ zm v2 < 10) (nx (su σ (o0 + 1) (zm v2) (σ (o1 + 1) (zm v2))) fun σ19 => K2 o0 o1 (v2 + 1) σ19))
def p_X0_copyFrom_2  : Nat → Int → Int → Int → St → Option (Int × St)
  | 0, _, _, _, _ => none
  | n + 1, o0, o1, v2, σ => p_X0_copyFrom_2b  (p_X0_copyFrom_2  n) o0 o1 v2 σ
def p_X0_copyFrom  (o0 : Int) (o1 : Int) (σ : St) : Option (Int × St) :=
  p_X0_copyFrom_2  FU o0 o1 0 σ
/-! RungHouse$House.isKept -/
def p_X0_isKept  (o0 : Int) (v1 : Int) (σ : St) : Option (Int × St) :=
  if zm (zand (zshr (σ o0 2) v1) 1) = 0 then (some (0, σ)) else (some (1, σ))
/-! RungHouse$House.bears -/
def p_X0_bears  (o0 : Int) (v1 : Int) (σ : St) : Option (Int × St) :=
  if zm (σ o0 5) ≤ zm v1 then (some ((σ o0 5), σ)) else (some (v1, σ))
/-! RungHouse$House.rungAfter -/
def p_X0_rungAfter_40  (vs0 : Int) (vs1 : Int) (vs2 : Int) (σ : St) : Option (Int × St) :=
  some ((if zm (vs0 - (vs1 * vs2)) < zm 0 then 0 else (vs0 - (vs1 * vs2))), σ)
def p_X0_rungAfter  (o0 : Int) (v1 : Int) (v2 : Int) (σ : St) : Option (Int × St) :=
  if zm v2 = 0 then (some ((if zm ((σ o0 1) - 1) < zm (v1 + (σ o0 3)) then ((σ o0 1) - 1) else (v1 + (σ o0 3))), σ)) else (Option.bind (p_X0_isKept o0 v1 σ) fun x27 => if zm x27.1 = 0 then (p_X0_rungAfter_40  v1 (σ o0 4) v2 x27.2) else (p_X0_rungAfter_40  v1 (σ o0 4) (v2 - 1) x27.2))
/-! RungHouse$Reader.isLetter -/
def p_X4_isLetter  (v0 : Int) (σ : St) : Option (Int × St) :=
  if zm v0 < 97 then (some (0, σ)) else (if 122 < zm v0 then (some (0, σ)) else (some (1, σ)))
/-! RungHouse$Reader.passLetters -/
def p_X4_passLetters_0b  (K0 : Int → St → Option (Int × St)) (o0 : Int) (σ : St) : Option (Int × St) :=
  if zm (σ o0 1) ≤ zm (σ o0 6) then (some (0, σ)) else (gd (0 ≤ zm (σ o0 6) ∧ zm (σ o0 6) < 300) (Option.bind (p_X4_isLetter (σ (o0 + 1) (zm (σ o0 6))) σ) fun x20 => if zm x20.1 = 0 then (some (0, x20.2)) else (nx (su x20.2 o0 6 ((x20.2 o0 6) + 1)) fun σ33 => K0 o0 σ33)))
def p_X4_passLetters_0  : Nat → Int → St → Option (Int × St)
  | 0, _, _ => none
  | n + 1, o0, σ => p_X4_passLetters_0b  (p_X4_passLetters_0  n) o0 σ
def p_X4_passLetters (o0 : Int) (σ : St) : Option (Int × St) :=
  p_X4_passLetters_0 FU o0 σ
/-! RungHouse$Reader.isFigure -/
def p_X4_isFigure  (v0 : Int) (σ : St) : Option (Int × St) :=
  if zm v0 < 48 then (some (0, σ)) else (if 57 < zm v0 then (some (0, σ)) else (some (1, σ)))
/-! RungHouse$Reader.passFigures -/
def p_X4_passFigures_82 (K10 : Int → St → Option (Int × St)) (o0 : Int) (os0 : Int) (vs1 : Int) (σ : St) : Option (Int × St) :=
  nx (su σ os0 8 vs1) fun σ82 => nx (su σ82 o0 6 ((σ82 o0 6) + 1)) fun σ92 => K10 o0 σ92
def p_X4_passFigures_10b  (K10 : Int → St → Option (Int × St)) (o0 : Int) (σ : St) : Option (Int × St) :=
  if zm (σ o0 1) ≤ zm (σ o0 6) then (some (0, σ)) else (gd (0 ≤ zm (σ o0 6) ∧ zm (σ o0 6) < 300) (Option.bind (p_X4_isFigure (σ (o0 + 1) (zm (σ o0 6))) σ) fun x30 => if zm x30.1 = 0 then (some (0, x30.2)) else (nx (su x30.2 o0 7 ((x30.2 o0 7) + 1)) fun σ43 => if zm (σ43 o0 7) ≤ 3 then (gd (0 ≤ zm (σ43 o0 6) ∧ zm (σ43 o0 6) < 300) (p_X4_passFigures_82 K10 o0 o0 ((((σ43 o0 8) * 10) + (σ43 (o0 + 1) (zm (σ43 o0 6)))) - 48) σ43)) else (p_X4_passFigures_82 K10 o0 o0 (σ43 o0 8) σ43))))
def p_X4_passFigures_10  : Nat → Int → St → Option (Int × St)
  | 0, _, _ => none
  | n + 1, o0, σ => p_X4_passFigures_10b  (p_X4_passFigures_10  n) o0 σ
def p_X4_passFigures  (o0 : Int) (σ : St) : Option (Int × St) :=
  nx (su σ o0 7 0) fun σ2 => nx (su σ2 o0 8 0) fun σ7 => p_X4_passFigures_10  FU o0 σ7
/-! RungHouse$Reader.step -/
def p_X4_step_139  (o0 : Int) (os0 : Int) (vs1 : Int) (σ : St) : Option (Int × St) :=
  nx (su σ os0 4 vs1) fun σ139 => nx (su σ139 o0 6 ((σ139 o0 6) + 1)) fun σ149 => some (0, σ149)
def p_X4_step_38  (o0 : Int) (σ : St) : Option (Int × St) :=
  nx (su σ o0 5 (σ o0 6)) fun σ43 => if zm (σ43 o0 6) < zm (σ43 o0 1) then (gd (0 ≤ zm (σ43 o0 6) ∧ zm (σ43 o0 6) < 300) (Option.bind (p_X4_isLetter (σ43 (o0 + 1) (zm (σ43 o0 6))) σ43) fun x74 => if zm x74.1 = 0 then (gd (0 ≤ zm (x74.2 o0 6) ∧ zm (x74.2 o0 6) < 300) (Option.bind (p_X4_isFigure (x74.2 (o0 + 1) (zm (x74.2 o0 6))) x74.2) fun x101 => if zm x101.1 = 0 then (gd (0 ≤ zm (x101.2 o0 6) ∧ zm (x101.2 o0 6) < 300) (if zm (x101.2 (o0 + 1) (zm (x101.2 o0 6))) = 59 then (p_X4_step_139  o0 o0 3 x101.2) else (p_X4_step_139  o0 o0 4 x101.2))) else (nx (su x101.2 o0 4 2) fun σ109 => Option.bind (p_X4_passFigures o0 σ109) fun x113 => some (0, x113.2)))) else (nx (su x74.2 o0 4 1) fun σ82 => Option.bind (p_X4_passLetters o0 σ82) fun x86 => some (0, x86.2)))) else (nx (su σ43 o0 4 0) fun σ59 => some (0, σ59))
def p_X4_step_0b  (K0 : Int → St → Option (Int × St)) (o0 : Int) (σ : St) : Option (Int × St) :=
  if zm (σ o0 1) ≤ zm (σ o0 6) then (p_X4_step_38  o0 σ) else (gd (0 ≤ zm (σ o0 6) ∧ zm (σ o0 6) < 300) (if zm (σ (o0 + 1) (zm (σ o0 6))) = 32 then (nx (su σ o0 6 ((σ o0 6) + 1)) fun σ32 => K0 o0 σ32) else (p_X4_step_38  o0 σ)))
def p_X4_step_0  : Nat → Int → St → Option (Int × St)
  | 0, _, _ => none
  | n + 1, o0, σ => p_X4_step_0b  (p_X4_step_0  n) o0 σ
def p_X4_step (o0 : Int) (σ : St) : Option (Int × St) :=
  p_X4_step_0 FU o0 σ
/-! RungHouse$Reader.open -/
def p_X4_open  (o0 : Int) (σ : St) : Option (Int × St) :=
  nx (su σ o0 2 0) fun σ2 => nx (su σ2 o0 3 (-1)) fun σ7 => nx (su σ7 o0 6 0) fun σ12 => Option.bind (p_X4_step o0 σ12) fun x16 => some (0, x16.2)
/-! RungHouse$Reader.goesOn -/
def p_X4_goesOn  (o0 : Int) (σ : St) : Option (Int × St) :=
  if zm (σ o0 2) = 0 then (if zm (σ o0 4) = 0 then (some (0, σ)) else (some (1, σ))) else (some (0, σ))
/-! RungHouse$Reader.isWord -/
def p_X4_isWord_28b  (K28 : Int → Nat → Int → St → Option (Int × St)) (o0 : Int) (w1 : Nat) (v2 : Int) (σ : St) : Option (Int × St) :=
  if zm (slen w1) ≤ zm v2 then (some (1, σ)) else (gd (0 ≤ zm ((σ o0 5) + v2) ∧ zm ((σ o0 5) + v2) < 300) (gd (0 ≤ zm v2 ∧ zm v2 < slen w1) (if zm (σ (o0 + 1) (zm ((σ o0 5) + v2))) = zm (sch w1 (zm v2)) then (K28 o0 w1 (v2 + 1) σ) else (some (0, σ)))))
def p_X4_isWord_28  : Nat → Int → Nat → Int → St → Option (Int × St)
  | 0, _, _, _, _ => none
  | n + 1, o0, w1, v2, σ => p_X4_isWord_28b  (p_X4_isWord_28  n) o0 w1 v2 σ
def p_X4_isWord  (o0 : Int) (w1 : Nat) (σ : St) : Option (Int × St) :=
  if zm (σ o0 4) = 1 then (if zm ((σ o0 6) - (σ o0 5)) = zm (slen w1) then (p_X4_isWord_28  FU o0 w1 0 σ) else (some (0, σ))) else (some (0, σ))
/-! RungHouse$Reader.fail -/
def p_X4_fail  (o0 : Int) (v1 : Int) (v2 : Int) (σ : St) : Option (Int × St) :=
  if zm (σ o0 2) = 0 then (nx (su σ o0 2 v1) fun σ9 => nx (su σ9 o0 3 v2) fun σ14 => some (0, σ14)) else (some (0, σ))
/-! RungHouse.isOut -/
def p_X7_isOut_10   (σ : St) : Option (Int × St) :=
  some (1, σ)
def p_X7_isOut  (v0 : Int) (v1 : Int) (v2 : Int) (σ : St) : Option (Int × St) :=
  if zm v0 < zm v1 then (p_X7_isOut_10   σ) else (if zm v0 ≤ zm v2 then (some (0, σ)) else (p_X7_isOut_10   σ))
/-! RungHouse$Reader.number -/
def p_X4_number_49  (o0 : Int) (v1 : Int) (σ : St) : Option (Int × St) :=
  if zm (σ o0 2) = 0 then (Option.bind (p_X4_step o0 σ) fun x64 => some ((σ o0 8), x64.2)) else (some (v1, σ))
def p_X4_number_40  (o0 : Int) (v1 : Int) (σ : St) : Option (Int × St) :=
  Option.bind (p_X4_fail o0 2 (σ o0 5) σ) fun x46 => p_X4_number_49  o0 v1 x46.2
def p_X4_number  (o0 : Int) (v1 : Int) (v2 : Int) (σ : St) : Option (Int × St) :=
  if zm (σ o0 4) = 2 then (if 3 < zm (σ o0 7) then (p_X4_number_40  o0 v1 σ) else (Option.bind (p_X7_isOut (σ o0 8) v1 v2 σ) fun x34 => if zm x34.1 = 0 then (p_X4_number_49  o0 v1 x34.2) else (p_X4_number_40  o0 v1 x34.2))) else (Option.bind (p_X4_fail o0 1 (σ o0 5) σ) fun x14 => p_X4_number_49  o0 v1 x14.2)
/-! RungHouse$Reader.closeClause -/
def p_X4_closeClause_17  (o0 : Int) (σ : St) : Option (Int × St) :=
  if zm (σ o0 2) = 0 then (Option.bind (p_X4_step o0 σ) fun x25 => some (0, x25.2)) else (some (0, σ))
def p_X4_closeClause  (o0 : Int) (σ : St) : Option (Int × St) :=
  if zm (σ o0 4) = 3 then (p_X4_closeClause_17  o0 σ) else (Option.bind (p_X4_fail o0 1 (σ o0 5) σ) fun x14 => p_X4_closeClause_17  o0 x14.2)
/-! RungHouse$House.readRung -/
def p_X0_readRung_68  (o0 : Int) (o1 : Int) (σ : St) : Option (Int × St) :=
  Option.bind (p_X4_closeClause o1 σ) fun x69 => nx (su x69.2 o0 1 ((x69.2 o0 1) + 1)) fun σ79 => some (0, σ79)
def p_X0_readRung  (o0 : Int) (o1 : Int) (σ : St) : Option (Int × St) :=
  if zm (σ o0 1) < 10 then (Option.bind (p_X4_step o1 σ) fun x20 => Option.bind (p_X4_number o1 0 999 x20.2) fun x36 => gd (0 ≤ zm (x20.2 o0 1) ∧ zm (x20.2 o0 1) < 10) (nx (su x36.2 (o0 + 1) (zm (x20.2 o0 1)) x36.1) fun σ39 => Option.bind (p_X4_isWord o1 1 σ39) fun x43 => if zm x43.1 = 0 then (p_X0_readRung_68  o0 o1 x43.2) else (nx (su x43.2 o0 2 (zor (x43.2 o0 2) (zshl 1 (x43.2 o0 1)))) fun σ61 => Option.bind (p_X4_step o1 σ61) fun x65 => p_X0_readRung_68  o0 o1 x65.2))) else (Option.bind (p_X4_fail o1 3 (σ o1 5) σ) fun x15 => some (0, x15.2))
/-! RungHouse$House.stepTold -/
def p_X0_stepTold  (o0 : Int) (σ : St) : Option (Int × St) :=
  Option.bind (p_X4_isWord o0 2 σ) fun x3 => if zm x3.1 = 0 then (Option.bind (p_X4_isWord o0 3 x3.2) fun x14 => if zm x14.1 = 0 then (Option.bind (p_X4_isWord o0 4 x14.2) fun x25 => if zm x25.1 = 0 then (Option.bind (p_X4_isWord o0 5 x25.2) fun x36 => if zm x36.1 = 0 then (some ((-1), x36.2)) else (some (3, x36.2))) else (some (2, x25.2))) else (some (1, x14.2))) else (some (0, x3.2))
/-! RungHouse$House.setStep -/
def p_X0_setStep  (o0 : Int) (v1 : Int) (v2 : Int) (σ : St) : Option (Int × St) :=
  if zm v1 = 0 then (nx (su σ o0 3 v2) fun σ30 => some (0, σ30)) else if zm v1 = 1 then (nx (su σ o0 4 v2) fun σ38 => some (0, σ38)) else if zm v1 = 2 then (nx (su σ o0 5 v2) fun σ46 => some (0, σ46)) else (nx (su σ o0 6 v2) fun σ54 => some (0, σ54))
/-! RungHouse$House.readStep -/
def p_X0_readStep_71  (o0 : Int) (o1 : Int) (v2 : Int) (v3 : Int) (os0 : Int) (vs1 : Int) (vs2 : Int) (σ : St) : Option (Int × St) :=
  Option.bind (p_X4_number os0 vs1 vs2 σ) fun x71 => Option.bind (p_X4_closeClause o1 x71.2) fun x77 => Option.bind (p_X0_setStep o0 v3 x71.1 x77.2) fun x84 => some ((zor v2 (zshl 1 v3)), x84.2)
def p_X0_readStep_59  (o0 : Int) (o1 : Int) (v2 : Int) (v3 : Int) (os0 : Int) (vs1 : Int) (σ : St) : Option (Int × St) :=
  if zm v3 = 2 then (p_X0_readStep_71  o0 o1 v2 v3 os0 vs1 99 σ) else (p_X0_readStep_71  o0 o1 v2 v3 os0 vs1 9 σ)
def p_X0_readStep_54  (o0 : Int) (o1 : Int) (v2 : Int) (v3 : Int) (os0 : Int) (σ : St) : Option (Int × St) :=
  p_X0_readStep_59  o0 o1 v2 v3 os0 1 σ
def p_X0_readStep  (o0 : Int) (o1 : Int) (v2 : Int) (σ : St) : Option (Int × St) :=
  Option.bind (p_X0_stepTold o1 σ) fun x1 => if zm x1.1 = (-1) then (Option.bind (p_X4_fail o1 1 (x1.2 o1 5) x1.2) fun x16 => some (v2, x16.2)) else (if zm (zand (zshr v2 x1.1) 1) = 0 then (Option.bind (p_X4_step o1 x1.2) fun x41 => if zm x1.1 = 0 then (p_X0_readStep_54  o0 o1 v2 x1.1 o1 x41.2) else (if zm x1.1 = 1 then (p_X0_readStep_54  o0 o1 v2 x1.1 o1 x41.2) else (p_X0_readStep_59  o0 o1 v2 x1.1 o1 0 x41.2))) else (Option.bind (p_X4_fail o1 3 (x1.2 o1 5) x1.2) fun x35 => some (v2, x35.2)))
/-! RungHouse$House.readFrom -/
def p_X0_readFrom_100  (o1 : Int) (σ : St) : Option (Int × St) :=
  Option.bind (p_X4_fail o1 5 (σ o1 1) σ) fun x106 => some (0, x106.2)
def p_X0_readFrom_82  (o0 : Int) (o1 : Int) (σ : St) : Option (Int × St) :=
  if zm (σ o0 1) = 0 then (p_X0_readFrom_100  o1 σ) else (if zm (σ o0 6) < zm (σ o0 1) then (some (0, σ)) else (p_X0_readFrom_100  o1 σ))
def p_X0_readFrom_76 (K38 : Int → Int → Int → Int → St → Option (Int × St)) (o0 : Int) (o1 : Int) (v2 : Int) (v3 : Int) (σ : St) : Option (Int × St) :=
  K38 o0 o1 v2 (v3 + 1) σ
def p_X0_readFrom_38b  (K38 : Int → Int → Int → Int → St → Option (Int × St)) (o0 : Int) (o1 : Int) (v2 : Int) (v3 : Int) (σ : St) : Option (Int × St) :=
  if 300 ≤ zm v3 then (p_X0_readFrom_82  o0 o1 σ) else (Option.bind (p_X4_goesOn o1 σ) fun x46 => if zm x46.1 = 0 then (p_X0_readFrom_82  o0 o1 x46.2) else (Option.bind (p_X4_isWord o1 0 x46.2) fun x55 => if zm x55.1 = 0 then (Option.bind (p_X0_readStep o0 o1 v2 x55.2) fun x72 => p_X0_readFrom_76 K38 o0 o1 x72.1 v3 x72.2) else (Option.bind (p_X0_readRung o0 o1 x55.2) fun x63 => p_X0_readFrom_76 K38 o0 o1 v2 v3 x63.2)))
def p_X0_readFrom_38  : Nat → Int → Int → Int → Int → St → Option (Int × St)
  | 0, _, _, _, _, _ => none
  | n + 1, o0, o1, v2, v3, σ => p_X0_readFrom_38b  (p_X0_readFrom_38  n) o0 o1 v2 v3 σ
def p_X0_readFrom  (o0 : Int) (o1 : Int) (σ : St) : Option (Int × St) :=
  nx (su σ o0 1 0) fun σ2 => nx (su σ2 o0 2 0) fun σ7 => nx (su σ7 o0 3 1) fun σ12 => nx (su σ12 o0 4 3) fun σ17 => nx (su σ17 o0 5 0) fun σ22 => nx (su σ22 o0 6 0) fun σ27 => Option.bind (p_X4_open o1 σ27) fun x33 => p_X0_readFrom_38  FU o0 o1 0 0 x33.2
/-! RungHouse$Plan.isPained -/
def p_X3_isPained  (o0 : Int) (v1 : Int) (v2 : Int) (σ : St) : Option (Int × St) :=
  gd (0 ≤ zm v1 ∧ zm v1 < 31) (if zm (zand (zshr (σ (o0 + 2) (zm v1)) v2) 1) = 0 then (some (0, σ)) else (some (1, σ)))
/-! RungHouse$Sort.chance -/
def p_X6_chance  (o0 : Int) (v1 : Int) (v2 : Int) (σ : St) : Option (Int × St) :=
  if zm v2 = 0 then (gd (0 ≤ zm v1 ∧ zm v1 < 8) (some ((σ (o0 + 2) (zm v1)), σ))) else (gd (0 ≤ zm v1 ∧ zm v1 < 8) (some ((σ (o0 + 3) (zm v1)), σ)))
/-! RungHouse$Plan.sumScrapes -/
def p_X3_sumScrapes_41b  (K41 : Int → Int → Int → St → Option (Int × St)) (o0 : Int) (v1 : Int) (v2 : Int) (σ : St) : Option (Int × St) :=
  if zm v2 < 0 then (some (0, σ)) else (gd (kX (σ o0 0) = (6, 0)) (Option.bind (p_X6_chance (σ o0 0) v2 v1 σ) fun x51 => gd (kX (x51.2 o0 0) = (6, 0)) (gd (0 ≤ zm v2 ∧ zm v2 < 8) (gd (kX (x51.2 o0 1) = (0, 0)) (Option.bind (p_X0_bears (x51.2 o0 1) (x51.2 ((x51.2 o0 0) + 1) (zm v2)) x51.2) fun x77 => nx (su x77.2 (o0 + 5) (zm v2) (((x51.2 ((x51.2 o0 0) + 1) (zm v2)) - x77.1) * 1000)) fun σ94 => gd (0 ≤ zm (v2 + 1) ∧ zm (v2 + 1) < 9) (gd (0 ≤ zm v2 ∧ zm v2 < 9) (nx (su σ94 (o0 + 6) (zm v2) ((σ94 (o0 + 6) (zm (v2 + 1))) + x51.1)) fun σ110 => nx (su σ110 (o0 + 7) (zm v2) ((σ110 (o0 + 7) (zm (v2 + 1))) + (x51.1 * ((x51.2 ((x51.2 o0 0) + 1) (zm v2)) - x77.1)))) fun σ129 => gd (kX (σ129 o0 0) = (6, 0)) (nx (su σ129 o0 11 ((σ129 o0 11) + (x51.1 * (σ129 ((σ129 o0 0) + 1) (zm v2))))) fun σ147 => K41 o0 v1 (v2 + (-1)) σ147))))))))
def p_X3_sumScrapes_41  : Nat → Int → Int → Int → St → Option (Int × St)
  | 0, _, _, _, _ => none
  | n + 1, o0, v1, v2, σ => p_X3_sumScrapes_41b  (p_X3_sumScrapes_41  n) o0 v1 v2 σ
def p_X3_sumScrapes  (o0 : Int) (v1 : Int) (σ : St) : Option (Int × St) :=
  nx (su σ o0 11 0) fun σ2 => gd (kX (σ2 o0 0) = (6, 0)) (gd (0 ≤ zm (σ2 (σ2 o0 0) 3) ∧ zm (σ2 (σ2 o0 0) 3) < 9) (nx (su σ2 (o0 + 6) (zm (σ2 (σ2 o0 0) 3)) 0) fun σ17 => gd (kX (σ17 o0 0) = (6, 0)) (gd (0 ≤ zm (σ17 (σ17 o0 0) 3) ∧ zm (σ17 (σ17 o0 0) 3) < 9) (nx (su σ17 (o0 + 7) (zm (σ17 (σ17 o0 0) 3)) 0) fun σ30 => gd (kX (σ30 o0 0) = (6, 0)) (p_X3_sumScrapes_41  FU o0 v1 ((σ30 (σ30 o0 0) 3) - 1) σ30)))))
/-! RungHouse$Plan.costsLater -/
def p_X3_costsLater  (o0 : Int) (v1 : Int) (v2 : Int) (σ : St) : Option (Int × St) :=
  if 3 ≤ zm v2 then (some (0, σ)) else (gd (0 ≤ zm ((((v1 + 1) * 4) + v2) + 1) ∧ zm ((((v1 + 1) * 4) + v2) + 1) < 52) (gd (0 ≤ zm (((v1 + 1) * 4) + v2) ∧ zm (((v1 + 1) * 4) + v2) < 52) (some (((σ (o0 + 3) (zm ((((v1 + 1) * 4) + v2) + 1))) - (σ (o0 + 3) (zm (((v1 + 1) * 4) + v2)))), σ))))
/-! RungHouse$Rule.barOn -/
def p_X5_barOn_69 (K2 : Int → Int → Int → Int → St → Option (Int × St)) (o0 : Int) (v1 : Int) (v2 : Int) (v3 : Int) (σ : St) : Option (Int × St) :=
  K2 o0 v1 v2 (v3 + 1) σ
def p_X5_barOn_35 (K2 : Int → Int → Int → Int → St → Option (Int × St)) (o0 : Int) (v1 : Int) (v2 : Int) (v3 : Int) (vs0 : Int) (σ : St) : Option (Int × St) :=
  if zm vs0 = 0 then (p_X5_barOn_69 K2 o0 v1 v2 v3 σ) else (gd (0 ≤ zm v3 ∧ zm v3 < 6) (if zm v2 < zm (σ (o0 + 4) (zm v3)) then (p_X5_barOn_69 K2 o0 v1 v2 v3 σ) else (if zm (σ (o0 + 5) (zm v3)) < zm v2 then (p_X5_barOn_69 K2 o0 v1 v2 v3 σ) else (some ((σ (o0 + 1) (zm v3)), σ)))))
def p_X5_barOn_34 (K2 : Int → Int → Int → Int → St → Option (Int × St)) (o0 : Int) (v1 : Int) (v2 : Int) (v3 : Int) (σ : St) : Option (Int × St) :=
  p_X5_barOn_35 K2 o0 v1 v2 v3 0 σ
def p_X5_barOn_2b  (K2 : Int → Int → Int → Int → St → Option (Int × St)) (o0 : Int) (v1 : Int) (v2 : Int) (v3 : Int) (σ : St) : Option (Int × St) :=
  if zm (σ o0 5) ≤ zm v3 then (some (0, σ)) else (gd (0 ≤ zm v3 ∧ zm v3 < 6) (if zm v1 < zm (σ (o0 + 2) (zm v3)) then (p_X5_barOn_34 K2 o0 v1 v2 v3 σ) else (if zm (σ (o0 + 3) (zm v3)) < zm v1 then (p_X5_barOn_34 K2 o0 v1 v2 v3 σ) else (p_X5_barOn_35 K2 o0 v1 v2 v3 1 σ))))
def p_X5_barOn_2  : Nat → Int → Int → Int → Int → St → Option (Int × St)
  | 0, _, _, _, _, _ => none
  | n + 1, o0, v1, v2, v3, σ => p_X5_barOn_2b  (p_X5_barOn_2  n) o0 v1 v2 v3 σ
def p_X5_barOn  (o0 : Int) (v1 : Int) (v2 : Int) (σ : St) : Option (Int × St) :=
  p_X5_barOn_2  FU o0 v1 v2 0 σ
/-! RungHouse$Plan.inside -/
def p_X3_inside  (o0 : Int) (v1 : Int) (v2 : Int) (σ : St) : Option (Int × St) :=
  gd (0 ≤ zm ((v1 * 4) + v2) ∧ zm ((v1 * 4) + v2) < 52) (some ((σ (o0 + 3) (zm ((v1 * 4) + v2))), σ))
/-! RungHouse$Plan.reckonMonth -/
def p_X3_reckonMonth_93  (o0 : Int) (v1 : Int) (v2 : Int) (v3 : Int) (v4 : Int) (σ : St) : Option (Int × St) :=
  gd (0 ≤ zm ((v1 * 4) + v2) ∧ zm ((v1 * 4) + v2) < 48) (nx (su σ (o0 + 4) (zm ((v1 * 4) + v2)) v4) fun σ104 => Option.bind (p_X3_inside o0 (v1 + 1) v2 σ104) fun x110 => gd (0 ≤ zm v4 ∧ zm v4 < 9) (nz ((((zm x110.1) + (zm (x110.2 o0 11))) - (zm (x110.2 (o0 + 7) (zm v4))))) fun z129 => gd (0 ≤ zm ((v1 * 4) + v2) ∧ zm ((v1 * 4) + v2) < 52) (nx (su x110.2 (o0 + 3) (zm ((v1 * 4) + v2)) ((zl ((z129 * 1000) + ((zm (x110.2 (o0 + 6) (zm v4))) * (zm v3)))).tdiv 1000)) fun σ163 => some (0, σ163))))
def p_X3_reckonMonth_60b  (K60 : Int → Int → Int → Int → Int → Int → St → Option (Int × St)) (o0 : Int) (v1 : Int) (v2 : Int) (v3 : Int) (v4 : Int) (v5 : Int) (σ : St) : Option (Int × St) :=
  gd (kX (σ o0 0) = (6, 0)) (if zm (σ (σ o0 0) 3) ≤ zm v4 then (p_X3_reckonMonth_93  o0 v1 v2 v3 v4 σ) else (gd (0 ≤ zm v4 ∧ zm v4 < 8) (if zm v5 ≤ zm (σ ((σ o0 0) + 1) (zm v4)) then (p_X3_reckonMonth_93  o0 v1 v2 v3 v4 σ) else (K60 o0 v1 v2 v3 (v4 + 1) v5 σ))))
def p_X3_reckonMonth_60  : Nat → Int → Int → Int → Int → Int → Int → St → Option (Int × St)
  | 0, _, _, _, _, _, _, _ => none
  | n + 1, o0, v1, v2, v3, v4, v5, σ => p_X3_reckonMonth_60b  (p_X3_reckonMonth_60  n) o0 v1 v2 v3 v4 v5 σ
def p_X3_reckonMonth_17b  (K17 : Int → Int → Int → Int → Int → St → Option (Int × St)) (o0 : Int) (v1 : Int) (v2 : Int) (v3 : Int) (v4 : Int) (σ : St) : Option (Int × St) :=
  gd (kX (σ o0 0) = (6, 0)) (if zm (σ (σ o0 0) 3) ≤ zm v4 then (p_X3_reckonMonth_93  o0 v1 v2 v3 v4 σ) else (gd (0 ≤ zm v4 ∧ zm v4 < 8) (if zm v3 < zm (σ (o0 + 5) (zm v4)) then (p_X3_reckonMonth_93  o0 v1 v2 v3 v4 σ) else (K17 o0 v1 v2 v3 (v4 + 1) σ))))
def p_X3_reckonMonth_17  : Nat → Int → Int → Int → Int → Int → St → Option (Int × St)
  | 0, _, _, _, _, _, _ => none
  | n + 1, o0, v1, v2, v3, v4, σ => p_X3_reckonMonth_17b  (p_X3_reckonMonth_17  n) o0 v1 v2 v3 v4 σ
def p_X3_reckonMonth  (o0 : Int) (v1 : Int) (v2 : Int) (σ : St) : Option (Int × St) :=
  Option.bind (p_X3_costsLater o0 v1 v2 σ) fun x3 => if (x3.2 o0 2) < 0 then (p_X3_reckonMonth_17  FU o0 v1 v2 x3.1 0 x3.2) else (gd (kX (x3.2 o0 2) = (5, 0)) (Option.bind (p_X5_barOn (x3.2 o0 2) (x3.2 o0 12) v1 x3.2) fun x55 => p_X3_reckonMonth_60  FU o0 v1 v2 x3.1 0 x55.1 x55.2))
/-! RungHouse$Plan.openYear -/
def p_X3_openYear_87b (K79 : Int → Int → St → Option (Int × St)) (K87 : Int → Int → Int → St → Option (Int × St)) (o0 : Int) (v4 : Int) (v5 : Int) (σ : St) : Option (Int × St) :=
  if 4 ≤ zm v5 then (K79 o0 (v4 + (-1)) σ) else (Option.bind (p_X3_reckonMonth o0 v4 v5 σ) fun x98 => K87 o0 v4 (v5 + 1) x98.2)
def p_X3_openYear_87 (K79 : Int → Int → St → Option (Int × St)) : Nat → Int → Int → Int → St → Option (Int × St)
  | 0, _, _, _, _ => none
  | n + 1, o0, v4, v5, σ => p_X3_openYear_87b K79 (p_X3_openYear_87 K79 n) o0 v4 v5 σ
def p_X3_openYear_79b  (K79 : Int → Int → St → Option (Int × St)) (o0 : Int) (v4 : Int) (σ : St) : Option (Int × St) :=
  if zm v4 < 0 then (some (0, σ)) else (p_X3_openYear_87 K79 FU o0 v4 0 σ)
def p_X3_openYear_79  : Nat → Int → Int → St → Option (Int × St)
  | 0, _, _, _ => none
  | n + 1, o0, v4, σ => p_X3_openYear_79b  (p_X3_openYear_79  n) o0 v4 σ
def p_X3_openYear_31b  (K31 : Int → Int → Int → Int → St → Option (Int × St)) (o0 : Int) (v1 : Int) (v2 : Int) (v4 : Int) (σ : St) : Option (Int × St) :=
  if 4 ≤ zm v4 then (p_X3_openYear_79  FU o0 11 σ) else (gd (kX (σ o0 1) = (0, 0)) (Option.bind (p_X0_rungAfter (σ o0 1) v2 v4 σ) fun x63 => gd (0 ≤ zm (((v1 - 1) * 10) + x63.1) ∧ zm (((v1 - 1) * 10) + x63.1) < 310) (gd (0 ≤ zm (48 + v4) ∧ zm (48 + v4) < 52) (nx (su x63.2 (o0 + 3) (zm (48 + v4)) (x63.2 (o0 + 1) (zm (((v1 - 1) * 10) + x63.1)))) fun σ68 => K31 o0 v1 v2 (v4 + 1) σ68))))
def p_X3_openYear_31  : Nat → Int → Int → Int → Int → St → Option (Int × St)
  | 0, _, _, _, _, _ => none
  | n + 1, o0, v1, v2, v4, σ => p_X3_openYear_31b  (p_X3_openYear_31  n) o0 v1 v2 v4 σ
def p_X3_openYear_25  (o0 : Int) (v1 : Int) (v2 : Int) (os0 : Int) (vs1 : Int) (σ : St) : Option (Int × St) :=
  Option.bind (p_X3_sumScrapes os0 vs1 σ) fun x25 => p_X3_openYear_31  FU o0 v1 v2 0 x25.2
def p_X3_openYear_24  (o0 : Int) (v1 : Int) (v2 : Int) (os0 : Int) (σ : St) : Option (Int × St) :=
  p_X3_openYear_25  o0 v1 v2 os0 0 σ
def p_X3_openYear  (o0 : Int) (v1 : Int) (v2 : Int) (v3 : Int) (σ : St) : Option (Int × St) :=
  nx (su σ o0 12 v2) fun σ2 => if zm v3 = 0 then (p_X3_openYear_24  o0 v1 v2 o0 σ2) else (gd (kX (σ2 o0 0) = (6, 0)) (if zm (σ2 (σ2 o0 0) 5) = 0 then (p_X3_openYear_24  o0 v1 v2 o0 σ2) else (p_X3_openYear_25  o0 v1 v2 o0 1 σ2)))
/-! RungHouse$Plan.houseBears -/
def p_X3_houseBears  (o0 : Int) (v1 : Int) (v2 : Int) (σ : St) : Option (Int × St) :=
  gd (0 ≤ zm ((v1 * 4) + v2) ∧ zm ((v1 * 4) + v2) < 48) (gd (0 ≤ zm (σ (o0 + 4) (zm ((v1 * 4) + v2))) ∧ zm (σ (o0 + 4) (zm ((v1 * 4) + v2))) < 9) (some ((σ (o0 + 7) (zm (σ (o0 + 4) (zm ((v1 * 4) + v2))))), σ)))
/-! RungHouse$Plan.chanceAsked -/
def p_X3_chanceAsked  (o0 : Int) (v1 : Int) (v2 : Int) (σ : St) : Option (Int × St) :=
  gd (0 ≤ zm ((v1 * 4) + v2) ∧ zm ((v1 * 4) + v2) < 48) (gd (0 ≤ zm (σ (o0 + 4) (zm ((v1 * 4) + v2))) ∧ zm (σ (o0 + 4) (zm ((v1 * 4) + v2))) < 9) (some ((σ (o0 + 6) (zm (σ (o0 + 4) (zm ((v1 * 4) + v2))))), σ)))
/-! RungHouse.oneMore -/
def p_X7_oneMore  (v0 : Int) (σ : St) : Option (Int × St) :=
  if 3 ≤ zm v0 then (some (3, σ)) else (some ((v0 + 1), σ))
/-! RungHouse$LongRun.passMonth -/
def p_X1_passMonth_5b  (K5 : Int → Int → Int → Int → Int → St → Option (Int × St)) (o0 : Int) (o1 : Int) (v2 : Int) (v3 : Int) (v4 : Int) (σ : St) : Option (Int × St) :=
  if zm v4 < 0 then (some (v3, σ)) else (gd (0 ≤ zm v4 ∧ zm v4 < 4) (Option.bind (p_X3_houseBears o1 v2 v4 σ) fun x23 => nz ((v3 + ((zl ((zm (σ (o0 + 5) (zm v4))) * (zm x23.1))).tdiv 1000000))) fun z34 => Option.bind (p_X3_chanceAsked o1 v2 v4 x23.2) fun x47 => nz (((zl ((zm (x23.2 (o0 + 5) (zm v4))) * (zm x47.1))).tdiv 1000)) fun z57 => nx (su x47.2 (o0 + 5) (zm v4) ((x47.2 (o0 + 5) (zm v4)) - z57)) fun σ70 => Option.bind (p_X7_oneMore v4 σ70) fun x77 => gd (0 ≤ zm x77.1 ∧ zm x77.1 < 4) (nx (su x77.2 (o0 + 5) (zm x77.1) ((x77.2 (o0 + 5) (zm x77.1)) + z57)) fun σ85 => K5 o0 o1 v2 z34 (v4 + (-1)) σ85)))
def p_X1_passMonth_5  : Nat → Int → Int → Int → Int → Int → St → Option (Int × St)
  | 0, _, _, _, _, _, _ => none
  | n + 1, o0, o1, v2, v3, v4, σ => p_X1_passMonth_5b  (p_X1_passMonth_5  n) o0 o1 v2 v3 v4 σ
def p_X1_passMonth  (o0 : Int) (o1 : Int) (v2 : Int) (σ : St) : Option (Int × St) :=
  p_X1_passMonth_5  FU o0 o1 v2 0 3 σ
/-! RungHouse$LongRun.reckonRung -/
def p_X1_reckonRung_104b  (K104 : Int → Int → Int → St → Option (Int × St)) (o0 : Int) (v3 : Int) (v4 : Int) (σ : St) : Option (Int × St) :=
  if 4 ≤ zm v4 then (some (0, σ)) else (gd (0 ≤ zm v4 ∧ zm v4 < 4) (gd (0 ≤ zm ((v3 * 4) + v4) ∧ zm ((v3 * 4) + v4) < 40) (nx (su σ (o0 + 3) (zm ((v3 * 4) + v4)) (σ (o0 + 5) (zm v4))) fun σ127 => K104 o0 v3 (v4 + 1) σ127)))
def p_X1_reckonRung_104  : Nat → Int → Int → Int → St → Option (Int × St)
  | 0, _, _, _, _ => none
  | n + 1, o0, v3, v4, σ => p_X1_reckonRung_104b  (p_X1_reckonRung_104  n) o0 v3 v4 σ
def p_X1_reckonRung_72b  (K72 : Int → Int → Int → Int → St → Option (Int × St)) (o0 : Int) (o1 : Int) (v3 : Int) (v4 : Int) (σ : St) : Option (Int × St) :=
  if 12 ≤ zm v4 then (p_X1_reckonRung_104  FU o0 v3 0 σ) else (gd (0 ≤ zm v3 ∧ zm v3 < 10) (Option.bind (p_X1_passMonth o0 o1 v4 σ) fun x90 => nx (su x90.2 (o0 + 4) (zm v3) ((σ (o0 + 4) (zm v3)) + x90.1)) fun σ94 => K72 o0 o1 v3 (v4 + 1) σ94))
def p_X1_reckonRung_72  : Nat → Int → Int → Int → Int → St → Option (Int × St)
  | 0, _, _, _, _, _ => none
  | n + 1, o0, o1, v3, v4, σ => p_X1_reckonRung_72b  (p_X1_reckonRung_72  n) o0 o1 v3 v4 σ
def p_X1_reckonRung_55 (K32 : Int → Int → Int → Int → St → Option (Int × St)) (o0 : Int) (o1 : Int) (v3 : Int) (v4 : Int) (os0 : Int) (vs1 : Int) (vs2 : Int) (σ : St) : Option (Int × St) :=
  gd (0 ≤ zm vs1 ∧ zm vs1 < 4) (nx (su σ os0 (zm vs1) vs2) fun σ55 => K32 o0 o1 v3 (v4 + 1) σ55)
def p_X1_reckonRung_32b  (K32 : Int → Int → Int → Int → St → Option (Int × St)) (o0 : Int) (o1 : Int) (v3 : Int) (v4 : Int) (σ : St) : Option (Int × St) :=
  if 4 ≤ zm v4 then (gd (0 ≤ zm v3 ∧ zm v3 < 10) (nx (su σ (o0 + 4) (zm v3) 0) fun σ68 => p_X1_reckonRung_72  FU o0 o1 v3 0 σ68)) else (if zm v4 = 0 then (p_X1_reckonRung_55 K32 o0 o1 v3 v4 (o0 + 5) v4 1000000 σ) else (p_X1_reckonRung_55 K32 o0 o1 v3 v4 (o0 + 5) v4 0 σ))
def p_X1_reckonRung_32  : Nat → Int → Int → Int → Int → St → Option (Int × St)
  | 0, _, _, _, _, _ => none
  | n + 1, o0, o1, v3, v4, σ => p_X1_reckonRung_32b  (p_X1_reckonRung_32  n) o0 o1 v3 v4 σ
def p_X1_reckonRung_29  (o0 : Int) (o1 : Int) (v3 : Int) (σ : St) : Option (Int × St) :=
  p_X1_reckonRung_32  FU o0 o1 v3 0 σ
def p_X1_reckonRung  (o0 : Int) (o1 : Int) (v2 : Int) (v3 : Int) (σ : St) : Option (Int × St) :=
  if (σ o1 2) < 0 then (Option.bind (p_X3_isPained o1 v2 v3 σ) fun x13 => Option.bind (p_X3_openYear o1 v2 v3 x13.1 x13.2) fun x16 => p_X1_reckonRung_29  o0 o1 v3 x16.2) else (Option.bind (p_X3_openYear o1 1 v3 0 σ) fun x26 => p_X1_reckonRung_29  o0 o1 v3 x26.2)
/-! RungHouse$LongRun.reckon -/
def p_X1_reckon_23b  (K23 : Int → Int → Int → Int → St → Option (Int × St)) (o0 : Int) (o1 : Int) (v2 : Int) (v3 : Int) (σ : St) : Option (Int × St) :=
  gd (kX (σ o1 1) = (0, 0)) (if zm (σ (σ o1 1) 1) ≤ zm v3 then (some (0, σ)) else (Option.bind (p_X1_reckonRung o0 o1 v2 v3 σ) fun x38 => K23 o0 o1 v2 (v3 + 1) x38.2))
def p_X1_reckon_23  : Nat → Int → Int → Int → Int → St → Option (Int × St)
  | 0, _, _, _, _, _ => none
  | n + 1, o0, o1, v2, v3, σ => p_X1_reckon_23b  (p_X1_reckon_23  n) o0 o1 v2 v3 σ
def p_X1_reckon_2b  (K2 : Int → Int → Int → Int → St → Option (Int × St)) (o0 : Int) (o1 : Int) (v2 : Int) (v3 : Int) (σ : St) : Option (Int × St) :=
  if 10 ≤ zm v3 then (p_X1_reckon_23  FU o0 o1 v2 0 σ) else (gd (0 ≤ zm v3 ∧ zm v3 < 10) (nx (su σ (o0 + 4) (zm v3) 0) fun σ14 => K2 o0 o1 v2 (v3 + 1) σ14))
def p_X1_reckon_2  : Nat → Int → Int → Int → Int → St → Option (Int × St)
  | 0, _, _, _, _, _ => none
  | n + 1, o0, o1, v2, v3, σ => p_X1_reckon_2b  (p_X1_reckon_2  n) o0 o1 v2 v3 σ
def p_X1_reckon  (o0 : Int) (o1 : Int) (v2 : Int) (σ : St) : Option (Int × St) :=
  p_X1_reckon_2  FU o0 o1 v2 0 σ
/-! RungHouse$LongRun.oddsOf -/
def p_X1_oddsOf  (o0 : Int) (v1 : Int) (v2 : Int) (σ : St) : Option (Int × St) :=
  gd (0 ≤ zm ((v1 * 4) + v2) ∧ zm ((v1 * 4) + v2) < 40) (some ((σ (o0 + 3) (zm ((v1 * 4) + v2))), σ))
/-! RungHouse$LongRun.passYear -/
def p_X1_passYear_112b  (K112 : Int → Int → St → Option (Int × St)) (o0 : Int) (v3 : Int) (σ : St) : Option (Int × St) :=
  if 10 ≤ zm v3 then (some (0, σ)) else (gd (0 ≤ zm v3 ∧ zm v3 < 10) (nx (su σ (o0 + 1) (zm v3) (σ (o0 + 2) (zm v3))) fun σ129 => K112 o0 (v3 + 1) σ129))
def p_X1_passYear_112  : Nat → Int → Int → St → Option (Int × St)
  | 0, _, _, _ => none
  | n + 1, o0, v3, σ => p_X1_passYear_112b  (p_X1_passYear_112  n) o0 v3 σ
def p_X1_passYear_37b (K26 : Int → Int → Int → Int → St → Option (Int × St)) (K37 : Int → Int → Int → Int → Int → St → Option (Int × St)) (o0 : Int) (o1 : Int) (v2 : Int) (v3 : Int) (v4 : Int) (σ : St) : Option (Int × St) :=
  if 4 ≤ zm v4 then (K26 o0 o1 v2 (v3 + 1) σ) else (gd (0 ≤ zm v3 ∧ zm v3 < 10) (Option.bind (p_X1_oddsOf o0 v3 v4 σ) fun x54 => nz (((zl ((zm (σ (o0 + 1) (zm v3))) * (zm x54.1))).tdiv 1000000)) fun z64 => Option.bind (p_X0_rungAfter o1 v3 v4 x54.2) fun x74 => gd (0 ≤ zm x74.1 ∧ zm x74.1 < 10) (nx (su x74.2 (o0 + 2) (zm x74.1) ((x74.2 (o0 + 2) (zm x74.1)) + z64)) fun σ82 => K37 o0 o1 (v2 - z64) v3 (v4 + 1) σ82)))
def p_X1_passYear_37 (K26 : Int → Int → Int → Int → St → Option (Int × St)) : Nat → Int → Int → Int → Int → Int → St → Option (Int × St)
  | 0, _, _, _, _, _, _ => none
  | n + 1, o0, o1, v2, v3, v4, σ => p_X1_passYear_37b K26 (p_X1_passYear_37 K26 n) o0 o1 v2 v3 v4 σ
def p_X1_passYear_26b  (K26 : Int → Int → Int → Int → St → Option (Int × St)) (o0 : Int) (o1 : Int) (v2 : Int) (v3 : Int) (σ : St) : Option (Int × St) :=
  if zm (σ o1 1) ≤ zm v3 then (nx (su σ (o0 + 2) 0 ((σ (o0 + 2) 0) + v2)) fun σ109 => p_X1_passYear_112  FU o0 0 σ109) else (p_X1_passYear_37 K26 FU o0 o1 v2 v3 0 σ)
def p_X1_passYear_26  : Nat → Int → Int → Int → Int → St → Option (Int × St)
  | 0, _, _, _, _, _ => none
  | n + 1, o0, o1, v2, v3, σ => p_X1_passYear_26b  (p_X1_passYear_26  n) o0 o1 v2 v3 σ
def p_X1_passYear_2b  (K2 : Int → Int → Int → St → Option (Int × St)) (o0 : Int) (o1 : Int) (v2 : Int) (σ : St) : Option (Int × St) :=
  if 10 ≤ zm v2 then (p_X1_passYear_26  FU o0 o1 1000000 0 σ) else (gd (0 ≤ zm v2 ∧ zm v2 < 10) (nx (su σ (o0 + 2) (zm v2) 0) fun σ14 => K2 o0 o1 (v2 + 1) σ14))
def p_X1_passYear_2  : Nat → Int → Int → Int → St → Option (Int × St)
  | 0, _, _, _, _ => none
  | n + 1, o0, o1, v2, σ => p_X1_passYear_2b  (p_X1_passYear_2  n) o0 o1 v2 σ
def p_X1_passYear  (o0 : Int) (o1 : Int) (σ : St) : Option (Int × St) :=
  p_X1_passYear_2  FU o0 o1 0 σ
/-! RungHouse$LongRun.goTo -/
def p_X1_goTo_36b  (K36 : Int → Int → Int → Int → St → Option (Int × St)) (o0 : Int) (o1 : Int) (v2 : Int) (v3 : Int) (σ : St) : Option (Int × St) :=
  if zm v2 ≤ zm v3 then (some (0, σ)) else (Option.bind (p_X1_passYear o0 o1 σ) fun x43 => K36 o0 o1 v2 (v3 + 1) x43.2)
def p_X1_goTo_36  : Nat → Int → Int → Int → Int → St → Option (Int × St)
  | 0, _, _, _, _, _ => none
  | n + 1, o0, o1, v2, v3, σ => p_X1_goTo_36b  (p_X1_goTo_36  n) o0 o1 v2 v3 σ
def p_X1_goTo_27 (K2 : Int → Int → Int → Int → St → Option (Int × St)) (o0 : Int) (o1 : Int) (v2 : Int) (v3 : Int) (os0 : Int) (vs1 : Int) (vs2 : Int) (σ : St) : Option (Int × St) :=
  gd (0 ≤ zm vs1 ∧ zm vs1 < 10) (nx (su σ os0 (zm vs1) vs2) fun σ27 => K2 o0 o1 v2 (v3 + 1) σ27)
def p_X1_goTo_2b  (K2 : Int → Int → Int → Int → St → Option (Int × St)) (o0 : Int) (o1 : Int) (v2 : Int) (v3 : Int) (σ : St) : Option (Int × St) :=
  if 10 ≤ zm v3 then (p_X1_goTo_36  FU o0 o1 v2 0 σ) else (if zm v3 = zm (σ o1 6) then (p_X1_goTo_27 K2 o0 o1 v2 v3 (o0 + 1) v3 1000000 σ) else (p_X1_goTo_27 K2 o0 o1 v2 v3 (o0 + 1) v3 0 σ))
def p_X1_goTo_2  : Nat → Int → Int → Int → Int → St → Option (Int × St)
  | 0, _, _, _, _, _ => none
  | n + 1, o0, o1, v2, v3, σ => p_X1_goTo_2b  (p_X1_goTo_2  n) o0 o1 v2 v3 σ
def p_X1_goTo  (o0 : Int) (o1 : Int) (v2 : Int) (σ : St) : Option (Int × St) :=
  p_X1_goTo_2  FU o0 o1 v2 0 σ
/-! RungHouse$LongRun.paid -/
def p_X1_paid_4b  (K4 : Int → Int → Int → Int → St → Option (Int × St)) (o0 : Int) (o1 : Int) (v2 : Int) (v3 : Int) (σ : St) : Option (Int × St) :=
  if zm (σ o1 1) ≤ zm v3 then (some (v2, σ)) else (gd (0 ≤ zm v3 ∧ zm v3 < 10) (nz ((v2 + ((zl ((zm (σ (o0 + 1) (zm v3))) * (zm (σ (o1 + 1) (zm v3))))).tdiv 1000))) fun z34 => K4 o0 o1 z34 (v3 + 1) σ))
def p_X1_paid_4  : Nat → Int → Int → Int → Int → St → Option (Int × St)
  | 0, _, _, _, _, _ => none
  | n + 1, o0, o1, v2, v3, σ => p_X1_paid_4b  (p_X1_paid_4  n) o0 o1 v2 v3 σ
def p_X1_paid  (o0 : Int) (o1 : Int) (σ : St) : Option (Int × St) :=
  p_X1_paid_4  FU o0 o1 0 0 σ
/-! RungHouse$LongRun.askedFor -/
def p_X1_askedFor_4b  (K4 : Int → Int → Int → St → Option (Int × St)) (o0 : Int) (v1 : Int) (v2 : Int) (σ : St) : Option (Int × St) :=
  if 10 ≤ zm v2 then (some (v1, σ)) else (gd (0 ≤ zm v2 ∧ zm v2 < 10) (nz ((v1 + ((zl ((zm (σ (o0 + 1) (zm v2))) * (zm (σ (o0 + 4) (zm v2))))).tdiv 1000000))) fun z32 => K4 o0 z32 (v2 + 1) σ))
def p_X1_askedFor_4  : Nat → Int → Int → Int → St → Option (Int × St)
  | 0, _, _, _, _ => none
  | n + 1, o0, v1, v2, σ => p_X1_askedFor_4b  (p_X1_askedFor_4  n) o0 v1 v2 σ
def p_X1_askedFor  (o0 : Int) (σ : St) : Option (Int × St) :=
  p_X1_askedFor_4  FU o0 0 0 σ
/-! RungHouse$Memory.rises -/
def p_X2_rises_31   (σ : St) : Option (Int × St) :=
  some (1, σ)
def p_X2_rises  (o0 : Int) (v1 : Int) (σ : St) : Option (Int × St) :=
  if zm (σ o0 3) = 0 then (p_X2_rises_31   σ) else (if 12 ≤ zm (σ o0 3) then (some (0, σ)) else (gd (0 ≤ zm ((σ o0 3) - 1) ∧ zm ((σ o0 3) - 1) < 12) (if zm v1 ≤ zm (σ (o0 + 1) (zm ((σ o0 3) - 1))) then (some (0, σ)) else (p_X2_rises_31   σ))))
/-! RungHouse$Memory.addScrape -/
def p_X2_addScrape  (o0 : Int) (v1 : Int) (v2 : Int) (v3 : Int) (σ : St) : Option (Int × St) :=
  if 12 ≤ zm (σ o0 3) then (some (0, σ)) else (gd (0 ≤ zm (σ o0 3) ∧ zm (σ o0 3) < 12) (nx (su σ (o0 + 1) (zm (σ o0 3)) v1) fun σ18 => gd (0 ≤ zm (σ18 o0 3) ∧ zm (σ18 o0 3) < 12) (nx (su σ18 (o0 + 2) (zm (σ18 o0 3)) v2) fun σ28 => gd (0 ≤ zm (σ28 o0 3) ∧ zm (σ28 o0 3) < 12) (gd (v3 = 0 ∨ v3 = 1) (nx (su σ28 (o0 + 3) (zm (σ28 o0 3)) v3) fun σ38 => nx (su σ38 o0 3 ((σ38 o0 3) + 1)) fun σ46 => some (0, σ46))))))
/-! RungHouse$Memory.addYear -/
def p_X2_addYear  (o0 : Int) (v1 : Int) (v2 : Int) (σ : St) : Option (Int × St) :=
  if 8 ≤ zm (σ o0 6) then (some (0, σ)) else (gd (0 ≤ zm (σ o0 6) ∧ zm (σ o0 6) < 8) (nx (su σ (o0 + 4) (zm (σ o0 6)) v1) fun σ18 => gd (0 ≤ zm (σ18 o0 6) ∧ zm (σ18 o0 6) < 8) (nx (su σ18 (o0 + 5) (zm (σ18 o0 6)) v2) fun σ28 => nx (su σ28 o0 6 ((σ28 o0 6) + 1)) fun σ36 => some (0, σ36))))
/-! RungHouse$Memory.highestRung -/
def p_X2_highestRung_4b  (K4 : Int → Int → Int → St → Option (Int × St)) (o0 : Int) (v1 : Int) (v2 : Int) (σ : St) : Option (Int × St) :=
  if zm (σ o0 6) ≤ zm v2 then (some (v1, σ)) else (gd (0 ≤ zm v2 ∧ zm v2 < 8) (nz ((if zm v1 < zm (σ (o0 + 4) (zm v2)) then (σ (o0 + 4) (zm v2)) else v1)) fun z22 => K4 o0 z22 (v2 + 1) σ))
def p_X2_highestRung_4  : Nat → Int → Int → Int → St → Option (Int × St)
  | 0, _, _, _, _ => none
  | n + 1, o0, v1, v2, σ => p_X2_highestRung_4b  (p_X2_highestRung_4  n) o0 v1 v2 σ
def p_X2_highestRung  (o0 : Int) (σ : St) : Option (Int × St) :=
  p_X2_highestRung_4  FU o0 (-1) 0 σ
/-! RungHouse$Memory.draw -/
def p_X2_draw  (o0 : Int) (v1 : Int) (σ : St) : Option (Int × St) :=
  nx (su σ o0 7 (zland (((zm (σ o0 7)) * 1103515245) + 12345) 2147483647)) fun σ19 => if zm v1 ≤ 0 then (some (0, σ19)) else (gd (¬ zm v1 = 0) (some (((zm ((zm (σ19 o0 7)).tdiv 65536)).tmod (zm v1)), σ19)))
/-! RungHouse$Memory.copyFrom -/
def p_X2_copyFrom_60b  (K60 : Int → Int → Int → St → Option (Int × St)) (o0 : Int) (o1 : Int) (v2 : Int) (σ : St) : Option (Int × St) :=
  if 8 ≤ zm v2 then (nx (su σ o0 6 (σ o1 6)) fun σ101 => nx (su σ101 o0 7 (σ101 o1 7)) fun σ109 => some (0, σ109)) else (gd (0 ≤ zm v2 ∧ zm v2 < 8) (nx (su σ (o0 + 4) (zm v2) (σ (o1 + 4) (zm v2))) fun σ77 => nx (su σ77 (o0 + 5) (zm v2) (σ77 (o1 + 5) (zm v2))) fun σ89 => K60 o0 o1 (v2 + 1) σ89))
def p_X2_copyFrom_60  : Nat → Int → Int → Int → St → Option (Int × St)
  | 0, _, _, _, _ => none
  | n + 1, o0, o1, v2, σ => p_X2_copyFrom_60b  (p_X2_copyFrom_60  n) o0 o1 v2 σ
def p_X2_copyFrom_2b  (K2 : Int → Int → Int → St → Option (Int × St)) (o0 : Int) (o1 : Int) (v2 : Int) (σ : St) : Option (Int × St) :=
  if 12 ≤ zm v2 then (nx (su σ o0 3 (σ o1 3)) fun σ55 => p_X2_copyFrom_60  FU o0 o1 0 σ55) else (gd (0 ≤ zm v2 ∧ zm v2 < 12) (nx (su σ (o0 + 1) (zm v2) (σ (o1 + 1) (zm v2))) fun σ19 => nx (su σ19 (o0 + 2) (zm v2) (σ19 (o1 + 2) (zm v2))) fun σ31 => gd ((σ31 (o1 + 3) (zm v2)) = 0 ∨ (σ31 (o1 + 3) (zm v2)) = 1) (nx (su σ31 (o0 + 3) (zm v2) (σ31 (o1 + 3) (zm v2))) fun σ43 => K2 o0 o1 (v2 + 1) σ43)))
def p_X2_copyFrom_2  : Nat → Int → Int → Int → St → Option (Int × St)
  | 0, _, _, _, _ => none
  | n + 1, o0, o1, v2, σ => p_X2_copyFrom_2b  (p_X2_copyFrom_2  n) o0 o1 v2 σ
def p_X2_copyFrom  (o0 : Int) (o1 : Int) (σ : St) : Option (Int × St) :=
  p_X2_copyFrom_2  FU o0 o1 0 σ
/-! RungHouse$Plan.begin -/
def p_X3_begin  (o0 : Int) (o1 : Int) (o2 : Int) (n3 : Int) (σ : St) : Option (Int × St) :=
  nx (su σ o0 0 o1) fun σ2 => nx (su σ2 o0 1 o2) fun σ7 => nx (su σ7 o0 2 n3) fun σ12 => nx (su σ12 o0 5 0) fun σ17 => some (0, σ17)
/-! RungHouse$Plan.forget -/
def p_X3_forget  (o0 : Int) (σ : St) : Option (Int × St) :=
  nx (su σ o0 5 0) fun σ2 => some (0, σ2)
/-! RungHouse$Plan.reckonCost -/
def p_X3_reckonCost_141  (os0 : Int) (vs1 : Int) (vs2 : Int) (vs3 : Int) (σ : St) : Option (Int × St) :=
  gd (0 ≤ zm vs1 ∧ zm vs1 < 31) (nx (su σ os0 (zm vs1) (zor vs2 vs3)) fun σ142 => some (0, σ142))
def p_X3_reckonCost_86  (o0 : Int) (v1 : Int) (v2 : Int) (v3 : Int) (v4 : Int) (σ : St) : Option (Int × St) :=
  gd (kX (σ o0 1) = (0, 0)) (gd (0 ≤ zm v2 ∧ zm v2 < 10) (gd (0 ≤ zm ((v1 * 10) + v2) ∧ zm ((v1 * 10) + v2) < 310) (nx (su σ (o0 + 1) (zm ((v1 * 10) + v2)) (((σ ((σ o0 1) + 1) (zm v2)) * 1000) + v3)) fun σ111 => gd (0 ≤ zm v1 ∧ zm v1 < 31) (if zm v4 = 0 then (p_X3_reckonCost_141  (o0 + 2) v1 (zand (σ111 (o0 + 2) (zm v1)) (zxor (zshl 1 v2) (-1))) 0 σ111) else (p_X3_reckonCost_141  (o0 + 2) v1 (zand (σ111 (o0 + 2) (zm v1)) (zxor (zshl 1 v2) (-1))) (zshl 1 v2) σ111)))))
def p_X3_reckonCost_85  (o0 : Int) (v1 : Int) (v2 : Int) (v4 : Int) (vs0 : Int) (σ : St) : Option (Int × St) :=
  p_X3_reckonCost_86  o0 v1 v2 vs0 v4 σ
def p_X3_reckonCost_72  (o0 : Int) (v1 : Int) (v2 : Int) (v3 : Int) (v5 : Int) (vs0 : Int) (σ : St) : Option (Int × St) :=
  if zm vs0 = 0 then (p_X3_reckonCost_85  o0 v1 v2 vs0 v3 σ) else (p_X3_reckonCost_85  o0 v1 v2 vs0 v5 σ)
def p_X3_reckonCost  (o0 : Int) (v1 : Int) (v2 : Int) (σ : St) : Option (Int × St) :=
  Option.bind (p_X3_openYear o0 v1 v2 0 σ) fun x4 => Option.bind (p_X3_inside o0 0 0 x4.2) fun x10 => gd (kX (x10.2 o0 0) = (6, 0)) (if zm (x10.2 (x10.2 o0 0) 5) = 0 then (p_X3_reckonCost_86  o0 v1 v2 x10.1 0 x10.2) else (if (x10.2 o0 2) < 0 then (Option.bind (p_X3_openYear o0 v1 v2 1 x10.2) fun x38 => Option.bind (p_X3_inside o0 0 0 x38.2) fun x44 => gd (kX (x44.2 o0 0) = (6, 0)) (if zm x10.1 ≤ zm (x44.1 + ((x44.2 (x44.2 o0 0) 6) * 1000)) then (p_X3_reckonCost_72  o0 v1 v2 x10.1 (x44.1 + ((x44.2 (x44.2 o0 0) 6) * 1000)) 0 x44.2) else (p_X3_reckonCost_72  o0 v1 v2 x10.1 (x44.1 + ((x44.2 (x44.2 o0 0) 6) * 1000)) 1 x44.2))) else (p_X3_reckonCost_86  o0 v1 v2 x10.1 0 x10.2)))
/-! RungHouse$Plan.know -/
def p_X3_know_20b (K7 : Int → Int → Int → St → Option (Int × St)) (K20 : Int → Int → Int → Int → St → Option (Int × St)) (o0 : Int) (v1 : Int) (v2 : Int) (v3 : Int) (σ : St) : Option (Int × St) :=
  gd (kX (σ o0 1) = (0, 0)) (if zm (σ (σ o0 1) 1) ≤ zm v3 then (nx (su σ o0 5 v2) fun σ45 => K7 o0 v1 (v2 + 1) σ45) else (Option.bind (p_X3_reckonCost o0 v2 v3 σ) fun x34 => K20 o0 v1 v2 (v3 + 1) x34.2))
def p_X3_know_20 (K7 : Int → Int → Int → St → Option (Int × St)) : Nat → Int → Int → Int → Int → St → Option (Int × St)
  | 0, _, _, _, _, _ => none
  | n + 1, o0, v1, v2, v3, σ => p_X3_know_20b K7 (p_X3_know_20 K7 n) o0 v1 v2 v3 σ
def p_X3_know_7b  (K7 : Int → Int → Int → St → Option (Int × St)) (o0 : Int) (v1 : Int) (v2 : Int) (σ : St) : Option (Int × St) :=
  if zm v1 < zm v2 then (some (0, σ)) else (if 30 < zm v2 then (some (0, σ)) else (p_X3_know_20 K7 FU o0 v1 v2 0 σ))
def p_X3_know_7  : Nat → Int → Int → Int → St → Option (Int × St)
  | 0, _, _, _, _ => none
  | n + 1, o0, v1, v2, σ => p_X3_know_7b  (p_X3_know_7  n) o0 v1 v2 σ
def p_X3_know  (o0 : Int) (v1 : Int) (σ : St) : Option (Int × St) :=
  p_X3_know_7  FU o0 v1 ((σ o0 5) + 1) σ
/-! RungHouse$Plan.costWith -/
def p_X3_costWith  (o0 : Int) (v1 : Int) (v2 : Int) (σ : St) : Option (Int × St) :=
  gd (0 ≤ zm ((v1 * 10) + v2) ∧ zm ((v1 * 10) + v2) < 310) (some ((σ (o0 + 1) (zm ((v1 * 10) + v2))), σ))
/-! RungHouse$Plan.isAsked -/
def p_X3_isAsked  (o0 : Int) (v1 : Int) (v2 : Int) (v3 : Int) (σ : St) : Option (Int × St) :=
  gd (kX (σ o0 1) = (0, 0)) (Option.bind (p_X0_bears (σ o0 1) v3 σ) fun x6 => Option.bind (p_X3_costsLater o0 v1 v2 x6.2) fun x17 => if zm ((v3 - x6.1) * 1000) ≤ zm x17.1 then (some (0, x17.2)) else (some (1, x17.2)))
/-! RungHouse$Plan.leastAsked -/
def p_X3_leastAsked  (o0 : Int) (v1 : Int) (v2 : Int) (σ : St) : Option (Int × St) :=
  gd (0 ≤ zm ((v1 * 4) + v2) ∧ zm ((v1 * 4) + v2) < 48) (gd (kX (σ o0 0) = (6, 0)) (if zm (σ (σ o0 0) 3) ≤ zm (σ (o0 + 4) (zm ((v1 * 4) + v2))) then (some ((-1), σ)) else (gd (0 ≤ zm (σ (o0 + 4) (zm ((v1 * 4) + v2))) ∧ zm (σ (o0 + 4) (zm ((v1 * 4) + v2))) < 8) (some ((σ ((σ o0 0) + 1) (zm (σ (o0 + 4) (zm ((v1 * 4) + v2))))), σ)))))
/-! RungHouse$Reader.add -/
def p_X4_add  (o0 : Int) (v1 : Int) (σ : St) : Option (Int × St) :=
  if 300 ≤ zm (σ o0 1) then (some (0, σ)) else (gd (0 ≤ zm (σ o0 1) ∧ zm (σ o0 1) < 300) (nx (su σ (o0 + 1) (zm (σ o0 1)) v1) fun σ19 => nx (su σ19 o0 1 ((σ19 o0 1) + 1)) fun σ27 => some (0, σ27)))
/-! RungHouse$Rule.readBar -/
def p_X5_readBar_169  (o0 : Int) (o1 : Int) (σ : St) : Option (Int × St) :=
  Option.bind (p_X4_closeClause o1 σ) fun x170 => nx (su x170.2 o0 5 ((x170.2 o0 5) + 1)) fun σ180 => some (0, σ180)
def p_X5_readBar_116  (o0 : Int) (o1 : Int) (σ : St) : Option (Int × St) :=
  Option.bind (p_X4_isWord o1 10 σ) fun x119 => if zm x119.1 = 0 then (p_X5_readBar_169  o0 o1 x119.2) else (Option.bind (p_X4_step o1 x119.2) fun x126 => Option.bind (p_X4_number o1 0 11 x126.2) fun x141 => gd (0 ≤ zm (x126.2 o0 5) ∧ zm (x126.2 o0 5) < 6) (nx (su x141.2 (o0 + 4) (zm (x126.2 o0 5)) x141.1) fun σ144 => gd (0 ≤ zm (σ144 o0 5) ∧ zm (σ144 o0 5) < 6) (Option.bind (p_X4_number o1 (σ144 (o0 + 4) (zm (σ144 o0 5))) 11 σ144) fun x165 => nx (su x165.2 (o0 + 5) (zm (σ144 o0 5)) x165.1) fun σ168 => p_X5_readBar_169  o0 o1 σ168)))
def p_X5_readBar  (o0 : Int) (o1 : Int) (σ : St) : Option (Int × St) :=
  Option.bind (p_X4_step o1 σ) fun x1 => Option.bind (p_X4_number o1 0 999 x1.2) fun x17 => gd (0 ≤ zm (x1.2 o0 5) ∧ zm (x1.2 o0 5) < 6) (nx (su x17.2 (o0 + 1) (zm (x1.2 o0 5)) x17.1) fun σ20 => gd (0 ≤ zm (σ20 o0 5) ∧ zm (σ20 o0 5) < 6) (nx (su σ20 (o0 + 2) (zm (σ20 o0 5)) 0) fun σ30 => gd (0 ≤ zm (σ30 o0 5) ∧ zm (σ30 o0 5) < 6) (nx (su σ30 (o0 + 3) (zm (σ30 o0 5)) 9) fun σ41 => gd (0 ≤ zm (σ41 o0 5) ∧ zm (σ41 o0 5) < 6) (nx (su σ41 (o0 + 4) (zm (σ41 o0 5)) 0) fun σ51 => gd (0 ≤ zm (σ51 o0 5) ∧ zm (σ51 o0 5) < 6) (nx (su σ51 (o0 + 5) (zm (σ51 o0 5)) 11) fun σ62 => Option.bind (p_X4_isWord o1 9 σ62) fun x66 => if zm x66.1 = 0 then (p_X5_readBar_116  o0 o1 x66.2) else (Option.bind (p_X4_step o1 x66.2) fun x73 => Option.bind (p_X4_number o1 0 9 x73.2) fun x88 => gd (0 ≤ zm (x73.2 o0 5) ∧ zm (x73.2 o0 5) < 6) (nx (su x88.2 (o0 + 2) (zm (x73.2 o0 5)) x88.1) fun σ91 => gd (0 ≤ zm (σ91 o0 5) ∧ zm (σ91 o0 5) < 6) (Option.bind (p_X4_number o1 (σ91 (o0 + 2) (zm (σ91 o0 5))) 9 σ91) fun x112 => nx (su x112.2 (o0 + 3) (zm (σ91 o0 5)) x112.1) fun σ115 => p_X5_readBar_116  o0 o1 σ115))))))))
/-! RungHouse$Rule.readFrom -/
def p_X5_readFrom_72 (K11 : Int → Int → Int → St → Option (Int × St)) (o0 : Int) (o1 : Int) (v2 : Int) (σ : St) : Option (Int × St) :=
  K11 o0 o1 (v2 + 1) σ
def p_X5_readFrom_11b  (K11 : Int → Int → Int → St → Option (Int × St)) (o0 : Int) (o1 : Int) (v2 : Int) (σ : St) : Option (Int × St) :=
  if 300 ≤ zm v2 then (some (0, σ)) else (Option.bind (p_X4_goesOn o1 σ) fun x19 => if zm x19.1 = 0 then (some (0, x19.2)) else (Option.bind (p_X4_isWord o1 8 x19.2) fun x28 => if zm x28.1 = 0 then (Option.bind (p_X4_fail o1 1 (x28.2 o1 5) x28.2) fun x40 => p_X5_readFrom_72 K11 o0 o1 v2 x40.2) else (if zm (x28.2 o0 5) < 6 then (Option.bind (p_X5_readBar o0 o1 x28.2) fun x69 => p_X5_readFrom_72 K11 o0 o1 v2 x69.2) else (Option.bind (p_X4_fail o1 3 (x28.2 o1 5) x28.2) fun x61 => p_X5_readFrom_72 K11 o0 o1 v2 x61.2))))
def p_X5_readFrom_11  : Nat → Int → Int → Int → St → Option (Int × St)
  | 0, _, _, _, _ => none
  | n + 1, o0, o1, v2, σ => p_X5_readFrom_11b  (p_X5_readFrom_11  n) o0 o1 v2 σ
def p_X5_readFrom  (o0 : Int) (o1 : Int) (σ : St) : Option (Int × St) :=
  nx (su σ o0 5 0) fun σ2 => Option.bind (p_X4_open o1 σ2) fun x6 => p_X5_readFrom_11  FU o0 o1 0 x6.2
/-! RungHouse$Sort.sumDrawn -/
def p_X6_sumDrawn_4b  (K4 : Int → Int → Int → Int → St → Option (Int × St)) (o0 : Int) (v1 : Int) (v2 : Int) (v3 : Int) (σ : St) : Option (Int × St) :=
  if zm (σ o0 3) ≤ zm v3 then (some (0, σ)) else (gd (0 ≤ zm v3 ∧ zm v3 < 8) (if zm (v2 + (σ (o0 + 2) (zm v3))) ≤ zm v1 then (K4 o0 v1 (v2 + (σ (o0 + 2) (zm v3))) (v3 + 1) σ) else (some ((σ (o0 + 1) (zm v3)), σ))))
def p_X6_sumDrawn_4  : Nat → Int → Int → Int → Int → St → Option (Int × St)
  | 0, _, _, _, _, _ => none
  | n + 1, o0, v1, v2, v3, σ => p_X6_sumDrawn_4b  (p_X6_sumDrawn_4  n) o0 v1 v2 v3 σ
def p_X6_sumDrawn  (o0 : Int) (v1 : Int) (σ : St) : Option (Int × St) :=
  p_X6_sumDrawn_4  FU o0 v1 0 0 σ
/-! RungHouse$Sort.readScrape -/
def p_X6_readScrape_119  (o0 : Int) (o1 : Int) (σ : St) : Option (Int × St) :=
  Option.bind (p_X4_closeClause o1 σ) fun x120 => nx (su x120.2 o0 3 ((x120.2 o0 3) + 1)) fun σ130 => some (0, σ130)
def p_X6_readScrape_56  (o0 : Int) (o1 : Int) (os0 : Int) (vs1 : Int) (os2 : Int) (vs3 : Int) (σ : St) : Option (Int × St) :=
  Option.bind (p_X4_number os2 vs3 999 σ) fun x59 => gd (0 ≤ zm vs1 ∧ zm vs1 < 8) (nx (su x59.2 os0 (zm vs1) x59.1) fun σ62 => Option.bind (p_X4_number o1 1 999 σ62) fun x81 => gd (0 ≤ zm (σ62 o0 3) ∧ zm (σ62 o0 3) < 8) (nx (su x81.2 (o0 + 2) (zm (σ62 o0 3)) x81.1) fun σ84 => gd (0 ≤ zm (σ84 o0 3) ∧ zm (σ84 o0 3) < 8) (nx (su σ84 o0 4 ((σ84 o0 4) + (σ84 (o0 + 2) (zm (σ84 o0 3))))) fun σ100 => if zm (σ100 o0 4) ≤ 1000 then (p_X6_readScrape_119  o0 o1 σ100) else (Option.bind (p_X4_fail o1 4 (σ62 o1 5) σ100) fun x116 => p_X6_readScrape_119  o0 o1 x116.2))))
def p_X6_readScrape  (o0 : Int) (o1 : Int) (σ : St) : Option (Int × St) :=
  if zm (σ o0 3) < 8 then (Option.bind (p_X4_step o1 σ) fun x20 => if zm (x20.2 o0 3) ≤ 0 then (p_X6_readScrape_56  o0 o1 (o0 + 1) (x20.2 o0 3) o1 1 x20.2) else (gd (0 ≤ zm ((x20.2 o0 3) - 1) ∧ zm ((x20.2 o0 3) - 1) < 8) (p_X6_readScrape_56  o0 o1 (o0 + 1) (x20.2 o0 3) o1 ((x20.2 (o0 + 1) (zm ((x20.2 o0 3) - 1))) + 1) x20.2))) else (Option.bind (p_X4_fail o1 3 (σ o1 5) σ) fun x15 => some (0, x15.2))
/-! RungHouse$Sort.readPains -/
def p_X6_readPains  (o0 : Int) (o1 : Int) (σ : St) : Option (Int × St) :=
  if zm (σ o0 5) = 0 then (Option.bind (p_X4_step o1 σ) fun x18 => Option.bind (p_X4_number o1 0 999 x18.2) fun x27 => nx (su x27.2 o0 6 x27.1) fun σ30 => Option.bind (p_X4_number o1 0 100 σ30) fun x38 => nx (su x38.2 o0 7 x38.1) fun σ41 => Option.bind (p_X4_closeClause o1 σ41) fun x45 => nx (su x45.2 o0 5 1) fun σ50 => some (0, σ50)) else (Option.bind (p_X4_fail o1 3 (σ o1 5) σ) fun x13 => some (0, x13.2))
/-! RungHouse$Sort.spare -/
def p_X6_spare_2b  (K2 : Int → Int → St → Option (Int × St)) (o0 : Int) (v1 : Int) (σ : St) : Option (Int × St) :=
  if zm (σ o0 3) ≤ zm v1 then (some (0, σ)) else (gd (0 ≤ zm v1 ∧ zm v1 < 8) (nx (su σ (o0 + 3) (zm v1) ((zm ((σ (o0 + 2) (zm v1)) * (100 - (σ o0 7)))).tdiv 100)) fun σ32 => K2 o0 (v1 + 1) σ32))
def p_X6_spare_2  : Nat → Int → Int → St → Option (Int × St)
  | 0, _, _, _ => none
  | n + 1, o0, v1, σ => p_X6_spare_2b  (p_X6_spare_2  n) o0 v1 σ
def p_X6_spare  (o0 : Int) (σ : St) : Option (Int × St) :=
  p_X6_spare_2  FU o0 0 σ
/-! RungHouse$Sort.readFrom -/
def p_X6_readFrom_110  (o0 : Int) (σ : St) : Option (Int × St) :=
  Option.bind (p_X6_spare o0 σ) fun x111 => some (0, x111.2)
def p_X6_readFrom_94  (o0 : Int) (o1 : Int) (σ : St) : Option (Int × St) :=
  if zm (σ o0 3) = 0 then (Option.bind (p_X4_fail o1 5 (σ o1 1) σ) fun x107 => p_X6_readFrom_110  o0 x107.2) else (p_X6_readFrom_110  o0 σ)
def p_X6_readFrom_88 (K31 : Int → Int → Int → St → Option (Int × St)) (o0 : Int) (o1 : Int) (v2 : Int) (σ : St) : Option (Int × St) :=
  K31 o0 o1 (v2 + 1) σ
def p_X6_readFrom_31b  (K31 : Int → Int → Int → St → Option (Int × St)) (o0 : Int) (o1 : Int) (v2 : Int) (σ : St) : Option (Int × St) :=
  if 300 ≤ zm v2 then (p_X6_readFrom_94  o0 o1 σ) else (Option.bind (p_X4_goesOn o1 σ) fun x39 => if zm x39.1 = 0 then (p_X6_readFrom_94  o0 o1 x39.2) else (Option.bind (p_X4_isWord o1 6 x39.2) fun x48 => if zm x48.1 = 0 then (Option.bind (p_X4_isWord o1 7 x48.2) fun x65 => if zm x65.1 = 0 then (Option.bind (p_X4_fail o1 1 (x65.2 o1 5) x65.2) fun x85 => p_X6_readFrom_88 K31 o0 o1 v2 x85.2) else (Option.bind (p_X6_readPains o0 o1 x65.2) fun x73 => p_X6_readFrom_88 K31 o0 o1 v2 x73.2)) else (Option.bind (p_X6_readScrape o0 o1 x48.2) fun x56 => p_X6_readFrom_88 K31 o0 o1 v2 x56.2)))
def p_X6_readFrom_31  : Nat → Int → Int → Int → St → Option (Int × St)
  | 0, _, _, _, _ => none
  | n + 1, o0, o1, v2, σ => p_X6_readFrom_31b  (p_X6_readFrom_31  n) o0 o1 v2 σ
def p_X6_readFrom  (o0 : Int) (o1 : Int) (σ : St) : Option (Int × St) :=
  nx (su σ o0 3 0) fun σ2 => nx (su σ2 o0 4 0) fun σ7 => nx (su σ7 o0 5 0) fun σ12 => nx (su σ12 o0 6 0) fun σ17 => nx (su σ17 o0 7 0) fun σ22 => Option.bind (p_X4_open o1 σ22) fun x26 => p_X6_readFrom_31  FU o0 o1 0 x26.2
