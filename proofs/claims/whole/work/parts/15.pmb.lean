/-! RungHouseModel.fillYear -/
def p_X8_fillYear_253 (K57 : Int → Int → Int → Int → St → Option (Int × St)) (K65 : Int → Int → Int → Int → Int → St → Option (Int × St)) (K118 : Int → Int → Int → Int → Int → Int → Int → St → Option (Int × St)) (v1 : Int) (v2 : Int) (v3 : Int) (v4 : Int) (v5 : Int) (v8 : Int) (v11 : Int) (vs0 : Int) (vs2 : Int) (vs3 : Int) (vs4 : Int) (σ : St) : Option (Int × St) :=
  Option.bind (p_X8_oddsOf vs2 vs3 vs4 σ) fun x253 => K118 v1 v2 v3 v4 v5 (vs0 + ((zm x253.1) * v11)) (v8 + 1) x253.2
def p_X8_fillYear_232 (K57 : Int → Int → Int → Int → St → Option (Int × St)) (K65 : Int → Int → Int → Int → Int → St → Option (Int × St)) (K118 : Int → Int → Int → Int → Int → Int → Int → St → Option (Int × St)) (v1 : Int) (v2 : Int) (v3 : Int) (v4 : Int) (v5 : Int) (v6 : Int) (v8 : Int) (vs0 : Int) (σ : St) : Option (Int × St) :=
  if zm v1 = 1 then (p_X8_fillYear_253 K57 K65 K118 v1 v2 v3 v4 v5 v8 vs0 v6 (σ 0 28) v8 1 σ) else (p_X8_fillYear_253 K57 K65 K118 v1 v2 v3 v4 v5 v8 vs0 v6 (σ 0 28) v8 0 σ)
def p_X8_fillYear_118b (K57 : Int → Int → Int → Int → St → Option (Int × St)) (K65 : Int → Int → Int → Int → Int → St → Option (Int × St)) (K118 : Int → Int → Int → Int → Int → Int → Int → St → Option (Int × St)) (v1 : Int) (v2 : Int) (v3 : Int) (v4 : Int) (v5 : Int) (v6 : Int) (v8 : Int) (σ : St) : Option (Int × St) :=
  gd (0 ≤ zm (σ 0 28) ∧ zm (σ 0 28) < 4) (if zm (σ 8 (zm (σ 0 28))) ≤ zm v8 then (Option.bind (p_X8_place v1 v2 v3 v4 v5 σ) fun x280 => gd (0 ≤ zm x280.1 ∧ zm x280.1 < 31200) (nx (su x280.2 17 (zm x280.1) ((zl v6).tdiv 1000)) fun σ290 => K65 v1 v2 v3 v4 (v5 + 1) σ290)) else (gd (0 ≤ zm ((8 * (σ 0 28)) + v8) ∧ zm ((8 * (σ 0 28)) + v8) < 32) (Option.bind (p_X8_asks v1 v2 v3 v4 v5 (σ 9 (zm ((8 * (σ 0 28)) + v8))) σ) fun x159 => if zm x159.1 = 0 then (Option.bind (p_X8_place v1 v2 v3 (v4 + 1) v5 x159.2) fun x226 => gd (0 ≤ zm x226.1 ∧ zm x226.1 < 31200) (p_X8_fillYear_232 K57 K65 K118 v1 v2 v3 v4 v5 v6 v8 ((1000 * (zm (σ 9 (zm ((8 * (σ 0 28)) + v8))))) + (zm (x226.2 17 (zm x226.1)))) x226.2)) else (Option.bind (p_X8_bears (σ 9 (zm ((8 * (σ 0 28)) + v8))) x159.2) fun x175 => Option.bind (p_X8_more v5 x175.2) fun x194 => Option.bind (p_X8_place v1 v2 v3 (v4 + 1) x194.1 x194.2) fun x197 => gd (0 ≤ zm x197.1 ∧ zm x197.1 < 31200) (p_X8_fillYear_232 K57 K65 K118 v1 v2 v3 v4 v5 v6 v8 ((1000 * (zm x175.1)) + (zm (x197.2 17 (zm x197.1)))) x197.2)))))
def p_X8_fillYear_118 (K57 : Int → Int → Int → Int → St → Option (Int × St)) (K65 : Int → Int → Int → Int → Int → St → Option (Int × St)) : Nat → Int → Int → Int → Int → Int → Int → Int → St → Option (Int × St)
  | 0, _, _, _, _, _, _, _, _ => none
  | n + 1, v1, v2, v3, v4, v5, v6, v8, σ => p_X8_fillYear_118b K57 K65 (p_X8_fillYear_118 K57 K65 n) v1 v2 v3 v4 v5 v6 v8 σ
def p_X8_fillYear_89 (K57 : Int → Int → Int → Int → St → Option (Int × St)) (K65 : Int → Int → Int → Int → Int → St → Option (Int × St)) (v1 : Int) (v2 : Int) (v3 : Int) (v4 : Int) (v5 : Int) (vs0 : Int) (vs2 : Int) (vs3 : Int) (σ : St) : Option (Int × St) :=
  Option.bind (p_X8_sumOdds vs2 vs3 σ) fun x89 => Option.bind (p_X8_place v1 v2 v3 (v4 + 1) v5 x89.2) fun x107 => gd (0 ≤ zm x107.1 ∧ zm x107.1 < 31200) (nz (((vs0 - (zm x89.1)) * (zm (x107.2 17 (zm x107.1))))) fun z113 => p_X8_fillYear_118 K57 K65 FU v1 v2 v3 v4 v5 z113 0 x107.2)
def p_X8_fillYear_65b (K57 : Int → Int → Int → Int → St → Option (Int × St)) (K65 : Int → Int → Int → Int → Int → St → Option (Int × St)) (v1 : Int) (v2 : Int) (v3 : Int) (v4 : Int) (v5 : Int) (σ : St) : Option (Int × St) :=
  if 4 ≤ zm v5 then (K57 v1 v2 v3 (v4 + (-1)) σ) else (if zm v1 = 1 then (p_X8_fillYear_89 K57 K65 v1 v2 v3 v4 v5 1000 (σ 0 28) 1 σ) else (p_X8_fillYear_89 K57 K65 v1 v2 v3 v4 v5 1000 (σ 0 28) 0 σ))
def p_X8_fillYear_65 (K57 : Int → Int → Int → Int → St → Option (Int × St)) : Nat → Int → Int → Int → Int → Int → St → Option (Int × St)
  | 0, _, _, _, _, _, _ => none
  | n + 1, v1, v2, v3, v4, v5, σ => p_X8_fillYear_65b K57 (p_X8_fillYear_65 K57 n) v1 v2 v3 v4 v5 σ
def p_X8_fillYear_57b  (K57 : Int → Int → Int → Int → St → Option (Int × St)) (v1 : Int) (v2 : Int) (v3 : Int) (v4 : Int) (σ : St) : Option (Int × St) :=
  if zm v4 < 0 then (some (0, σ)) else (p_X8_fillYear_65 K57 FU v1 v2 v3 v4 0 σ)
def p_X8_fillYear_57  : Nat → Int → Int → Int → Int → St → Option (Int × St)
  | 0, _, _, _, _, _ => none
  | n + 1, v1, v2, v3, v4, σ => p_X8_fillYear_57b  (p_X8_fillYear_57  n) v1 v2 v3 v4 σ
def p_X8_fillYear_3b  (K3 : Int → Int → Int → Int → St → Option (Int × St)) (v1 : Int) (v2 : Int) (v3 : Int) (v4 : Int) (σ : St) : Option (Int × St) :=
  if 4 ≤ zm v4 then (p_X8_fillYear_57  FU v1 v2 v3 11 σ) else (Option.bind (p_X8_place v1 v2 v3 12 v4 σ) fun x20 => Option.bind (p_X8_nextOf (x20.2 0 29) v3 v4 x20.2) fun x41 => gd (0 ≤ zm ((10 * (v2 + 1)) + x41.1) ∧ zm ((10 * (v2 + 1)) + x41.1) < 310) (gd (0 ≤ zm x20.1 ∧ zm x20.1 < 31200) (nx (su x41.2 17 (zm x20.1) (x41.2 16 (zm ((10 * (v2 + 1)) + x41.1)))) fun σ46 => K3 v1 v2 v3 (v4 + 1) σ46)))
def p_X8_fillYear_3  : Nat → Int → Int → Int → Int → St → Option (Int × St)
  | 0, _, _, _, _, _ => none
  | n + 1, v1, v2, v3, v4, σ => p_X8_fillYear_3b  (p_X8_fillYear_3  n) v1 v2 v3 v4 σ
def p_X8_fillYear  (v1 : Int) (v2 : Int) (v3 : Int) (σ : St) : Option (Int × St) :=
  p_X8_fillYear_3  FU v1 v2 v3 0 σ
/-! RungHouseModel.canPain -/
def p_X8_canPain   (σ : St) : Option (Int × St) :=
  if 0 ≤ zm (σ 0 30) then (some (0, σ)) else (gd (0 ≤ zm (σ 0 28) ∧ zm (σ 0 28) < 4) (if zm (σ 11 (zm (σ 0 28))) < 0 then (some (0, σ)) else (some (1, σ))))
/-! RungHouseModel.painsAt -/
def p_X8_painsAt  (v1 : Int) (v2 : Int) (σ : St) : Option (Int × St) :=
  gd (0 ≤ zm ((10 * (σ 0 29)) + v2) ∧ zm ((10 * (σ 0 29)) + v2) < 30) (gd (0 ≤ zm (σ 0 28) ∧ zm (σ 0 28) < 4) (Option.bind (p_X8_place 1 v1 v2 0 0 σ) fun x41 => gd (0 ≤ zm x41.1 ∧ zm x41.1 < 31200) (some ((((1000 * (σ 2 (zm ((10 * (σ 0 29)) + v2)))) + (1000 * (σ 11 (zm (σ 0 28))))) + (x41.2 17 (zm x41.1))), x41.2))))
/-! RungHouseModel.plainAt -/
def p_X8_plainAt  (v1 : Int) (v2 : Int) (σ : St) : Option (Int × St) :=
  gd (0 ≤ zm ((10 * (σ 0 29)) + v2) ∧ zm ((10 * (σ 0 29)) + v2) < 30) (Option.bind (p_X8_place 0 v1 v2 0 0 σ) fun x27 => gd (0 ≤ zm x27.1 ∧ zm x27.1 < 31200) (some (((1000 * (σ 2 (zm ((10 * (σ 0 29)) + v2)))) + (x27.2 17 (zm x27.1))), x27.2)))
/-! RungHouseModel.isPained -/
def p_X8_isPained  (v1 : Int) (v2 : Int) (σ : St) : Option (Int × St) :=
  Option.bind (p_X8_canPain  σ) fun x1 => if zm x1.1 = 0 then (some (0, x1.2)) else (Option.bind (p_X8_painsAt v1 v2 x1.2) fun x10 => Option.bind (p_X8_plainAt v1 v2 x10.2) fun x16 => if zm x16.1 ≤ zm x10.1 then (some (0, x16.2)) else (some (1, x16.2)))
/-! RungHouseModel.work -/
def p_X8_work_202 (K116 : Int → Int → St → Option (Int × St)) (K124 : Int → Int → Int → St → Option (Int × St)) (v2 : Int) (v5 : Int) (v6 : Int) (os0 : Int) (vs1 : Int) (vs2 : Int) (σ : St) : Option (Int × St) :=
  gd (0 ≤ zm vs1 ∧ zm vs1 < 310) (nx (su σ os0 (zm vs1) vs2) fun σ202 => K124 v2 v5 (v6 + 1) σ202)
def p_X8_work_160 (K116 : Int → Int → St → Option (Int × St)) (K124 : Int → Int → Int → St → Option (Int × St)) (v2 : Int) (v5 : Int) (v6 : Int) (σ : St) : Option (Int × St) :=
  Option.bind (p_X8_isPained v5 v6 σ) fun x177 => if zm x177.1 = 0 then (Option.bind (p_X8_plainAt v5 v6 x177.2) fun x199 => p_X8_work_202 K116 K124 v2 v5 v6 16 ((10 * v5) + v6) x199.1 x199.2) else (Option.bind (p_X8_painsAt v5 v6 x177.2) fun x188 => p_X8_work_202 K116 K124 v2 v5 v6 16 ((10 * v5) + v6) x188.1 x188.2)
def p_X8_work_124b (K116 : Int → Int → St → Option (Int × St)) (K124 : Int → Int → Int → St → Option (Int × St)) (v2 : Int) (v5 : Int) (v6 : Int) (σ : St) : Option (Int × St) :=
  gd (0 ≤ zm v2 ∧ zm v2 < 3) (if zm (σ 1 (zm v2)) ≤ zm v6 then (K116 v2 (v5 + (-1)) σ) else (Option.bind (p_X8_fillYear 0 v5 v6 σ) fun x141 => Option.bind (p_X8_canPain  x141.2) fun x145 => if zm x145.1 = 0 then (p_X8_work_160 K116 K124 v2 v5 v6 x145.2) else (Option.bind (p_X8_fillYear 1 v5 v6 x145.2) fun x157 => p_X8_work_160 K116 K124 v2 v5 v6 x157.2)))
def p_X8_work_124 (K116 : Int → Int → St → Option (Int × St)) : Nat → Int → Int → Int → St → Option (Int × St)
  | 0, _, _, _, _ => none
  | n + 1, v2, v5, v6, σ => p_X8_work_124b K116 (p_X8_work_124 K116 n) v2 v5 v6 σ
def p_X8_work_116b  (K116 : Int → Int → St → Option (Int × St)) (v2 : Int) (v5 : Int) (σ : St) : Option (Int × St) :=
  if zm v5 < 0 then (some (0, σ)) else (p_X8_work_124 K116 FU v2 v5 0 σ)
def p_X8_work_116  : Nat → Int → Int → St → Option (Int × St)
  | 0, _, _, _ => none
  | n + 1, v2, v5, σ => p_X8_work_116b  (p_X8_work_116  n) v2 v5 σ
def p_X8_work_79b  (K79 : Int → Int → Int → St → Option (Int × St)) (v2 : Int) (v4 : Int) (v5 : Int) (σ : St) : Option (Int × St) :=
  gd (0 ≤ zm v2 ∧ zm v2 < 3) (if zm (σ 1 (zm v2)) ≤ zm v5 then (p_X8_work_116  FU v2 (v4 - 1) σ) else (gd (0 ≤ zm ((10 * v4) + v5) ∧ zm ((10 * v4) + v5) < 310) (nx (su σ 16 (zm ((10 * v4) + v5)) 0) fun σ103 => K79 v2 v4 (v5 + 1) σ103)))
def p_X8_work_79  : Nat → Int → Int → Int → St → Option (Int × St)
  | 0, _, _, _, _ => none
  | n + 1, v2, v4, v5, σ => p_X8_work_79b  (p_X8_work_79  n) v2 v4 v5 σ
def p_X8_work_52  (v1 : Int) (v2 : Int) (v3 : Int) (v4 : Int) (vs1 : Int) (σ : St) : Option (Int × St) :=
  gd (vs1 = 0 ∨ vs1 = 1) (nx (su σ 0 32 vs1) fun σ52 => nx (su σ52 0 31 v4) fun σ58 => nx (su σ58 0 28 v1) fun σ63 => nx (su σ63 0 29 v2) fun σ68 => nx (su σ68 0 30 v3) fun σ73 => p_X8_work_79  FU v2 v4 0 σ73)
def p_X8_work_41  (v1 : Int) (v2 : Int) (v3 : Int) (v4 : Int) (σ : St) : Option (Int × St) :=
  if 2 ≤ zm v2 then (p_X8_work_52  v1 v2 v3 v4 0 σ) else (p_X8_work_52  v1 v2 v3 v4 1 σ)
def p_X8_work  (v1 : Int) (v2 : Int) (v3 : Int) (v4 : Int) (σ : St) : Option (Int × St) :=
  if zm (σ 0 32) = 0 then (p_X8_work_41  v1 v2 v3 v4 σ) else (if zm v1 = zm (σ 0 28) then (if zm v2 = zm (σ 0 29) then (if zm v3 = zm (σ 0 30) then (if zm v4 = zm (σ 0 31) then (some (0, σ)) else (p_X8_work_41  v1 v2 v3 v4 σ)) else (p_X8_work_41  v1 v2 v3 v4 σ)) else (p_X8_work_41  v1 v2 v3 v4 σ)) else (p_X8_work_41  v1 v2 v3 v4 σ))
/-! RungHouseModel.cost -/
def p_X8_cost  (v1 : Int) (v2 : Int) (v3 : Int) (v4 : Int) (v5 : Int) (σ : St) : Option (Int × St) :=
  Option.bind (p_X8_isSort v1 σ) fun x2 => if zm x2.1 = 0 then (some ((-1000000001), x2.2)) else (Option.bind (p_X8_isRung v2 v5 x2.2) fun x12 => if zm x12.1 = 0 then (some ((-1000000001), x12.2)) else (Option.bind (p_X8_isTime v3 x12.2) fun x22 => if zm x22.1 = 0 then (some ((-1000000002), x22.2)) else (Option.bind (p_X8_within (zm v4) 0 (zm v3) x22.2) fun x34 => if zm x34.1 = 0 then (some ((-1000000002), x34.2)) else (Option.bind (p_X8_work v1 v2 (-1) v3 x34.2) fun x48 => gd (0 ≤ zm ((10 * v4) + v5) ∧ zm ((10 * v4) + v5) < 310) (some ((x48.2 16 (zm ((10 * v4) + v5))), x48.2))))))
/-! RungHouseModel.isWhen -/
def p_X8_isWhen  (v1 : Int) (v2 : Int) (σ : St) : Option (Int × St) :=
  Option.bind (p_X8_isTime v1 σ) fun x1 => if zm x1.1 = 0 then (some (0, x1.2)) else (Option.bind (p_X8_within (zm v2) 0 (zm (v1 - 1)) x1.2) fun x14 => if zm x14.1 = 0 then (some (0, x14.2)) else (some (1, x14.2)))
/-! RungHouseModel.painOf -/
def p_X8_painOf  (v1 : Int) (σ : St) : Option (Int × St) :=
  if zm v1 = 0 then (some (0, σ)) else (gd (0 ≤ zm (σ 0 28) ∧ zm (σ 0 28) < 4) (if zm (σ 11 (zm (σ 0 28))) < 0 then (some (0, σ)) else (some (1, σ))))
/-! RungHouseModel.in -/
def p_X8_in  (v1 : Int) (v2 : Int) (v3 : Int) (v4 : Int) (v5 : Int) (v6 : Int) (v7 : Int) (v8 : Int) (σ : St) : Option (Int × St) :=
  Option.bind (p_X8_isSort v1 σ) fun x2 => if zm x2.1 = 0 then (some ((-1000000001), x2.2)) else (Option.bind (p_X8_isRung v2 v5 x2.2) fun x12 => if zm x12.1 = 0 then (some ((-1000000001), x12.2)) else (Option.bind (p_X8_isWhen v3 v4 x12.2) fun x25 => if zm x25.1 = 0 then (some ((-1000000002), x25.2)) else (Option.bind (p_X8_within (zm v6) 0 12 x25.2) fun x38 => if zm x38.1 = 0 then (some ((-1000000002), x38.2)) else (Option.bind (p_X8_within (zm v7) 0 3 x38.2) fun x51 => if zm x51.1 = 0 then (some ((-1000000002), x51.2)) else (Option.bind (p_X8_work v1 v2 (-1) v3 x51.2) fun x65 => Option.bind (p_X8_painOf v8 x65.2) fun x75 => Option.bind (p_X8_place x75.1 v4 v5 v6 v7 x75.2) fun x86 => gd (0 ≤ zm x86.1 ∧ zm x86.1 < 31200) (some ((x86.2 17 (zm x86.1)), x86.2)))))))
/-! RungHouseModel.takes -/
def p_X8_takes  (v1 : Int) (v2 : Int) (v3 : Int) (v4 : Int) (v5 : Int) (σ : St) : Option (Int × St) :=
  Option.bind (p_X8_isSort v1 σ) fun x2 => if zm x2.1 = 0 then (some ((-1000000001), x2.2)) else (Option.bind (p_X8_isRung v2 v5 x2.2) fun x12 => if zm x12.1 = 0 then (some ((-1000000001), x12.2)) else (Option.bind (p_X8_isWhen v3 v4 x12.2) fun x25 => if zm x25.1 = 0 then (some ((-1000000002), x25.2)) else (Option.bind (p_X8_work v1 v2 (-1) v3 x25.2) fun x39 => Option.bind (p_X8_isPained v4 v5 x39.2) fun x47 => if zm x47.1 = 0 then (some (0, x47.2)) else (some (1, x47.2)))))
/-! RungHouseModel.bar -/
def p_X8_bar_71b  (K71 : Int → Int → Int → Int → Int → Int → Int → St → Option (Int × St)) (v1 : Int) (v4 : Int) (v5 : Int) (v6 : Int) (v7 : Int) (v8 : Int) (v9 : Int) (σ : St) : Option (Int × St) :=
  gd (0 ≤ zm v1 ∧ zm v1 < 4) (if zm (σ 8 (zm v1)) ≤ zm v9 then (some ((-1), σ)) else (Option.bind (p_X8_painOf v8 σ) fun x86 => gd (0 ≤ zm ((8 * v1) + v9) ∧ zm ((8 * v1) + v9) < 32) (Option.bind (p_X8_asks x86.1 v4 v5 v6 v7 (x86.2 9 (zm ((8 * v1) + v9))) x86.2) fun x109 => if zm x109.1 = 0 then (K71 v1 v4 v5 v6 v7 v8 (v9 + 1) x109.2) else (some ((x109.2 9 (zm ((8 * v1) + v9))), x109.2)))))
def p_X8_bar_71  : Nat → Int → Int → Int → Int → Int → Int → Int → St → Option (Int × St)
  | 0, _, _, _, _, _, _, _, _ => none
  | n + 1, v1, v4, v5, v6, v7, v8, v9, σ => p_X8_bar_71b  (p_X8_bar_71  n) v1 v4 v5 v6 v7 v8 v9 σ
def p_X8_bar  (v1 : Int) (v2 : Int) (v3 : Int) (v4 : Int) (v5 : Int) (v6 : Int) (v7 : Int) (v8 : Int) (σ : St) : Option (Int × St) :=
  Option.bind (p_X8_isSort v1 σ) fun x2 => if zm x2.1 = 0 then (some ((-1000000001), x2.2)) else (Option.bind (p_X8_isRung v2 v5 x2.2) fun x12 => if zm x12.1 = 0 then (some ((-1000000001), x12.2)) else (Option.bind (p_X8_isWhen v3 v4 x12.2) fun x25 => if zm x25.1 = 0 then (some ((-1000000002), x25.2)) else (Option.bind (p_X8_within (zm v6) 0 11 x25.2) fun x38 => if zm x38.1 = 0 then (some ((-1000000002), x38.2)) else (Option.bind (p_X8_within (zm v7) 0 3 x38.2) fun x51 => if zm x51.1 = 0 then (some ((-1000000002), x51.2)) else (Option.bind (p_X8_work v1 v2 (-1) v3 x51.2) fun x65 => p_X8_bar_71  FU v1 v4 v5 v6 v7 v8 0 x65.2)))))
/-! RungHouseModel.fixed -/
def p_X8_fixed  (v1 : Int) (v2 : Int) (v3 : Int) (v4 : Int) (v5 : Int) (v6 : Int) (σ : St) : Option (Int × St) :=
  Option.bind (p_X8_isRule v1 σ) fun x2 => if zm x2.1 = 0 then (some ((-1000000001), x2.2)) else (Option.bind (p_X8_isSort v2 x2.2) fun x10 => if zm x10.1 = 0 then (some ((-1000000001), x10.2)) else (Option.bind (p_X8_isRung v3 v6 x10.2) fun x20 => if zm x20.1 = 0 then (some ((-1000000001), x20.2)) else (Option.bind (p_X8_isTime v4 x20.2) fun x31 => if zm x31.1 = 0 then (some ((-1000000002), x31.2)) else (Option.bind (p_X8_within (zm v5) 0 (zm v4) x31.2) fun x44 => if zm x44.1 = 0 then (some ((-1000000002), x44.2)) else (Option.bind (p_X8_work v2 v3 v1 v4 x44.2) fun x59 => gd (0 ≤ zm ((10 * v5) + v6) ∧ zm ((10 * v5) + v6) < 310) (some ((x59.2 16 (zm ((10 * v5) + v6))), x59.2)))))))
/-! RungHouseModel.scrape -/
def p_X8_scrape_52  (v1 : Int) (v2 : Int) (v3 : Int) (σ : St) : Option (Int × St) :=
  if zm (σ 0 33) = 24 then (some ((-1000000004), σ)) else (gd (0 ≤ zm (σ 0 33) ∧ zm (σ 0 33) < 24) (nx (su σ 18 (zm (σ 0 33)) v1) fun σ73 => gd (0 ≤ zm (σ73 0 33) ∧ zm (σ73 0 33) < 24) (nx (su σ73 19 (zm (σ73 0 33)) v2) fun σ83 => gd (0 ≤ zm (σ83 0 33) ∧ zm (σ83 0 33) < 24) (gd (v3 = 0 ∨ v3 = 1) (nx (su σ83 20 (zm (σ83 0 33)) v3) fun σ93 => nx (su σ93 0 33 ((σ93 0 33) + 1)) fun σ101 => some ((σ101 0 33), σ101))))))
def p_X8_scrape  (v1 : Int) (v2 : Int) (v3 : Int) (σ : St) : Option (Int × St) :=
  Option.bind (p_X8_within (zm v1) 0 11 σ) fun x6 => if zm x6.1 = 0 then (some ((-1000000002), x6.2)) else (Option.bind (p_X8_within (zm v2) 1 999 x6.2) fun x18 => if zm x18.1 = 0 then (some ((-1000000002), x18.2)) else (if zm (x18.2 0 33) ≤ 0 then (p_X8_scrape_52  v1 v2 v3 x18.2) else (gd (0 ≤ zm ((x18.2 0 33) - 1) ∧ zm ((x18.2 0 33) - 1) < 24) (if zm (x18.2 18 (zm ((x18.2 0 33) - 1))) < zm v1 then (p_X8_scrape_52  v1 v2 v3 x18.2) else (some ((-1000000003), x18.2))))))
/-! RungHouseModel.judge -/
def p_X8_judge_116 (K48 : Int → Int → Int → Int → St → Option (Int × St)) (v4 : Int) (v5 : Int) (v7 : Int) (vs0 : Int) (σ : St) : Option (Int × St) :=
  K48 v4 v5 vs0 (v7 + 1) σ
def p_X8_judge_48b  (K48 : Int → Int → Int → Int → St → Option (Int × St)) (v4 : Int) (v5 : Int) (v6 : Int) (v7 : Int) (σ : St) : Option (Int × St) :=
  if zm (σ 0 33) ≤ zm v7 then (some ((-1), σ)) else (gd (0 ≤ zm v7 ∧ zm v7 < 24) (Option.bind (p_X8_asks 0 v4 v5 (σ 18 (zm v7)) v6 (σ 19 (zm v7)) σ) fun x79 => if zm x79.1 = zm (x79.2 20 (zm v7)) then (if zm (x79.2 20 (zm v7)) = 0 then (p_X8_judge_116 K48 v4 v5 v7 v6 x79.2) else (Option.bind (p_X8_more v6 x79.2) fun x108 => p_X8_judge_116 K48 v4 v5 v7 x108.1 x108.2)) else (some (v7, x79.2))))
def p_X8_judge_48  : Nat → Int → Int → Int → Int → St → Option (Int × St)
  | 0, _, _, _, _, _ => none
  | n + 1, v4, v5, v6, v7, σ => p_X8_judge_48b  (p_X8_judge_48  n) v4 v5 v6 v7 σ
def p_X8_judge  (v1 : Int) (v2 : Int) (v3 : Int) (v4 : Int) (v5 : Int) (σ : St) : Option (Int × St) :=
  Option.bind (p_X8_isSort v1 σ) fun x2 => if zm x2.1 = 0 then (some ((-1000000001), x2.2)) else (Option.bind (p_X8_isRung v2 v5 x2.2) fun x12 => if zm x12.1 = 0 then (some ((-1000000001), x12.2)) else (Option.bind (p_X8_isWhen v3 v4 x12.2) fun x25 => if zm x25.1 = 0 then (some ((-1000000002), x25.2)) else (Option.bind (p_X8_work v1 v2 (-1) v3 x25.2) fun x39 => p_X8_judge_48  FU v4 v5 0 0 x39.2)))
/-! RungHouseModel.liveYear -/
def p_X8_liveYear_254b (K52 : Int → Int → Int → St → Option (Int × St)) (K254 : Int → Int → Int → Int → St → Option (Int × St)) (v1 : Int) (v2 : Int) (v3 : Int) (v4 : Int) (σ : St) : Option (Int × St) :=
  if zm v4 < 0 then (K52 v1 v2 (v3 + 1) σ) else (gd (0 ≤ zm v4 ∧ zm v4 < 4) (nx (su σ 21 (zm v4) ((σ 21 (zm v4)) - (σ 22 (zm v4)))) fun σ275 => gd (0 ≤ zm (v4 + 1) ∧ zm (v4 + 1) < 4) (nx (su σ275 21 (zm (v4 + 1)) ((σ275 21 (zm (v4 + 1))) + (σ275 22 (zm v4)))) fun σ294 => K254 v1 v2 v3 (v4 + (-1)) σ294)))
def p_X8_liveYear_254 (K52 : Int → Int → Int → St → Option (Int × St)) : Nat → Int → Int → Int → Int → St → Option (Int × St)
  | 0, _, _, _, _, _ => none
  | n + 1, v1, v2, v3, v4, σ => p_X8_liveYear_254b K52 (p_X8_liveYear_254 K52 n) v1 v2 v3 v4 σ
def p_X8_liveYear_192 (K52 : Int → Int → Int → St → Option (Int × St)) (K61 : Int → Int → Int → Int → St → Option (Int × St)) (K76 : Int → Int → Int → Int → Int → Int → Int → St → Option (Int × St)) (v1 : Int) (v2 : Int) (v3 : Int) (v4 : Int) (v5 : Int) (v7 : Int) (v9 : Int) (σ : St) : Option (Int × St) :=
  K76 v1 v2 v3 v4 v5 v7 (v9 + 1) σ
def p_X8_liveYear_187 (K52 : Int → Int → Int → St → Option (Int × St)) (K61 : Int → Int → Int → Int → St → Option (Int × St)) (K76 : Int → Int → Int → Int → Int → Int → Int → St → Option (Int × St)) (v1 : Int) (v2 : Int) (v3 : Int) (v4 : Int) (v5 : Int) (v9 : Int) (vs0 : Int) (vs1 : Int) (vs2 : Int) (σ : St) : Option (Int × St) :=
  p_X8_liveYear_192 K52 K61 K76 v1 v2 v3 v4 v5 (vs0 + (vs1 * (zm vs2))) v9 σ
def p_X8_liveYear_139 (K52 : Int → Int → Int → St → Option (Int × St)) (K61 : Int → Int → Int → Int → St → Option (Int × St)) (K76 : Int → Int → Int → Int → Int → Int → Int → St → Option (Int × St)) (v1 : Int) (v2 : Int) (v3 : Int) (v4 : Int) (v5 : Int) (v7 : Int) (v9 : Int) (v10 : Int) (vs1 : Int) (vs2 : Int) (vs3 : Int) (σ : St) : Option (Int × St) :=
  Option.bind (p_X8_oddsOf vs1 vs2 vs3 σ) fun x139 => gd (0 ≤ zm (x139.2 0 29) ∧ zm (x139.2 0 29) < 3) (if zm v10 ≤ zm (x139.2 6 (zm (x139.2 0 29))) then (p_X8_liveYear_187 K52 K61 K76 v1 v2 v3 v4 (v5 + (zm x139.1)) v9 v7 (zm x139.1) 0 x139.2) else (p_X8_liveYear_187 K52 K61 K76 v1 v2 v3 v4 (v5 + (zm x139.1)) v9 v7 (zm x139.1) (v10 - (x139.2 6 (zm (x139.2 0 29)))) x139.2))
def p_X8_liveYear_76b (K52 : Int → Int → Int → St → Option (Int × St)) (K61 : Int → Int → Int → Int → St → Option (Int × St)) (K76 : Int → Int → Int → Int → Int → Int → Int → St → Option (Int × St)) (v1 : Int) (v2 : Int) (v3 : Int) (v4 : Int) (v5 : Int) (v7 : Int) (v9 : Int) (σ : St) : Option (Int × St) :=
  gd (0 ≤ zm (σ 0 28) ∧ zm (σ 0 28) < 4) (if zm (σ 8 (zm (σ 0 28))) ≤ zm v9 then (gd (0 ≤ zm v4 ∧ zm v4 < 4) (nx (su σ 0 39 ((σ 0 39) + ((zl ((zm (σ 21 (zm v4))) * v7)).tdiv 1000000))) fun σ219 => nx (su σ219 22 (zm v4) ((zl ((zm (σ219 21 (zm v4))) * v5)).tdiv 1000)) fun σ244 => K61 v1 v2 v3 (v4 + 1) σ244)) else (gd (0 ≤ zm ((8 * (σ 0 28)) + v9) ∧ zm ((8 * (σ 0 28)) + v9) < 32) (Option.bind (p_X8_asks v2 0 v1 v3 v4 (σ 9 (zm ((8 * (σ 0 28)) + v9))) σ) fun x116 => if zm x116.1 = 0 then (p_X8_liveYear_192 K52 K61 K76 v1 v2 v3 v4 v5 v7 v9 x116.2) else (if zm v2 = 1 then (p_X8_liveYear_139 K52 K61 K76 v1 v2 v3 v4 v5 v7 v9 (σ 9 (zm ((8 * (σ 0 28)) + v9))) (x116.2 0 28) v9 1 x116.2) else (p_X8_liveYear_139 K52 K61 K76 v1 v2 v3 v4 v5 v7 v9 (σ 9 (zm ((8 * (σ 0 28)) + v9))) (x116.2 0 28) v9 0 x116.2)))))
def p_X8_liveYear_76 (K52 : Int → Int → Int → St → Option (Int × St)) (K61 : Int → Int → Int → Int → St → Option (Int × St)) : Nat → Int → Int → Int → Int → Int → Int → Int → St → Option (Int × St)
  | 0, _, _, _, _, _, _, _, _ => none
  | n + 1, v1, v2, v3, v4, v5, v7, v9, σ => p_X8_liveYear_76b K52 K61 (p_X8_liveYear_76 K52 K61 n) v1 v2 v3 v4 v5 v7 v9 σ
def p_X8_liveYear_61b (K52 : Int → Int → Int → St → Option (Int × St)) (K61 : Int → Int → Int → Int → St → Option (Int × St)) (v1 : Int) (v2 : Int) (v3 : Int) (v4 : Int) (σ : St) : Option (Int × St) :=
  if 4 ≤ zm v4 then (p_X8_liveYear_254 K52 FU v1 v2 v3 2 σ) else (p_X8_liveYear_76 K52 K61 FU v1 v2 v3 v4 0 0 0 σ)
def p_X8_liveYear_61 (K52 : Int → Int → Int → St → Option (Int × St)) : Nat → Int → Int → Int → Int → St → Option (Int × St)
  | 0, _, _, _, _, _ => none
  | n + 1, v1, v2, v3, v4, σ => p_X8_liveYear_61b K52 (p_X8_liveYear_61 K52 n) v1 v2 v3 v4 σ
def p_X8_liveYear_52b  (K52 : Int → Int → Int → St → Option (Int × St)) (v1 : Int) (v2 : Int) (v3 : Int) (σ : St) : Option (Int × St) :=
  if 12 ≤ zm v3 then (some (0, σ)) else (p_X8_liveYear_61 K52 FU v1 v2 v3 0 σ)
def p_X8_liveYear_52  : Nat → Int → Int → Int → St → Option (Int × St)
  | 0, _, _, _, _ => none
  | n + 1, v1, v2, v3, σ => p_X8_liveYear_52b  (p_X8_liveYear_52  n) v1 v2 v3 σ
def p_X8_liveYear_43 (K22 : Int → Int → Int → St → Option (Int × St)) (v1 : Int) (v2 : Int) (v3 : Int) (os0 : Int) (vs1 : Int) (vs2 : Int) (σ : St) : Option (Int × St) :=
  gd (0 ≤ zm vs1 ∧ zm vs1 < 4) (nx (su σ os0 (zm vs1) vs2) fun σ43 => K22 v1 v2 (v3 + 1) σ43)
def p_X8_liveYear_22b  (K22 : Int → Int → Int → St → Option (Int × St)) (v1 : Int) (v2 : Int) (v3 : Int) (σ : St) : Option (Int × St) :=
  if 4 ≤ zm v3 then (p_X8_liveYear_52  FU v1 v2 0 σ) else (if zm v3 = 0 then (p_X8_liveYear_43 K22 v1 v2 v3 21 v3 1000000 σ) else (p_X8_liveYear_43 K22 v1 v2 v3 21 v3 0 σ))
def p_X8_liveYear_22  : Nat → Int → Int → Int → St → Option (Int × St)
  | 0, _, _, _, _ => none
  | n + 1, v1, v2, v3, σ => p_X8_liveYear_22b  (p_X8_liveYear_22  n) v1 v2 v3 σ
def p_X8_liveYear_14  (v1 : Int) (vs0 : Int) (σ : St) : Option (Int × St) :=
  nx (su σ 0 39 0) fun σ17 => p_X8_liveYear_22  FU v1 vs0 0 σ17
def p_X8_liveYear  (v1 : Int) (σ : St) : Option (Int × St) :=
  Option.bind (p_X8_isPained 0 v1 σ) fun x3 => if zm x3.1 = 0 then (p_X8_liveYear_14  v1 0 x3.2) else (p_X8_liveYear_14  v1 1 x3.2)
/-! RungHouseModel.stand -/
def p_X8_stand_206 (K51 : Int → Int → Int → St → Option (Int × St)) (K176 : Int → Int → Int → Int → Int → St → Option (Int × St)) (v1 : Int) (v2 : Int) (v3 : Int) (v4 : Int) (v5 : Int) (os0 : Int) (vs1 : Int) (vs2 : Int) (vs3 : Int) (σ : St) : Option (Int × St) :=
  gd (0 ≤ zm vs1 ∧ zm vs1 < 10) (nx (su σ os0 (zm vs1) (vs2 + vs3)) fun σ207 => K176 v1 v2 v3 v4 (v5 + 1) σ207)
def p_X8_stand_176b (K51 : Int → Int → Int → St → Option (Int × St)) (K176 : Int → Int → Int → Int → Int → St → Option (Int × St)) (v1 : Int) (v2 : Int) (v3 : Int) (v4 : Int) (v5 : Int) (σ : St) : Option (Int × St) :=
  if zm v2 ≤ zm v5 then (K51 v1 v2 (v3 + 1) σ) else (gd (0 ≤ zm v5 ∧ zm v5 < 10) (if zm v5 = 0 then (p_X8_stand_206 K51 K176 v1 v2 v3 v4 v5 23 v5 (σ 24 (zm v5)) v4 σ) else (p_X8_stand_206 K51 K176 v1 v2 v3 v4 v5 23 v5 (σ 24 (zm v5)) 0 σ)))
def p_X8_stand_176 (K51 : Int → Int → Int → St → Option (Int × St)) : Nat → Int → Int → Int → Int → Int → St → Option (Int × St)
  | 0, _, _, _, _, _, _ => none
  | n + 1, v1, v2, v3, v4, v5, σ => p_X8_stand_176b K51 (p_X8_stand_176 K51 n) v1 v2 v3 v4 v5 σ
def p_X8_stand_102b (K51 : Int → Int → Int → St → Option (Int × St)) (K87 : Int → Int → Int → Int → Int → St → Option (Int × St)) (K102 : Int → Int → Int → Int → Int → Int → St → Option (Int × St)) (v1 : Int) (v2 : Int) (v3 : Int) (v4 : Int) (v5 : Int) (v6 : Int) (σ : St) : Option (Int × St) :=
  if 4 ≤ zm v6 then (K87 v1 v2 v3 v4 (v5 + 1) σ) else (gd (0 ≤ zm v5 ∧ zm v5 < 10) (gd (0 ≤ zm v6 ∧ zm v6 < 4) (nz (((zl ((zm (σ 23 (zm v5))) * (zm (σ 21 (zm v6))))).tdiv 1000000)) fun z130 => Option.bind (p_X8_nextOf (σ 0 29) v5 v6 σ) fun x145 => gd (0 ≤ zm x145.1 ∧ zm x145.1 < 10) (nx (su x145.2 24 (zm x145.1) ((x145.2 24 (zm x145.1)) + z130)) fun σ153 => K102 v1 v2 v3 (v4 - z130) v5 (v6 + 1) σ153))))
def p_X8_stand_102 (K51 : Int → Int → Int → St → Option (Int × St)) (K87 : Int → Int → Int → Int → Int → St → Option (Int × St)) : Nat → Int → Int → Int → Int → Int → Int → St → Option (Int × St)
  | 0, _, _, _, _, _, _, _ => none
  | n + 1, v1, v2, v3, v4, v5, v6, σ => p_X8_stand_102b K51 K87 (p_X8_stand_102 K51 K87 n) v1 v2 v3 v4 v5 v6 σ
def p_X8_stand_87b (K51 : Int → Int → Int → St → Option (Int × St)) (K87 : Int → Int → Int → Int → Int → St → Option (Int × St)) (v1 : Int) (v2 : Int) (v3 : Int) (v4 : Int) (v5 : Int) (σ : St) : Option (Int × St) :=
  if zm v2 ≤ zm v5 then (p_X8_stand_176 K51 FU v1 v2 v3 v4 0 σ) else (Option.bind (p_X8_liveYear v5 σ) fun x96 => p_X8_stand_102 K51 K87 FU v1 v2 v3 v4 v5 0 x96.2)
def p_X8_stand_87 (K51 : Int → Int → Int → St → Option (Int × St)) : Nat → Int → Int → Int → Int → Int → St → Option (Int × St)
  | 0, _, _, _, _, _, _ => none
  | n + 1, v1, v2, v3, v4, v5, σ => p_X8_stand_87b K51 (p_X8_stand_87 K51 n) v1 v2 v3 v4 v5 σ
def p_X8_stand_64b (K51 : Int → Int → Int → St → Option (Int × St)) (K64 : Int → Int → Int → Int → Int → St → Option (Int × St)) (v1 : Int) (v2 : Int) (v3 : Int) (v4 : Int) (v5 : Int) (σ : St) : Option (Int × St) :=
  if zm v2 ≤ zm v5 then (p_X8_stand_87 K51 FU v1 v2 v3 v4 0 σ) else (gd (0 ≤ zm v5 ∧ zm v5 < 10) (nx (su σ 24 (zm v5) 0) fun σ77 => K64 v1 v2 v3 v4 (v5 + 1) σ77))
def p_X8_stand_64 (K51 : Int → Int → Int → St → Option (Int × St)) : Nat → Int → Int → Int → Int → Int → St → Option (Int × St)
  | 0, _, _, _, _, _, _ => none
  | n + 1, v1, v2, v3, v4, v5, σ => p_X8_stand_64b K51 (p_X8_stand_64 K51 n) v1 v2 v3 v4 v5 σ
def p_X8_stand_51b  (K51 : Int → Int → Int → St → Option (Int × St)) (v1 : Int) (v2 : Int) (v3 : Int) (σ : St) : Option (Int × St) :=
  if zm v1 ≤ zm v3 then (some (0, σ)) else (p_X8_stand_64 K51 FU v1 v2 v3 1000000 0 σ)
def p_X8_stand_51  : Nat → Int → Int → Int → St → Option (Int × St)
  | 0, _, _, _, _ => none
  | n + 1, v1, v2, v3, σ => p_X8_stand_51b  (p_X8_stand_51  n) v1 v2 v3 σ
def p_X8_stand_42 (K12 : Int → Int → Int → St → Option (Int × St)) (v1 : Int) (v2 : Int) (v3 : Int) (os0 : Int) (vs1 : Int) (vs2 : Int) (σ : St) : Option (Int × St) :=
  gd (0 ≤ zm vs1 ∧ zm vs1 < 10) (nx (su σ os0 (zm vs1) vs2) fun σ42 => K12 v1 v2 (v3 + 1) σ42)
def p_X8_stand_12b  (K12 : Int → Int → Int → St → Option (Int × St)) (v1 : Int) (v2 : Int) (v3 : Int) (σ : St) : Option (Int × St) :=
  if zm v2 ≤ zm v3 then (p_X8_stand_51  FU v1 v2 0 σ) else (gd (0 ≤ zm (σ 0 29) ∧ zm (σ 0 29) < 3) (if zm v3 = zm (σ 7 (zm (σ 0 29))) then (p_X8_stand_42 K12 v1 v2 v3 23 v3 1000000 σ) else (p_X8_stand_42 K12 v1 v2 v3 23 v3 0 σ)))
def p_X8_stand_12  : Nat → Int → Int → Int → St → Option (Int × St)
  | 0, _, _, _, _ => none
  | n + 1, v1, v2, v3, σ => p_X8_stand_12b  (p_X8_stand_12  n) v1 v2 v3 σ
def p_X8_stand  (v1 : Int) (σ : St) : Option (Int × St) :=
  gd (0 ≤ zm (σ 0 29) ∧ zm (σ 0 29) < 3) (p_X8_stand_12  FU v1 (σ 1 (zm (σ 0 29))) 0 σ)
/-! RungHouseModel.isBy -/
def p_X8_isBy_13   (σ : St) : Option (Int × St) :=
  some (1, σ)
def p_X8_isBy  (v1 : Int) (σ : St) : Option (Int × St) :=
  if zm v1 = (-1) then (p_X8_isBy_13   σ) else (Option.bind (p_X8_isRule v1 σ) fun x7 => if zm x7.1 = 0 then (some (0, x7.2)) else (p_X8_isBy_13   x7.2))
/-! RungHouseModel.standing -/
def p_X8_standing  (v1 : Int) (v2 : Int) (v3 : Int) (v4 : Int) (v5 : Int) (v6 : Int) (σ : St) : Option (Int × St) :=
  Option.bind (p_X8_isSort v1 σ) fun x2 => if zm x2.1 = 0 then (some ((-1000000001), x2.2)) else (Option.bind (p_X8_isRung v2 v6 x2.2) fun x12 => if zm x12.1 = 0 then (some ((-1000000001), x12.2)) else (Option.bind (p_X8_isBy v3 x12.2) fun x20 => if zm x20.1 = 0 then (some ((-1000000001), x20.2)) else (Option.bind (p_X8_isTime v4 x20.2) fun x31 => if zm x31.1 = 0 then (some ((-1000000002), x31.2)) else (Option.bind (p_X8_within (zm v5) 0 30 x31.2) fun x44 => if zm x44.1 = 0 then (some ((-1000000002), x44.2)) else (Option.bind (p_X8_work v1 v2 v3 v4 x44.2) fun x59 => Option.bind (p_X8_stand v5 x59.2) fun x65 => gd (0 ≤ zm v6 ∧ zm v6 < 10) (some ((x65.2 23 (zm v6)), x65.2)))))))
/-! RungHouseModel.odds -/
def p_X8_odds  (v1 : Int) (v2 : Int) (v3 : Int) (v4 : Int) (v5 : Int) (v6 : Int) (σ : St) : Option (Int × St) :=
  Option.bind (p_X8_isSort v1 σ) fun x2 => if zm x2.1 = 0 then (some ((-1000000001), x2.2)) else (Option.bind (p_X8_isRung v2 v5 x2.2) fun x12 => if zm x12.1 = 0 then (some ((-1000000001), x12.2)) else (Option.bind (p_X8_isBy v3 x12.2) fun x20 => if zm x20.1 = 0 then (some ((-1000000001), x20.2)) else (Option.bind (p_X8_isTime v4 x20.2) fun x31 => if zm x31.1 = 0 then (some ((-1000000002), x31.2)) else (Option.bind (p_X8_within (zm v6) 0 3 x31.2) fun x44 => if zm x44.1 = 0 then (some ((-1000000002), x44.2)) else (Option.bind (p_X8_work v1 v2 v3 v4 x44.2) fun x59 => Option.bind (p_X8_liveYear v5 x59.2) fun x65 => gd (0 ≤ zm v6 ∧ zm v6 < 4) (some ((x65.2 21 (zm v6)), x65.2)))))))
/-! RungHouseModel.evenAt -/
def p_X8_evenAt_115  (vs0 : Int) (σ : St) : Option (Int × St) :=
  some (vs0, σ)
def p_X8_evenAt_13b  (K13 : Int → Int → Int → Int → St → Option (Int × St)) (v2 : Int) (v3 : Int) (v5 : Int) (v7 : Int) (σ : St) : Option (Int × St) :=
  gd (0 ≤ zm (σ 0 29) ∧ zm (σ 0 29) < 3) (if zm (σ 1 (zm (σ 0 29))) ≤ zm v7 then (if zm v2 = 0 then (p_X8_evenAt_115  v3 σ) else (if zm v2 = 1 then (p_X8_evenAt_115  v5 σ) else (p_X8_evenAt_115  (v3 - v5) σ))) else (Option.bind (p_X8_liveYear v7 σ) fun x30 => gd (0 ≤ zm v7 ∧ zm v7 < 10) (gd (0 ≤ zm ((10 * (x30.2 0 29)) + v7) ∧ zm ((10 * (x30.2 0 29)) + v7) < 30) (nz ((v3 + ((zl ((zm (x30.2 23 (zm v7))) * (zm (x30.2 2 (zm ((10 * (x30.2 0 29)) + v7)))))).tdiv 1000))) fun z64 => nz ((v5 + ((zl ((zm (x30.2 23 (zm v7))) * (x30.2 0 39))).tdiv 1000000))) fun z85 => K13 v2 z64 z85 (v7 + 1) x30.2))))
def p_X8_evenAt_13  : Nat → Int → Int → Int → Int → St → Option (Int × St)
  | 0, _, _, _, _, _ => none
  | n + 1, v2, v3, v5, v7, σ => p_X8_evenAt_13b  (p_X8_evenAt_13  n) v2 v3 v5 v7 σ
def p_X8_evenAt  (v1 : Int) (v2 : Int) (σ : St) : Option (Int × St) :=
  Option.bind (p_X8_stand v1 σ) fun x2 => p_X8_evenAt_13  FU v2 0 0 0 x2.2
/-! RungHouseModel.even -/
def p_X8_even  (v1 : Int) (v2 : Int) (v3 : Int) (v4 : Int) (v5 : Int) (v6 : Int) (σ : St) : Option (Int × St) :=
  Option.bind (p_X8_isSort v1 σ) fun x2 => if zm x2.1 = 0 then (some ((-1000000001), x2.2)) else (Option.bind (p_X8_isHouse v2 x2.2) fun x10 => if zm x10.1 = 0 then (some ((-1000000001), x10.2)) else (Option.bind (p_X8_isBy v3 x10.2) fun x18 => if zm x18.1 = 0 then (some ((-1000000001), x18.2)) else (Option.bind (p_X8_isTime v4 x18.2) fun x29 => if zm x29.1 = 0 then (some ((-1000000002), x29.2)) else (Option.bind (p_X8_within (zm v5) 0 30 x29.2) fun x42 => if zm x42.1 = 0 then (some ((-1000000002), x42.2)) else (Option.bind (p_X8_within (zm v6) 0 2 x42.2) fun x55 => if zm x55.1 = 0 then (some ((-1000000002), x55.2)) else (Option.bind (p_X8_work v1 v2 v3 v4 x55.2) fun x70 => Option.bind (p_X8_evenAt v5 v6 x70.2) fun x78 => some (x78.1, x78.2)))))))
/-! RungHouseModel.year -/
def p_X8_year  (v1 : Int) (v2 : Int) (σ : St) : Option (Int × St) :=
  Option.bind (p_X8_within (zm v1) 0 9 σ) fun x6 => if zm x6.1 = 0 then (some ((-1000000002), x6.2)) else (Option.bind (p_X8_within (zm v2) 0 3 x6.2) fun x18 => if zm x18.1 = 0 then (some ((-1000000002), x18.2)) else (if zm (x18.2 0 42) = 8 then (some ((-1000000004), x18.2)) else (gd (0 ≤ zm (x18.2 0 42) ∧ zm (x18.2 0 42) < 8) (nx (su x18.2 25 (zm (x18.2 0 42)) v1) fun σ48 => gd (0 ≤ zm (σ48 0 42) ∧ zm (σ48 0 42) < 8) (nx (su σ48 26 (zm (σ48 0 42)) v2) fun σ58 => nx (su σ58 0 42 ((σ58 0 42) + 1)) fun σ66 => some ((σ66 0 42), σ66))))))
/-! RungHouseModel.clear -/
def p_X8_clear   (σ : St) : Option (Int × St) :=
  nx (su σ 0 42 0) fun σ12 => nx (su σ12 0 33 0) fun σ17 => some (((σ 0 42) + (σ 0 33)), σ17)
/-! RungHouseModel.weigh -/
def p_X8_weigh_222 (K88 : Int → St → Option (Int × St)) (v3 : Int) (σ : St) : Option (Int × St) :=
  K88 (v3 + 1) σ
def p_X8_weigh_179b (K88 : Int → St → Option (Int × St)) (K179 : Int → Int → Int → St → Option (Int × St)) (v3 : Int) (v4 : Int) (v6 : Int) (σ : St) : Option (Int × St) :=
  if zm (σ 0 7) ≤ zm v6 then (p_X8_weigh_222 K88 v3 σ) else (if zm (zcmp v4 0) ≤ 0 then (p_X8_weigh_222 K88 v3 σ) else (gd (0 ≤ zm v6 ∧ zm v6 < 4) (gd (¬ zl v4 = 0) (nx (su σ 27 (zm v6) ((zl ((σ 27 (zm v6)) * 100000)).tdiv (zl v4))) fun σ215 => K179 v3 v4 (v6 + 1) σ215))))
def p_X8_weigh_179 (K88 : Int → St → Option (Int × St)) : Nat → Int → Int → Int → St → Option (Int × St)
  | 0, _, _, _, _ => none
  | n + 1, v3, v4, v6, σ => p_X8_weigh_179b K88 (p_X8_weigh_179 K88 n) v3 v4 v6 σ
def p_X8_weigh_168 (K88 : Int → St → Option (Int × St)) (K102 : Int → Int → Int → St → Option (Int × St)) (v3 : Int) (v6 : Int) (vs0 : Int) (σ : St) : Option (Int × St) :=
  K102 v3 vs0 (v6 + 1) σ
def p_X8_weigh_102b (K88 : Int → St → Option (Int × St)) (K102 : Int → Int → Int → St → Option (Int × St)) (v3 : Int) (v4 : Int) (v6 : Int) (σ : St) : Option (Int × St) :=
  if zm (σ 0 7) ≤ zm v6 then (p_X8_weigh_179 K88 FU v3 v4 0 σ) else (gd (0 ≤ zm v6 ∧ zm v6 < 4) (gd (0 ≤ zm ((8 * v6) + v3) ∧ zm ((8 * v6) + v3) < 32) (nx (su σ 27 (zm v6) ((zl ((σ 27 (zm v6)) * (zm (σ 28 (zm ((8 * v6) + v3)))))).tdiv 1000000)) fun σ142 => if zm (zcmp (σ142 27 (zm v6)) v4) ≤ 0 then (p_X8_weigh_168 K88 K102 v3 v6 v4 σ142) else (p_X8_weigh_168 K88 K102 v3 v6 (σ142 27 (zm v6)) σ142))))
def p_X8_weigh_102 (K88 : Int → St → Option (Int × St)) : Nat → Int → Int → Int → St → Option (Int × St)
  | 0, _, _, _, _ => none
  | n + 1, v3, v4, v6, σ => p_X8_weigh_102b K88 (p_X8_weigh_102 K88 n) v3 v4 v6 σ
def p_X8_weigh_88b  (K88 : Int → St → Option (Int × St)) (v3 : Int) (σ : St) : Option (Int × St) :=
  if zm (σ 0 42) ≤ zm v3 then (some (0, σ)) else (p_X8_weigh_102 K88 FU v3 0 0 σ)
def p_X8_weigh_88  : Nat → Int → St → Option (Int × St)
  | 0, _, _ => none
  | n + 1, v3, σ => p_X8_weigh_88b  (p_X8_weigh_88  n) v3 σ
def p_X8_weigh_30b (K2 : Int → Int → Int → St → Option (Int × St)) (K30 : Int → Int → Int → Int → St → Option (Int × St)) (v1 : Int) (v2 : Int) (v3 : Int) (v4 : Int) (σ : St) : Option (Int × St) :=
  if zm (σ 0 42) ≤ zm v4 then (K2 v1 v2 (v3 + 1) σ) else (gd (0 ≤ zm v4 ∧ zm v4 < 8) (Option.bind (p_X8_liveYear (σ 25 (zm v4)) σ) fun x47 => gd (0 ≤ zm (x47.2 26 (zm v4)) ∧ zm (x47.2 26 (zm v4)) < 4) (gd (0 ≤ zm ((8 * v3) + v4) ∧ zm ((8 * v3) + v4) < 32) (nx (su x47.2 28 (zm ((8 * v3) + v4)) (x47.2 21 (zm (x47.2 26 (zm v4))))) fun σ73 => K30 v1 v2 v3 (v4 + 1) σ73))))
def p_X8_weigh_30 (K2 : Int → Int → Int → St → Option (Int × St)) : Nat → Int → Int → Int → Int → St → Option (Int × St)
  | 0, _, _, _, _, _ => none
  | n + 1, v1, v2, v3, v4, σ => p_X8_weigh_30b K2 (p_X8_weigh_30 K2 n) v1 v2 v3 v4 σ
def p_X8_weigh_2b  (K2 : Int → Int → Int → St → Option (Int × St)) (v1 : Int) (v2 : Int) (v3 : Int) (σ : St) : Option (Int × St) :=
  if zm (σ 0 7) ≤ zm v3 then (p_X8_weigh_88  FU 0 σ) else (gd (0 ≤ zm v3 ∧ zm v3 < 4) (nx (su σ 27 (zm v3) 100000) fun σ18 => Option.bind (p_X8_work v3 v1 (-1) v2 σ18) fun x24 => p_X8_weigh_30 K2 FU v1 v2 v3 0 x24.2))
def p_X8_weigh_2  : Nat → Int → Int → Int → St → Option (Int × St)
  | 0, _, _, _, _ => none
  | n + 1, v1, v2, v3, σ => p_X8_weigh_2b  (p_X8_weigh_2  n) v1 v2 v3 σ
def p_X8_weigh  (v1 : Int) (v2 : Int) (σ : St) : Option (Int × St) :=
  p_X8_weigh_2  FU v1 v2 0 σ
/-! RungHouseModel.think -/
def p_X8_think_78b  (K78 : Int → Int → Int → St → Option (Int × St)) (v1 : Int) (v4 : Int) (v6 : Int) (σ : St) : Option (Int × St) :=
  if zm (σ 0 7) ≤ zm v6 then (if zm (zcmp v4 0) = 0 then (some (0, σ)) else (gd (0 ≤ zm v1 ∧ zm v1 < 4) (gd (¬ zl v4 = 0) (some (((zl (100 * (σ 27 (zm v1)))).tdiv (zl v4)), σ))))) else (gd (0 ≤ zm v6 ∧ zm v6 < 4) (K78 v1 (v4 + (σ 27 (zm v6))) (v6 + 1) σ))
def p_X8_think_78  : Nat → Int → Int → Int → St → Option (Int × St)
  | 0, _, _, _, _ => none
  | n + 1, v1, v4, v6, σ => p_X8_think_78b  (p_X8_think_78  n) v1 v4 v6 σ
def p_X8_think_32b  (K32 : Int → Int → Int → Int → St → Option (Int × St)) (v1 : Int) (v2 : Int) (v3 : Int) (v4 : Int) (σ : St) : Option (Int × St) :=
  if zm (σ 0 42) ≤ zm v4 then (Option.bind (p_X8_weigh v2 v3 σ) fun x69 => p_X8_think_78  FU v1 0 0 x69.2) else (gd (0 ≤ zm v4 ∧ zm v4 < 8) (gd (0 ≤ zm v2 ∧ zm v2 < 3) (if zm (σ 25 (zm v4)) < zm (σ 1 (zm v2)) then (K32 v1 v2 v3 (v4 + 1) σ) else (some ((-1000000003), σ)))))
def p_X8_think_32  : Nat → Int → Int → Int → Int → St → Option (Int × St)
  | 0, _, _, _, _, _ => none
  | n + 1, v1, v2, v3, v4, σ => p_X8_think_32b  (p_X8_think_32  n) v1 v2 v3 v4 σ
def p_X8_think  (v1 : Int) (v2 : Int) (v3 : Int) (σ : St) : Option (Int × St) :=
  Option.bind (p_X8_isSort v1 σ) fun x2 => if zm x2.1 = 0 then (some ((-1000000001), x2.2)) else (Option.bind (p_X8_isHouse v2 x2.2) fun x10 => if zm x10.1 = 0 then (some ((-1000000001), x10.2)) else (Option.bind (p_X8_isTime v3 x10.2) fun x20 => if zm x20.1 = 0 then (some ((-1000000002), x20.2)) else (p_X8_think_32  FU v1 v2 v3 0 x20.2)))
/-! RungHouseModel.buy -/
def p_X8_buy  (v1 : Int) (v2 : Int) (v3 : Int) (v4 : Int) (v5 : Int) (v6 : Int) (σ : St) : Option (Int × St) :=
  Option.bind (p_X8_isSort v1 σ) fun x2 => if zm x2.1 = 0 then (some ((-1000000001), x2.2)) else (Option.bind (p_X8_isRung v2 v5 x2.2) fun x12 => if zm x12.1 = 0 then (some ((-1000000001), x12.2)) else (Option.bind (p_X8_isWhen v3 v4 x12.2) fun x25 => if zm x25.1 = 0 then (some ((-1000000002), x25.2)) else (Option.bind (p_X8_within (zm v6) 1 3 x25.2) fun x38 => if zm x38.1 = 0 then (some ((-1000000002), x38.2)) else (Option.bind (p_X8_work v1 v2 (-1) v3 x38.2) fun x52 => Option.bind (p_X8_nextOf v2 v5 v6 x52.2) fun x72 => gd (0 ≤ zm ((10 * (v4 + 1)) + x72.1) ∧ zm ((10 * (v4 + 1)) + x72.1) < 310) (Option.bind (p_X8_nextOf v2 v5 (v6 - 1) x72.2) fun x96 => gd (0 ≤ zm ((10 * (v4 + 1)) + x96.1) ∧ zm ((10 * (v4 + 1)) + x96.1) < 310) (some (((x72.2 16 (zm ((10 * (v4 + 1)) + x72.1))) - (x96.2 16 (zm ((10 * (v4 + 1)) + x96.1)))), x96.2)))))))
/-! RungHouseModel.keepRung -/
def p_X8_keepRung  (v1 : Int) (v2 : Int) (v3 : Int) (v4 : Int) (σ : St) : Option (Int × St) :=
  Option.bind (p_X8_isSort v1 σ) fun x2 => if zm x2.1 = 0 then (some ((-1000000001), x2.2)) else (Option.bind (p_X8_isRung v2 v4 x2.2) fun x12 => if zm x12.1 = 0 then (some ((-1000000001), x12.2)) else (Option.bind (p_X8_isTime v3 x12.2) fun x22 => if zm x22.1 = 0 then (some ((-1000000002), x22.2)) else (Option.bind (p_X8_work v1 v2 (-1) v3 x22.2) fun x36 => gd (0 ≤ zm v4 ∧ zm v4 < 310) (Option.bind (p_X8_copyHouse v2 2 x36.2) fun x51 => nx (su x51.2 3 2 (zor (x51.2 3 2) (zshl 1 v4))) fun σ66 => Option.bind (p_X8_work v1 2 (-1) v3 σ66) fun x72 => some (((x36.2 16 (zm v4)) - (x72.2 16 (zm v4))), x72.2)))))
/-! RungHouseModel.leave -/
def p_X8_leave_98  (v5 : Int) (os0 : Int) (vs1 : Int) (σ : St) : Option (Int × St) :=
  gd (0 ≤ zm vs1 ∧ zm vs1 < 310) (if zm v5 ≤ zm (σ os0 (zm vs1)) then (some (0, σ)) else (some (1, σ)))
def p_X8_leave  (v1 : Int) (v2 : Int) (v3 : Int) (v4 : Int) (σ : St) : Option (Int × St) :=
  Option.bind (p_X8_isSort v1 σ) fun x2 => if zm x2.1 = 0 then (some ((-1000000001), x2.2)) else (Option.bind (p_X8_isRung v2 v4 x2.2) fun x12 => if zm x12.1 = 0 then (some ((-1000000001), x12.2)) else (Option.bind (p_X8_isHouse (1 - v2) x12.2) fun x22 => if zm x22.1 = 0 then (some ((-1000000001), x22.2)) else (Option.bind (p_X8_isTime v3 x22.2) fun x32 => if zm x32.1 = 0 then (some ((-1000000002), x32.2)) else (Option.bind (p_X8_work v1 v2 (-1) v3 x32.2) fun x46 => gd (0 ≤ zm v4 ∧ zm v4 < 310) (Option.bind (p_X8_work v1 (1 - v2) (-1) v3 x46.2) fun x65 => gd (0 ≤ zm (1 - v2) ∧ zm (1 - v2) < 3) (if zm (x65.2 7 (zm (1 - v2))) ≤ zm v4 then (p_X8_leave_98  (x46.2 16 (zm v4)) 16 (x65.2 7 (zm (1 - v2))) x65.2) else (p_X8_leave_98  (x46.2 16 (zm v4)) 16 v4 x65.2)))))))
/-! RungHouseModel.pad -/
def p_X8_pad  (v1 : Int) (v2 : Int) (v3 : Int) (v4 : Int) (v5 : Int) (v6 : Int) (v7 : Int) (v8 : Int) (v9 : Int) (σ : St) : Option (Int × St) :=
  Option.bind (p_X8_isSort v1 σ) fun x2 => if zm x2.1 = 0 then (some ((-1000000001), x2.2)) else (Option.bind (p_X8_isRung v2 v4 x2.2) fun x12 => if zm x12.1 = 0 then (some ((-1000000001), x12.2)) else (Option.bind (p_X8_isTime v3 x12.2) fun x22 => if zm x22.1 = 0 then (some ((-1000000002), x22.2)) else (Option.bind (p_X8_within (zm v5) 0 11 x22.2) fun x35 => if zm x35.1 = 0 then (some ((-1000000002), x35.2)) else (Option.bind (p_X8_within (zm v6) 0 3 x35.2) fun x48 => if zm x48.1 = 0 then (some ((-1000000002), x48.2)) else (Option.bind (p_X8_within (zm v7) 1 999 x48.2) fun x61 => if zm x61.1 = 0 then (some ((-1000000002), x61.2)) else (Option.bind (p_X8_within (zm v8) 0 999 x61.2) fun x74 => if zm x74.1 = 0 then (some ((-1000000002), x74.2)) else (Option.bind (p_X8_within (zm v9) 0 100 x74.2) fun x87 => if zm x87.1 = 0 then (some ((-1000000002), x87.2)) else (Option.bind (p_X8_work v1 v2 (-1) v3 x87.2) fun x101 => Option.bind (p_X8_bears v7 x101.2) fun x110 => Option.bind (p_X8_more v6 x110.2) fun x130 => Option.bind (p_X8_place 0 0 v4 (v5 + 1) x130.1 x130.2) fun x133 => gd (0 ≤ zm x133.1 ∧ zm x133.1 < 31200) (nz (((1000 * (zm x110.1)) + (zm (x133.2 17 (zm x133.1))))) fun z139 => Option.bind (p_X8_place 0 0 v4 (v5 + 1) 3 x133.2) fun x161 => gd (0 ≤ zm x161.1 ∧ zm x161.1 < 31200) (nz (((1000 * (zm v7)) + (zm (x161.2 17 (zm x161.1))))) fun z167 => some (((zl (((100 - (zm v9)) * (1000 * (zm v8))) - ((zm v9) * (z167 - z139)))).tdiv 100), x161.2)))))))))))
/-! RungHouseModel.isEven -/
def p_X8_isEven  (v1 : Int) (v2 : Int) (v3 : Int) (σ : St) : Option (Int × St) :=
  Option.bind (p_X8_work v1 2 (-1) v2 σ) fun x5 => Option.bind (p_X8_evenAt 10 2 x5.2) fun x12 => if zm x12.1 < zm v3 then (some (0, x12.2)) else (some (1, x12.2))
/-! RungHouseModel.pained -/
def p_X8_pained_29 (K4 : Int → Int → Int → St → Option (Int × St)) (v1 : Int) (v3 : Int) (vs0 : Int) (vs1 : Int) (σ : St) : Option (Int × St) :=
  K4 v1 (vs0 + vs1) (v3 + 1) σ
def p_X8_pained_4b  (K4 : Int → Int → Int → St → Option (Int × St)) (v1 : Int) (v2 : Int) (v3 : Int) (σ : St) : Option (Int × St) :=
  if zm (σ 1 2) ≤ zm v3 then (if 0 ≤ zm v1 then (some (v2, σ)) else (some (0, σ))) else (Option.bind (p_X8_isPained 0 v3 σ) fun x18 => if zm x18.1 = 0 then (p_X8_pained_29 K4 v1 v3 v2 0 x18.2) else (p_X8_pained_29 K4 v1 v3 v2 1 x18.2))
def p_X8_pained_4  : Nat → Int → Int → Int → St → Option (Int × St)
  | 0, _, _, _, _ => none
  | n + 1, v1, v2, v3, σ => p_X8_pained_4b  (p_X8_pained_4  n) v1 v2 v3 σ
def p_X8_pained  (v1 : Int) (σ : St) : Option (Int × St) :=
  p_X8_pained_4  FU v1 0 0 σ
/-! RungHouseModel.setting -/
def p_X8_setting_199 (K55 : Int → Int → Int → Int → Int → St → Option (Int × St)) (v2 : Int) (v3 : Int) (v4 : Int) (v5 : Int) (v6 : Int) (σ : St) : Option (Int × St) :=
  K55 v2 v3 v4 v5 (v6 + 1) σ
def p_X8_setting_169 (K55 : Int → Int → Int → Int → Int → St → Option (Int × St)) (v2 : Int) (v3 : Int) (v6 : Int) (v8 : Int) (σ : St) : Option (Int × St) :=
  nz ((((100 * (σ 5 2)) + (10 * (σ 4 2))) + ((zm v6).tmod 3))) fun z193 => p_X8_setting_199 K55 v2 v3 z193 v8 v6 σ
def p_X8_setting_152 (K55 : Int → Int → Int → Int → Int → St → Option (Int × St)) (v2 : Int) (v3 : Int) (v4 : Int) (v5 : Int) (v6 : Int) (v7 : Int) (v8 : Int) (σ : St) : Option (Int × St) :=
  if zm v7 = 0 then (p_X8_setting_199 K55 v2 v3 v4 v5 v6 σ) else (if zm v4 < 0 then (p_X8_setting_169 K55 v2 v3 v6 v8 σ) else (if zm v8 ≤ zm v5 then (p_X8_setting_199 K55 v2 v3 v4 v5 v6 σ) else (p_X8_setting_169 K55 v2 v3 v6 v8 σ)))
def p_X8_setting_111b (K55 : Int → Int → Int → Int → Int → St → Option (Int × St)) (K111 : Int → Int → Int → Int → Int → Int → Int → Int → St → Option (Int × St)) (v2 : Int) (v3 : Int) (v4 : Int) (v5 : Int) (v6 : Int) (v7 : Int) (v8 : Int) (v9 : Int) (σ : St) : Option (Int × St) :=
  if zm (σ 0 7) ≤ zm v9 then (p_X8_setting_152 K55 v2 v3 v4 v5 v6 v7 v8 σ) else (if zm v7 = 0 then (p_X8_setting_152 K55 v2 v3 v4 v5 v6 v7 v8 σ) else (Option.bind (p_X8_isEven v9 v2 v3 σ) fun x130 => Option.bind (p_X8_pained v9 x130.2) fun x140 => K111 v2 v3 v4 v5 v6 x130.1 (v8 + x140.1) (v9 + 1) x140.2))
def p_X8_setting_111 (K55 : Int → Int → Int → Int → Int → St → Option (Int × St)) : Nat → Int → Int → Int → Int → Int → Int → Int → Int → St → Option (Int × St)
  | 0, _, _, _, _, _, _, _, _, _ => none
  | n + 1, v2, v3, v4, v5, v6, v7, v8, v9, σ => p_X8_setting_111b K55 (p_X8_setting_111 K55 n) v2 v3 v4 v5 v6 v7 v8 v9 σ
def p_X8_setting_55b  (K55 : Int → Int → Int → Int → Int → St → Option (Int × St)) (v2 : Int) (v3 : Int) (v4 : Int) (v5 : Int) (v6 : Int) (σ : St) : Option (Int × St) :=
  if 36 ≤ zm v6 then (some (v4, σ)) else (nx (su σ 5 2 (1 + ((zm v6).tdiv 12))) fun σ74 => nx (su σ74 4 2 (1 + ((zm ((zm v6).tdiv 3)).tmod 4))) fun σ88 => nx (su σ88 6 2 (10 * ((zm v6).tmod 3))) fun σ101 => p_X8_setting_111 K55 FU v2 v3 v4 v5 v6 1 0 0 σ101)
def p_X8_setting_55  : Nat → Int → Int → Int → Int → Int → St → Option (Int × St)
  | 0, _, _, _, _, _, _ => none
  | n + 1, v2, v3, v4, v5, v6, σ => p_X8_setting_55b  (p_X8_setting_55  n) v2 v3 v4 v5 v6 σ
def p_X8_setting  (v1 : Int) (v2 : Int) (v3 : Int) (σ : St) : Option (Int × St) :=
  Option.bind (p_X8_isHouse v1 σ) fun x2 => if zm x2.1 = 0 then (some ((-1000000001), x2.2)) else (Option.bind (p_X8_within (zm v2) 1 12 x2.2) fun x17 => if zm x17.1 = 0 then (some ((-1000000002), x17.2)) else (Option.bind (p_X8_within (zm v3) (-9999999) 9999999 x17.2) fun x31 => if zm x31.1 = 0 then (some ((-1000000002), x31.2)) else (Option.bind (p_X8_copyHouse v1 2 x31.2) fun x43 => p_X8_setting_55  FU v2 v3 (-1) 0 0 x43.2)))
/-! RungHouseModel.seed -/
def p_X8_seed  (v1 : Int) (σ : St) : Option (Int × St) :=
  if 0 ≤ zm v1 then (nx (su σ 0 47 v1) fun σ14 => some ((σ 0 47), σ14)) else (some ((-1000000002), σ))
/-! RungHouseModel.draw -/
def p_X8_draw  (v1 : Int) (σ : St) : Option (Int × St) :=
  nx (su σ 0 47 ((zl (((zm (σ 0 47)) * 1103515245) + 12345)).tmod 2147483648)) fun σ19 => gd (¬ zm v1 = 0) (some (((zm ((zm (σ19 0 47)).tdiv 65536)).tmod (zm v1)), σ19))
/-! RungHouseModel.drawScrape -/
def p_X8_drawScrape_13b  (K13 : Int → Int → Int → Int → St → Option (Int × St)) (v1 : Int) (v2 : Int) (v3 : Int) (v4 : Int) (σ : St) : Option (Int × St) :=
  gd (0 ≤ zm v1 ∧ zm v1 < 4) (if zm (σ 8 (zm v1)) ≤ zm v4 then (some ((-1), σ)) else (gd (0 ≤ zm ((8 * v1) + v4) ∧ zm ((8 * v1) + v4) < 32) (if zm (v3 + (σ 10 (zm ((8 * v1) + v4)))) ≤ zm v2 then (K13 v1 v2 (v3 + (σ 10 (zm ((8 * v1) + v4)))) (v4 + 1) σ) else (some (v4, σ)))))
def p_X8_drawScrape_13  : Nat → Int → Int → Int → Int → St → Option (Int × St)
  | 0, _, _, _, _, _ => none
  | n + 1, v1, v2, v3, v4, σ => p_X8_drawScrape_13b  (p_X8_drawScrape_13  n) v1 v2 v3 v4 σ
def p_X8_drawScrape  (v1 : Int) (σ : St) : Option (Int × St) :=
  Option.bind (p_X8_draw 1000 σ) fun x4 => p_X8_drawScrape_13  FU v1 x4.1 0 0 x4.2
/-! RungHouseModel.lives -/
def p_X8_lives_182 (K67 : Int → Int → Int → Int → Int → Int → Int → St → Option (Int × St)) (K97 : Int → Int → Int → Int → Int → Int → Int → Int → Int → St → Option (Int × St)) (v1 : Int) (v2 : Int) (v3 : Int) (v4 : Int) (v5 : Int) (v6 : Int) (v7 : Int) (v8 : Int) (v9 : Int) (σ : St) : Option (Int × St) :=
  K97 v1 v2 v3 v4 v5 v6 v7 v8 (v9 + 1) σ
def p_X8_lives_180 (K67 : Int → Int → Int → Int → Int → Int → Int → St → Option (Int × St)) (K97 : Int → Int → Int → Int → Int → Int → Int → Int → Int → St → Option (Int × St)) (v1 : Int) (v2 : Int) (v3 : Int) (v4 : Int) (v5 : Int) (v6 : Int) (v7 : Int) (v9 : Int) (vs0 : Int) (σ : St) : Option (Int × St) :=
  p_X8_lives_182 K67 K97 v1 v2 v3 v4 v5 v6 v7 vs0 v9 σ
def p_X8_lives_161 (K67 : Int → Int → Int → Int → Int → Int → Int → St → Option (Int × St)) (K97 : Int → Int → Int → Int → Int → Int → Int → Int → Int → St → Option (Int × St)) (v1 : Int) (v2 : Int) (v3 : Int) (v4 : Int) (v5 : Int) (v7 : Int) (v8 : Int) (v9 : Int) (v12 : Int) (vs0 : Int) (vs1 : Int) (σ : St) : Option (Int × St) :=
  if zm v12 = 0 then (p_X8_lives_180 K67 K97 v1 v2 v3 v4 v5 (vs0 + vs1) v7 v9 v8 σ) else (Option.bind (p_X8_more v8 σ) fun x172 => p_X8_lives_180 K67 K97 v1 v2 v3 v4 v5 (vs0 + vs1) v7 v9 x172.1 x172.2)
def p_X8_lives_97b (K67 : Int → Int → Int → Int → Int → Int → Int → St → Option (Int × St)) (K97 : Int → Int → Int → Int → Int → Int → Int → Int → Int → St → Option (Int × St)) (v1 : Int) (v2 : Int) (v3 : Int) (v4 : Int) (v5 : Int) (v6 : Int) (v7 : Int) (v8 : Int) (v9 : Int) (σ : St) : Option (Int × St) :=
  if 12 ≤ zm v9 then (Option.bind (p_X8_nextOf v2 v5 v8 σ) fun x194 => K67 v1 v2 v3 v4 x194.1 v6 (v7 + 1) x194.2) else (Option.bind (p_X8_drawScrape v1 σ) fun x106 => if zm x106.1 < 0 then (p_X8_lives_182 K67 K97 v1 v2 v3 v4 v5 v6 v7 v8 v9 x106.2) else (gd (0 ≤ zm ((8 * v1) + x106.1) ∧ zm ((8 * v1) + x106.1) < 32) (Option.bind (p_X8_asksBy v3 v5 v9 (x106.2 9 (zm ((8 * v1) + x106.1))) x106.2) fun x138 => if zm x138.1 = 0 then (p_X8_lives_161 K67 K97 v1 v2 v3 v4 v5 v7 v8 v9 x138.1 v6 (x106.2 9 (zm ((8 * v1) + x106.1))) x138.2) else (Option.bind (p_X8_bears (x106.2 9 (zm ((8 * v1) + x106.1))) x138.2) fun x153 => p_X8_lives_161 K67 K97 v1 v2 v3 v4 v5 v7 v8 v9 x138.1 v6 x153.1 x153.2))))
def p_X8_lives_97 (K67 : Int → Int → Int → Int → Int → Int → Int → St → Option (Int × St)) : Nat → Int → Int → Int → Int → Int → Int → Int → Int → Int → St → Option (Int × St)
  | 0, _, _, _, _, _, _, _, _, _, _ => none
  | n + 1, v1, v2, v3, v4, v5, v6, v7, v8, v9, σ => p_X8_lives_97b K67 (p_X8_lives_97 K67 n) v1 v2 v3 v4 v5 v6 v7 v8 v9 σ
def p_X8_lives_67b  (K67 : Int → Int → Int → Int → Int → Int → Int → St → Option (Int × St)) (v1 : Int) (v2 : Int) (v3 : Int) (v4 : Int) (v5 : Int) (v6 : Int) (v7 : Int) (σ : St) : Option (Int × St) :=
  if zm v4 ≤ zm v7 then (some (v6, σ)) else (gd (0 ≤ zm ((10 * v2) + v5) ∧ zm ((10 * v2) + v5) < 30) (p_X8_lives_97 K67 FU v1 v2 v3 v4 v5 (v6 + (σ 2 (zm ((10 * v2) + v5)))) v7 0 0 σ))
def p_X8_lives_67  : Nat → Int → Int → Int → Int → Int → Int → Int → St → Option (Int × St)
  | 0, _, _, _, _, _, _, _, _ => none
  | n + 1, v1, v2, v3, v4, v5, v6, v7, σ => p_X8_lives_67b  (p_X8_lives_67  n) v1 v2 v3 v4 v5 v6 v7 σ
def p_X8_lives  (v1 : Int) (v2 : Int) (v3 : Int) (v4 : Int) (σ : St) : Option (Int × St) :=
  Option.bind (p_X8_isSort v1 σ) fun x2 => if zm x2.1 = 0 then (some ((-1000000001), x2.2)) else (Option.bind (p_X8_isHouse v2 x2.2) fun x10 => if zm x10.1 = 0 then (some ((-1000000001), x10.2)) else (Option.bind (p_X8_isRule v3 x10.2) fun x18 => if zm x18.1 = 0 then (some ((-1000000001), x18.2)) else (Option.bind (p_X8_within (zm v4) 1 30 x18.2) fun x34 => if zm x34.1 = 0 then (some ((-1000000002), x34.2)) else (nx (su x34.2 0 29 v2) fun σ45 => nx (su σ45 0 32 0) fun σ50 => gd (0 ≤ zm v2 ∧ zm v2 < 3) (p_X8_lives_67  FU v1 v2 v3 v4 (σ50 7 (zm v2)) 0 0 σ50)))))
/-! RungHouseModel.count -/
def p_X8_count  (v1 : Int) (σ : St) : Option (Int × St) :=
  if zm v1 = 0 then (some ((σ 0 7), σ)) else if zm v1 = 1 then (some ((σ 0 23), σ)) else if zm v1 = 2 then (some ((σ 0 33), σ)) else if zm v1 = 3 then (some ((σ 0 42), σ)) else if zm v1 = 4 then (some ((σ 0 14), σ)) else (some ((-1000000002), σ))
/-! RungHouseModel.keep -/
def p_X8_keep_126b  (K126 : Int → Int → Int → St → Option (Int × St)) (v1 : Int) (v2 : Int) (v3 : Int) (σ : St) : Option (Int × St) :=
  if 8 ≤ zm v3 then (gd (0 ≤ zm v1 ∧ zm v1 < 2) (nx (su σ 30 (zm v1) 1) fun σ178 => some (1, σ178))) else (gd (0 ≤ zm v3 ∧ zm v3 < 8) (gd (0 ≤ zm ((v2 + 75) + v3) ∧ zm ((v2 + 75) + v3) < 200) (nx (su σ 29 (zm ((v2 + 75) + v3)) (σ 25 (zm v3))) fun σ148 => gd (0 ≤ zm ((v2 + 83) + v3) ∧ zm ((v2 + 83) + v3) < 200) (nx (su σ148 29 (zm ((v2 + 83) + v3)) (σ148 26 (zm v3))) fun σ165 => K126 v1 v2 (v3 + 1) σ165))))
def p_X8_keep_126  : Nat → Int → Int → Int → St → Option (Int × St)
  | 0, _, _, _, _ => none
  | n + 1, v1, v2, v3, σ => p_X8_keep_126b  (p_X8_keep_126  n) v1 v2 v3 σ
def p_X8_keep_117 (K54 : Int → Int → Int → St → Option (Int × St)) (v1 : Int) (v2 : Int) (v3 : Int) (os0 : Int) (vs1 : Int) (vs2 : Int) (σ : St) : Option (Int × St) :=
  gd (0 ≤ zm vs1 ∧ zm vs1 < 200) (nx (su σ os0 (zm vs1) vs2) fun σ117 => K54 v1 v2 (v3 + 1) σ117)
def p_X8_keep_54b  (K54 : Int → Int → Int → St → Option (Int × St)) (v1 : Int) (v2 : Int) (v3 : Int) (σ : St) : Option (Int × St) :=
  if 24 ≤ zm v3 then (p_X8_keep_126  FU v1 v2 0 σ) else (gd (0 ≤ zm v3 ∧ zm v3 < 24) (gd (0 ≤ zm ((v2 + 3) + v3) ∧ zm ((v2 + 3) + v3) < 200) (nx (su σ 29 (zm ((v2 + 3) + v3)) (σ 18 (zm v3))) fun σ75 => gd (0 ≤ zm ((v2 + 27) + v3) ∧ zm ((v2 + 27) + v3) < 200) (nx (su σ75 29 (zm ((v2 + 27) + v3)) (σ75 19 (zm v3))) fun σ92 => if zm (σ92 20 (zm v3)) = 0 then (p_X8_keep_117 K54 v1 v2 v3 29 ((v2 + 51) + v3) 0 σ92) else (p_X8_keep_117 K54 v1 v2 v3 29 ((v2 + 51) + v3) 1 σ92)))))
def p_X8_keep_54  : Nat → Int → Int → Int → St → Option (Int × St)
  | 0, _, _, _, _ => none
  | n + 1, v1, v2, v3, σ => p_X8_keep_54b  (p_X8_keep_54  n) v1 v2 v3 σ
def p_X8_keep  (v1 : Int) (σ : St) : Option (Int × St) :=
  Option.bind (p_X8_within (zm v1) 0 1 σ) fun x4 => if zm x4.1 = 0 then (some ((-1000000001), x4.2)) else (gd (0 ≤ zm (100 * v1) ∧ zm (100 * v1) < 200) (nx (su x4.2 29 (zm (100 * v1)) (x4.2 0 33)) fun σ27 => gd (0 ≤ zm ((100 * v1) + 1) ∧ zm ((100 * v1) + 1) < 200) (nx (su σ27 29 (zm ((100 * v1) + 1)) (σ27 0 42)) fun σ39 => gd (0 ≤ zm ((100 * v1) + 2) ∧ zm ((100 * v1) + 2) < 200) (nx (su σ39 29 (zm ((100 * v1) + 2)) (σ39 0 47)) fun σ51 => p_X8_keep_54  FU v1 (100 * v1) 0 σ51))))
/-! RungHouseModel.goBack -/
def p_X8_goBack_139b  (K139 : Int → Int → St → Option (Int × St)) (v2 : Int) (v3 : Int) (σ : St) : Option (Int × St) :=
  if 8 ≤ zm v3 then (some (1, σ)) else (gd (0 ≤ zm ((v2 + 75) + v3) ∧ zm ((v2 + 75) + v3) < 200) (gd (0 ≤ zm v3 ∧ zm v3 < 8) (nx (su σ 25 (zm v3) (σ 29 (zm ((v2 + 75) + v3)))) fun σ161 => gd (0 ≤ zm ((v2 + 83) + v3) ∧ zm ((v2 + 83) + v3) < 200) (nx (su σ161 26 (zm v3) (σ161 29 (zm ((v2 + 83) + v3)))) fun σ178 => K139 v2 (v3 + 1) σ178))))
def p_X8_goBack_139  : Nat → Int → Int → St → Option (Int × St)
  | 0, _, _, _ => none
  | n + 1, v2, v3, σ => p_X8_goBack_139b  (p_X8_goBack_139  n) v2 v3 σ
def p_X8_goBack_130 (K66 : Int → Int → St → Option (Int × St)) (v2 : Int) (v3 : Int) (os0 : Int) (vs1 : Int) (vs2 : Int) (σ : St) : Option (Int × St) :=
  gd (0 ≤ zm vs1 ∧ zm vs1 < 24) (gd (vs2 = 0 ∨ vs2 = 1) (nx (su σ os0 (zm vs1) vs2) fun σ130 => K66 v2 (v3 + 1) σ130))
def p_X8_goBack_66b  (K66 : Int → Int → St → Option (Int × St)) (v2 : Int) (v3 : Int) (σ : St) : Option (Int × St) :=
  if 24 ≤ zm v3 then (p_X8_goBack_139  FU v2 0 σ) else (gd (0 ≤ zm ((v2 + 3) + v3) ∧ zm ((v2 + 3) + v3) < 200) (gd (0 ≤ zm v3 ∧ zm v3 < 24) (nx (su σ 18 (zm v3) (σ 29 (zm ((v2 + 3) + v3)))) fun σ87 => gd (0 ≤ zm ((v2 + 27) + v3) ∧ zm ((v2 + 27) + v3) < 200) (nx (su σ87 19 (zm v3) (σ87 29 (zm ((v2 + 27) + v3)))) fun σ104 => gd (0 ≤ zm ((v2 + 51) + v3) ∧ zm ((v2 + 51) + v3) < 200) (if zm (σ104 29 (zm ((v2 + 51) + v3))) = 1 then (p_X8_goBack_130 K66 v2 v3 20 v3 1 σ104) else (p_X8_goBack_130 K66 v2 v3 20 v3 0 σ104))))))
def p_X8_goBack_66  : Nat → Int → Int → St → Option (Int × St)
  | 0, _, _, _ => none
  | n + 1, v2, v3, σ => p_X8_goBack_66b  (p_X8_goBack_66  n) v2 v3 σ
def p_X8_goBack  (v1 : Int) (σ : St) : Option (Int × St) :=
  Option.bind (p_X8_within (zm v1) 0 1 σ) fun x4 => if zm x4.1 = 0 then (some ((-1000000001), x4.2)) else (gd (0 ≤ zm v1 ∧ zm v1 < 2) (if zm (x4.2 30 (zm v1)) = 0 then (some ((-1000000003), x4.2)) else (gd (0 ≤ zm (100 * v1) ∧ zm (100 * v1) < 200) (nx (su x4.2 0 33 (x4.2 29 (zm (100 * v1)))) fun σ37 => gd (0 ≤ zm ((100 * v1) + 1) ∧ zm ((100 * v1) + 1) < 200) (nx (su σ37 0 42 (σ37 29 (zm ((100 * v1) + 1)))) fun σ49 => gd (0 ≤ zm ((100 * v1) + 2) ∧ zm ((100 * v1) + 2) < 200) (nx (su σ49 0 47 (σ49 29 (zm ((100 * v1) + 2)))) fun σ61 => p_X8_goBack_66  FU (100 * v1) 0 σ61))))))
