/-! RungHouseModel.within -/
def p_X8_within  (v0 : Int) (v2 : Int) (v4 : Int) (σ : St) : Option (Int × St) :=
  if zm (zcmp v0 v2) < 0 then (some (0, σ)) else (if 0 < zm (zcmp v0 v4) then (some (0, σ)) else (some (1, σ)))
/-! RungHouseModel.has -/
def p_X8_has  (v0 : Int) (v1 : Int) (σ : St) : Option (Int × St) :=
  if zm (zand (zshr v0 v1) 1) = 1 then (some (1, σ)) else (some (0, σ))
/-! RungHouseModel.isHouse -/
def p_X8_isHouse  (v1 : Int) (σ : St) : Option (Int × St) :=
  Option.bind (p_X8_within (zm v1) 0 1 σ) fun x4 => if zm x4.1 = 0 then (some (0, x4.2)) else (gd (0 ≤ zm v1 ∧ zm v1 < 3) (if zm (x4.2 1 (zm v1)) ≤ 0 then (some (0, x4.2)) else (some (1, x4.2))))
/-! RungHouseModel.isRung -/
def p_X8_isRung  (v1 : Int) (v2 : Int) (σ : St) : Option (Int × St) :=
  Option.bind (p_X8_isHouse v1 σ) fun x2 => if zm x2.1 = 0 then (some (0, x2.2)) else (gd (0 ≤ zm v1 ∧ zm v1 < 3) (Option.bind (p_X8_within (zm v2) 0 (zm ((x2.2 1 (zm v1)) - 1)) x2.2) fun x20 => if zm x20.1 = 0 then (some (0, x20.2)) else (some (1, x20.2))))
/-! RungHouseModel.isSort -/
def p_X8_isSort  (v1 : Int) (σ : St) : Option (Int × St) :=
  Option.bind (p_X8_within (zm v1) 0 (zm ((σ 0 7) - 1)) σ) fun x10 => gd (x10.1 = 0 ∨ x10.1 = 1) (some (x10.1, x10.2))
/-! RungHouseModel.isTime -/
def p_X8_isTime  (v0 : Int) (σ : St) : Option (Int × St) :=
  Option.bind (p_X8_within (zm v0) 1 30 σ) fun x6 => gd (x6.1 = 0 ∨ x6.1 = 1) (some (x6.1, x6.2))
/-! RungHouseModel.feed -/
def p_X8_feed_35b  (K35 : Int → Int → St → Option (Int × St)) (v2 : Int) (v4 : Int) (σ : St) : Option (Int × St) :=
  if zm v4 < 0 then (some ((σ 0 14), σ)) else (gd (0 ≤ zm (σ 0 14) ∧ zm (σ 0 14) < 300) (nx (su σ 13 (zm (σ 0 14)) (zland (zlshr v2 (8 * v4)) 255)) fun σ60 => nx (su σ60 0 14 ((σ60 0 14) + 1)) fun σ68 => K35 v2 (v4 + (-1)) σ68))
def p_X8_feed_35  : Nat → Int → Int → St → Option (Int × St)
  | 0, _, _, _ => none
  | n + 1, v2, v4, σ => p_X8_feed_35b  (p_X8_feed_35  n) v2 v4 σ
def p_X8_feed  (v1 : Int) (v2 : Int) (σ : St) : Option (Int × St) :=
  Option.bind (p_X8_within (zm v1) 1 8 σ) fun x6 => if zm x6.1 = 0 then (some ((-1000000002), x6.2)) else (if zm ((x6.2 0 14) + v1) ≤ 300 then (p_X8_feed_35  FU v2 (v1 - 1) x6.2) else (some ((-1000000004), x6.2)))
/-! RungHouseModel.here -/
def p_X8_here_38   (σ : St) : Option (Int × St) :=
  if zm (σ 0 14) ≤ zm (σ 0 16) then (some ((-1), σ)) else (gd (0 ≤ zm (σ 0 16) ∧ zm (σ 0 16) < 300) (some ((σ 13 (zm (σ 0 16))), σ)))
def p_X8_here_0b  (K0 : St → Option (Int × St))  (σ : St) : Option (Int × St) :=
  if zm (σ 0 14) ≤ zm (σ 0 16) then (p_X8_here_38   σ) else (gd (0 ≤ zm (σ 0 16) ∧ zm (σ 0 16) < 300) (if zm (σ 13 (zm (σ 0 16))) = 32 then (nx (su σ 0 16 ((σ 0 16) + 1)) fun σ32 => K0  σ32) else (p_X8_here_38   σ)))
def p_X8_here_0  : Nat → St → Option (Int × St)
  | 0, _ => none
  | n + 1, σ => p_X8_here_0b  (p_X8_here_0  n)  σ
def p_X8_here  (σ : St) : Option (Int × St) :=
  p_X8_here_0 FU  σ
/-! RungHouseModel.fails -/
def p_X8_fails  (v1 : Int) (v2 : Int) (σ : St) : Option (Int × St) :=
  nx (su σ 0 15 v2) fun σ2 => some (v1, σ2)
/-! RungHouseModel.readWord -/
def p_X8_readWord_92 (K18 : St → Option (Int × St)) (vs1 : Int) (σ : St) : Option (Int × St) :=
  nx (su σ 0 17 vs1) fun σ92 => nx (su σ92 0 18 ((σ92 0 18) + 1)) fun σ102 => K18  σ102
def p_X8_readWord_18b  (K18 : St → Option (Int × St))  (σ : St) : Option (Int × St) :=
  if zm (σ 0 14) ≤ zm (σ 0 18) then (some (0, σ)) else (gd (0 ≤ zm (σ 0 18) ∧ zm (σ 0 18) < 300) (Option.bind (p_X8_within (zm (σ 13 (zm (σ 0 18)))) 97 122 σ) fun x45 => if zm x45.1 = 0 then (some (0, x45.2)) else (if zm (zcmp (x45.2 0 17) 1000000000000) ≤ 0 then (gd (0 ≤ zm (x45.2 0 18) ∧ zm (x45.2 0 18) < 300) (p_X8_readWord_92 K18 (((27 * (x45.2 0 17)) + (zm (x45.2 13 (zm (x45.2 0 18))))) - 96) x45.2)) else (p_X8_readWord_92 K18 2000000000000 x45.2))))
def p_X8_readWord_18  : Nat → St → Option (Int × St)
  | 0, _ => none
  | n + 1, σ => p_X8_readWord_18b  (p_X8_readWord_18  n)  σ
def p_X8_readWord   (σ : St) : Option (Int × St) :=
  Option.bind (p_X8_here  σ) fun x1 => nx (su x1.2 0 17 0) fun σ7 => nx (su σ7 0 18 (σ7 0 16)) fun σ15 => p_X8_readWord_18  FU  σ15
/-! RungHouseModel.code -/
def p_X8_code  (v0 : Int) (v1 : Int) (v2 : Int) (v3 : Int) (σ : St) : Option (Int × St) :=
  some ((((27 * (((27 * (((27 * ((zm v0) - 96)) + (zm v1)) - 96)) + (zm v2)) - 96)) + (zm v3)) - 96), σ)
/-! RungHouseModel.longer -/
def p_X8_longer  (v0 : Int) (v2 : Int) (σ : St) : Option (Int × St) :=
  some ((((27 * v0) + (zm v2)) - 96), σ)
/-! RungHouseModel.takeNumber -/
def p_X8_takeNumber_157   (σ : St) : Option (Int × St) :=
  Option.bind (p_X8_fails 2 (σ 0 20) σ) fun x163 => some (x163.1, x163.2)
def p_X8_takeNumber_129  (v1 : Int) (v2 : Int) (σ : St) : Option (Int × St) :=
  if 3 < zm ((σ 0 16) - (σ 0 20)) then (p_X8_takeNumber_157   σ) else (Option.bind (p_X8_within (zm (σ 0 19)) (zm v1) (zm v2) σ) fun x151 => if zm x151.1 = 0 then (p_X8_takeNumber_157   x151.2) else (some (0, x151.2)))
def p_X8_takeNumber_113 (K42 : Int → Int → St → Option (Int × St)) (v1 : Int) (v2 : Int) (vs1 : Int) (σ : St) : Option (Int × St) :=
  nx (su σ 0 19 vs1) fun σ113 => nx (su σ113 0 16 ((σ113 0 16) + 1)) fun σ123 => K42 v1 v2 σ123
def p_X8_takeNumber_42b  (K42 : Int → Int → St → Option (Int × St)) (v1 : Int) (v2 : Int) (σ : St) : Option (Int × St) :=
  if zm (σ 0 14) ≤ zm (σ 0 16) then (p_X8_takeNumber_129  v1 v2 σ) else (gd (0 ≤ zm (σ 0 16) ∧ zm (σ 0 16) < 300) (Option.bind (p_X8_within (zm (σ 13 (zm (σ 0 16)))) 48 57 σ) fun x69 => if zm x69.1 = 0 then (p_X8_takeNumber_129  v1 v2 x69.2) else (if zm (x69.2 0 19) ≤ 10000 then (gd (0 ≤ zm (x69.2 0 16) ∧ zm (x69.2 0 16) < 300) (p_X8_takeNumber_113 K42 v1 v2 (((10 * (x69.2 0 19)) + (x69.2 13 (zm (x69.2 0 16)))) - 48) x69.2)) else (p_X8_takeNumber_113 K42 v1 v2 (x69.2 0 19) x69.2))))
def p_X8_takeNumber_42  : Nat → Int → Int → St → Option (Int × St)
  | 0, _, _, _ => none
  | n + 1, v1, v2, σ => p_X8_takeNumber_42b  (p_X8_takeNumber_42  n) v1 v2 σ
def p_X8_takeNumber  (v1 : Int) (v2 : Int) (σ : St) : Option (Int × St) :=
  Option.bind (p_X8_here  σ) fun x1 => Option.bind (p_X8_within (zm x1.1) 48 57 x1.2) fun x13 => if zm x13.1 = 0 then (Option.bind (p_X8_fails 1 (x13.2 0 16) x13.2) fun x25 => some (x25.1, x25.2)) else (nx (su x13.2 0 20 (x13.2 0 16)) fun σ34 => nx (su σ34 0 19 0) fun σ39 => p_X8_takeNumber_42  FU v1 v2 σ39)
/-! RungHouseModel.takeStop -/
def p_X8_takeStop   (σ : St) : Option (Int × St) :=
  Option.bind (p_X8_here  σ) fun x1 => if zm x1.1 = 59 then (nx (su x1.2 0 16 ((x1.2 0 16) + 1)) fun σ26 => some (0, σ26)) else (Option.bind (p_X8_fails 1 (x1.2 0 16) x1.2) fun x15 => some (x15.1, x15.2))
/-! RungHouseModel.houseClause -/
def p_X8_houseClause_122  (v3 : Int) (vs0 : Int) (σ : St) : Option (Int × St) :=
  if zm v3 < 0 then (some (vs0, σ)) else (some (v3, σ))
def p_X8_houseClause_64  (vs0 : Int) (σ : St) : Option (Int × St) :=
  Option.bind (p_X8_code 102 105 114 115 σ) fun x77 => Option.bind (p_X8_longer x77.1 116 x77.2) fun x82 => if zm (zcmp (σ 0 17) x82.1) = 0 then (p_X8_houseClause_122  vs0 3 x82.2) else (Option.bind (p_X8_code 101 110 116 101 x82.2) fun x105 => Option.bind (p_X8_longer x105.1 114 x105.2) fun x110 => if zm (zcmp (x82.2 0 17) x110.1) = 0 then (p_X8_houseClause_122  vs0 4 x110.2) else (p_X8_houseClause_122  vs0 (-1) x110.2))
def p_X8_houseClause   (σ : St) : Option (Int × St) :=
  Option.bind (p_X8_code 114 117 110 103 σ) fun x16 => if zm (zcmp (σ 0 17) x16.1) = 0 then (p_X8_houseClause_64  0 x16.2) else (if zm (zcmp (x16.2 0 17) 583) = 0 then (p_X8_houseClause_64  1 x16.2) else (Option.bind (p_X8_code 100 111 119 110 x16.2) fun x52 => if zm (zcmp (x16.2 0 17) x52.1) = 0 then (p_X8_houseClause_64  2 x52.2) else (p_X8_houseClause_64  (-1) x52.2)))
/-! RungHouseModel.takeHouse -/
def p_X8_takeHouse_349  (os0 : Int) (vs1 : Int) (vs2 : Int) (σ : St) : Option (Int × St) :=
  gd (0 ≤ zm vs1 ∧ zm vs1 < 3) (nx (su σ os0 (zm vs1) vs2) fun σ349 => Option.bind (p_X8_takeStop  σ349) fun x351 => some (x351.1, x351.2))
def p_X8_takeHouse_325  (v1 : Int) (os0 : Int) (vs1 : Int) (vs2 : Int) (σ : St) : Option (Int × St) :=
  gd (0 ≤ zm vs1 ∧ zm vs1 < 3) (nx (su σ os0 (zm vs1) vs2) fun σ325 => if zm v1 = 4 then (p_X8_takeHouse_349  7 2 (σ325 0 19) σ325) else (p_X8_takeHouse_349  7 2 (σ325 7 2) σ325))
def p_X8_takeHouse_301  (v1 : Int) (os0 : Int) (vs1 : Int) (vs2 : Int) (σ : St) : Option (Int × St) :=
  gd (0 ≤ zm vs1 ∧ zm vs1 < 3) (nx (su σ os0 (zm vs1) vs2) fun σ301 => if zm v1 = 3 then (p_X8_takeHouse_325  v1 6 2 (σ301 0 19) σ301) else (p_X8_takeHouse_325  v1 6 2 (σ301 6 2) σ301))
def p_X8_takeHouse_277  (v1 : Int) (os0 : Int) (vs1 : Int) (vs2 : Int) (σ : St) : Option (Int × St) :=
  gd (0 ≤ zm vs1 ∧ zm vs1 < 3) (nx (su σ os0 (zm vs1) vs2) fun σ277 => if zm v1 = 2 then (p_X8_takeHouse_301  v1 4 2 (σ277 0 19) σ277) else (p_X8_takeHouse_301  v1 4 2 (σ277 4 2) σ277))
def p_X8_takeHouse_254  (v1 : Int) (σ : St) : Option (Int × St) :=
  if zm v1 = 1 then (p_X8_takeHouse_277  v1 5 2 (σ 0 19) σ) else (p_X8_takeHouse_277  v1 5 2 (σ 5 2) σ)
def p_X8_takeHouse_244  (v1 : Int) (σ : St) : Option (Int × St) :=
  nx (su σ 1 2 ((σ 1 2) + 1)) fun σ253 => p_X8_takeHouse_254  v1 σ253
def p_X8_takeHouse_137  (v1 : Int) (vs1 : Int) (vs2 : Int) (σ : St) : Option (Int × St) :=
  Option.bind (p_X8_takeNumber vs1 vs2 σ) fun x137 => if zm x137.1 ≤ 0 then (if zm v1 = 0 then (gd (0 ≤ zm (20 + (x137.2 1 2)) ∧ zm (20 + (x137.2 1 2)) < 30) (nx (su x137.2 2 (zm (20 + (x137.2 1 2))) (x137.2 0 19)) fun σ168 => Option.bind (p_X8_here  σ168) fun x170 => Option.bind (p_X8_within (zm x170.1) 97 122 x170.2) fun x180 => if zm x180.1 = 0 then (p_X8_takeHouse_244  v1 x180.2) else (Option.bind (p_X8_readWord  x180.2) fun x187 => Option.bind (p_X8_code 107 101 112 116 x187.2) fun x202 => if zm (zcmp (x187.2 0 17) x202.1) = 0 then (nx (su x202.2 0 16 (x202.2 0 18)) fun σ224 => nx (su σ224 3 2 (zor (σ224 3 2) (zshl 1 (σ224 1 2)))) fun σ243 => p_X8_takeHouse_244  v1 σ243) else (Option.bind (p_X8_fails 1 (x202.2 0 16) x202.2) fun x215 => some (x215.1, x215.2))))) else (p_X8_takeHouse_254  v1 x137.2)) else (some (x137.1, x137.2))
def p_X8_takeHouse_115  (v1 : Int) (vs1 : Int) (σ : St) : Option (Int × St) :=
  if zm v1 = 0 then (p_X8_takeHouse_137  v1 vs1 999 σ) else (if zm v1 = 3 then (p_X8_takeHouse_137  v1 vs1 99 σ) else (p_X8_takeHouse_137  v1 vs1 9 σ))
def p_X8_takeHouse_110  (v1 : Int) (σ : St) : Option (Int × St) :=
  p_X8_takeHouse_115  v1 1 σ
def p_X8_takeHouse_71  (vs1 : Int) (σ : St) : Option (Int × St) :=
  Option.bind (p_X8_fails vs1 (σ 0 16) σ) fun x75 => some (x75.1, x75.2)
def p_X8_takeHouse_61  (v1 : Int) (σ : St) : Option (Int × St) :=
  if 0 ≤ zm v1 then (p_X8_takeHouse_71  3 σ) else (p_X8_takeHouse_71  1 σ)
def p_X8_takeHouse_52  (v1 : Int) (vs0 : Int) (σ : St) : Option (Int × St) :=
  if zm v1 < 0 then (p_X8_takeHouse_61  v1 σ) else (if zm vs0 = 0 then (nx (su σ 0 21 (zor (σ 0 21) (zshl 1 v1))) fun σ88 => nx (su σ88 0 16 (σ88 0 18)) fun σ96 => if zm v1 = 1 then (p_X8_takeHouse_110  v1 σ96) else (if zm v1 = 2 then (p_X8_takeHouse_110  v1 σ96) else (p_X8_takeHouse_115  v1 0 σ96))) else (p_X8_takeHouse_61  v1 σ))
def p_X8_takeHouse_51  (v1 : Int) (σ : St) : Option (Int × St) :=
  p_X8_takeHouse_52  v1 0 σ
def p_X8_takeHouse   (σ : St) : Option (Int × St) :=
  Option.bind (p_X8_readWord  σ) fun x1 => Option.bind (p_X8_houseClause  x1.2) fun x5 => if zm x5.1 = 0 then (if zm (x5.2 1 2) = 10 then (p_X8_takeHouse_52  x5.1 1 x5.2) else (p_X8_takeHouse_52  x5.1 0 x5.2)) else (if zm x5.1 ≤ 0 then (p_X8_takeHouse_51  x5.1 x5.2) else (Option.bind (p_X8_has (x5.2 0 21) x5.1 x5.2) fun x41 => if zm x41.1 = 0 then (p_X8_takeHouse_51  x5.1 x41.2) else (p_X8_takeHouse_52  x5.1 1 x41.2)))
/-! RungHouseModel.copyHouse -/
def p_X8_copyHouse_14b  (K14 : Int → Int → Int → St → Option (Int × St)) (v1 : Int) (v2 : Int) (v3 : Int) (σ : St) : Option (Int × St) :=
  if 10 ≤ zm v3 then (gd (0 ≤ zm v1 ∧ zm v1 < 3) (gd (0 ≤ zm v2 ∧ zm v2 < 3) (nx (su σ 3 (zm v2) (σ 3 (zm v1))) fun σ59 => nx (su σ59 4 (zm v2) (σ59 4 (zm v1))) fun σ71 => nx (su σ71 5 (zm v2) (σ71 5 (zm v1))) fun σ83 => nx (su σ83 6 (zm v2) (σ83 6 (zm v1))) fun σ95 => nx (su σ95 7 (zm v2) (σ95 7 (zm v1))) fun σ107 => some (0, σ107)))) else (gd (0 ≤ zm ((10 * v1) + v3) ∧ zm ((10 * v1) + v3) < 30) (gd (0 ≤ zm ((10 * v2) + v3) ∧ zm ((10 * v2) + v3) < 30) (nx (su σ 2 (zm ((10 * v2) + v3)) (σ 2 (zm ((10 * v1) + v3)))) fun σ41 => K14 v1 v2 (v3 + 1) σ41)))
def p_X8_copyHouse_14  : Nat → Int → Int → Int → St → Option (Int × St)
  | 0, _, _, _, _ => none
  | n + 1, v1, v2, v3, σ => p_X8_copyHouse_14b  (p_X8_copyHouse_14  n) v1 v2 v3 σ
def p_X8_copyHouse  (v1 : Int) (v2 : Int) (σ : St) : Option (Int × St) :=
  gd (0 ≤ zm v1 ∧ zm v1 < 3) (gd (0 ≤ zm v2 ∧ zm v2 < 3) (nx (su σ 1 (zm v2) (σ 1 (zm v1))) fun σ11 => p_X8_copyHouse_14  FU v1 v2 0 σ11))
/-! RungHouseModel.house -/
def p_X8_house_123  (v1 : Int) (vs0 : Int) (σ : St) : Option (Int × St) :=
  nx (su σ 0 14 0) fun σ126 => if zm vs0 ≤ 0 then (Option.bind (p_X8_copyHouse 2 v1 σ126) fun x141 => nx (su x141.2 0 32 0) fun σ146 => gd (0 ≤ zm v1 ∧ zm v1 < 3) (some ((σ146 1 (zm v1)), σ146))) else (some (((-10) - vs0), σ126))
def p_X8_house_122  (v1 : Int) (v2 : Int) (σ : St) : Option (Int × St) :=
  p_X8_house_123  v1 v2 σ
def p_X8_house_91  (v1 : Int) (v2 : Int) (σ : St) : Option (Int × St) :=
  if zm v2 = 0 then (if zm (σ 7 2) < zm (σ 1 2) then (p_X8_house_122  v1 v2 σ) else (Option.bind (p_X8_fails 5 (σ 0 14) σ) fun x116 => p_X8_house_123  v1 x116.1 x116.2)) else (p_X8_house_122  v1 v2 σ)
def p_X8_house_72b  (K72 : Int → Int → St → Option (Int × St)) (v1 : Int) (v2 : Int) (σ : St) : Option (Int × St) :=
  if zm v2 = 0 then (Option.bind (p_X8_here  σ) fun x77 => if zm x77.1 < 0 then (p_X8_house_91  v1 v2 x77.2) else (Option.bind (p_X8_takeHouse  x77.2) fun x84 => K72 v1 x84.1 x84.2)) else (p_X8_house_91  v1 v2 σ)
def p_X8_house_72  : Nat → Int → Int → St → Option (Int × St)
  | 0, _, _, _ => none
  | n + 1, v1, v2, σ => p_X8_house_72b  (p_X8_house_72  n) v1 v2 σ
def p_X8_house  (v1 : Int) (σ : St) : Option (Int × St) :=
  Option.bind (p_X8_within (zm v1) 0 1 σ) fun x4 => if zm x4.1 = 0 then (some ((-1000000001), x4.2)) else (nx (su x4.2 0 15 (-1)) fun σ15 => nx (su σ15 0 16 0) fun σ20 => nx (su σ20 1 2 0) fun σ29 => nx (su σ29 3 2 0) fun σ36 => nx (su σ36 5 2 1) fun σ43 => nx (su σ43 4 2 3) fun σ50 => nx (su σ50 6 2 0) fun σ57 => nx (su σ57 7 2 0) fun σ64 => nx (su σ64 0 21 0) fun σ67 => p_X8_house_72  FU v1 0 σ67)
/-! RungHouseModel.fault -/
def p_X8_fault   (σ : St) : Option (Int × St) :=
  some ((σ 0 15), σ)
/-! RungHouseModel.told -/
def p_X8_told  (v1 : Int) (v2 : Int) (σ : St) : Option (Int × St) :=
  Option.bind (p_X8_isHouse v1 σ) fun x2 => if zm x2.1 = 0 then (some ((-1000000001), x2.2)) else (if zm v2 = 0 then (gd (0 ≤ zm v1 ∧ zm v1 < 3) (some ((x2.2 1 (zm v1)), x2.2))) else if zm v2 = 1 then (gd (0 ≤ zm v1 ∧ zm v1 < 3) (some ((x2.2 5 (zm v1)), x2.2))) else if zm v2 = 2 then (gd (0 ≤ zm v1 ∧ zm v1 < 3) (some ((x2.2 4 (zm v1)), x2.2))) else if zm v2 = 3 then (gd (0 ≤ zm v1 ∧ zm v1 < 3) (some ((x2.2 6 (zm v1)), x2.2))) else if zm v2 = 4 then (gd (0 ≤ zm v1 ∧ zm v1 < 3) (some ((x2.2 7 (zm v1)), x2.2))) else if zm v2 = 5 then (gd (0 ≤ zm v1 ∧ zm v1 < 3) (some ((x2.2 3 (zm v1)), x2.2))) else (some ((-1000000002), x2.2)))
/-! RungHouseModel.pays -/
def p_X8_pays  (v1 : Int) (v2 : Int) (σ : St) : Option (Int × St) :=
  Option.bind (p_X8_isRung v1 v2 σ) fun x3 => if zm x3.1 = 0 then (some ((-1000000001), x3.2)) else (gd (0 ≤ zm ((10 * v1) + v2) ∧ zm ((10 * v1) + v2) < 30) (some ((x3.2 2 (zm ((10 * v1) + v2))), x3.2)))
/-! RungHouseModel.nextOf -/
def p_X8_nextOf_67  (v2 : Int) (vs0 : Int) (vs1 : Int) (σ : St) : Option (Int × St) :=
  if 0 ≤ zm (v2 - (vs0 * vs1)) then (some ((v2 - (vs0 * vs1)), σ)) else (some (0, σ))
def p_X8_nextOf  (v1 : Int) (v2 : Int) (v3 : Int) (σ : St) : Option (Int × St) :=
  if zm v3 = 0 then (gd (0 ≤ zm v1 ∧ zm v1 < 3) (if zm (σ 1 (zm v1)) ≤ zm (v2 + (σ 5 (zm v1))) then (some (((σ 1 (zm v1)) - 1), σ)) else (some ((v2 + (σ 5 (zm v1))), σ)))) else (gd (0 ≤ zm v1 ∧ zm v1 < 3) (Option.bind (p_X8_has (σ 3 (zm v1)) v2 σ) fun x54 => if zm x54.1 = 0 then (p_X8_nextOf_67  v2 (σ 4 (zm v1)) v3 x54.2) else (p_X8_nextOf_67  v2 (σ 4 (zm v1)) (v3 - 1) x54.2)))
/-! RungHouseModel.next -/
def p_X8_next  (v1 : Int) (v2 : Int) (v3 : Int) (σ : St) : Option (Int × St) :=
  Option.bind (p_X8_isRung v1 v2 σ) fun x3 => if zm x3.1 = 0 then (some ((-1000000001), x3.2)) else (Option.bind (p_X8_within (zm v3) 0 3 x3.2) fun x18 => if zm x18.1 = 0 then (some ((-1000000002), x18.2)) else (Option.bind (p_X8_nextOf v1 v2 v3 x18.2) fun x28 => some (x28.1, x28.2)))
/-! RungHouseModel.takeScrape -/
def p_X8_takeScrape_136  (v3 : Int) (σ : St) : Option (Int × St) :=
  nx (su σ 0 22 ((σ 0 22) + (σ 0 19))) fun σ146 => gd (0 ≤ zm (σ146 0 7) ∧ zm (σ146 0 7) < 4) (nx (su σ146 8 (zm (σ146 0 7)) ((σ146 8 (zm (σ146 0 7))) + 1)) fun σ161 => some (v3, σ161))
def p_X8_takeScrape_96  (v2 : Int) (vs0 : Int) (σ : St) : Option (Int × St) :=
  gd (0 ≤ zm v2 ∧ zm v2 < 32) (nx (su σ 10 (zm v2) (σ 0 19)) fun σ106 => if zm vs0 = 0 then (if zm ((σ106 0 22) + (σ106 0 19)) ≤ 1000 then (p_X8_takeScrape_136  vs0 σ106) else (Option.bind (p_X8_fails 4 (σ106 0 20) σ106) fun x132 => p_X8_takeScrape_136  x132.1 x132.2)) else (p_X8_takeScrape_136  vs0 σ106))
def p_X8_takeScrape_63  (v2 : Int) (vs1 : Int) (σ : St) : Option (Int × St) :=
  Option.bind (p_X8_takeNumber vs1 999 σ) fun x66 => gd (0 ≤ zm v2 ∧ zm v2 < 32) (nx (su x66.2 9 (zm v2) (x66.2 0 19)) fun σ79 => if zm x66.1 ≤ 0 then (Option.bind (p_X8_takeNumber 1 999 σ79) fun x93 => p_X8_takeScrape_96  v2 x93.1 x93.2) else (p_X8_takeScrape_96  v2 x66.1 σ79))
def p_X8_takeScrape   (σ : St) : Option (Int × St) :=
  gd (0 ≤ zm (σ 0 7) ∧ zm (σ 0 7) < 4) (if zm (σ 8 (zm (σ 0 7))) = 8 then (Option.bind (p_X8_fails 3 (σ 0 16) σ) fun x22 => some (x22.1, x22.2)) else (nx (su σ 0 16 (σ 0 18)) fun σ31 => if zm (σ 8 (zm (σ 0 7))) = 0 then (p_X8_takeScrape_63  ((8 * (σ31 0 7)) + (σ 8 (zm (σ 0 7)))) 1 σ31) else (gd (0 ≤ zm (((8 * (σ31 0 7)) + (σ 8 (zm (σ 0 7)))) - 1) ∧ zm (((8 * (σ31 0 7)) + (σ 8 (zm (σ 0 7)))) - 1) < 32) (p_X8_takeScrape_63  ((8 * (σ31 0 7)) + (σ 8 (zm (σ 0 7)))) ((σ31 9 (zm (((8 * (σ31 0 7)) + (σ 8 (zm (σ 0 7)))) - 1))) + 1) σ31))))
/-! RungHouseModel.takePains -/
def p_X8_takePains_67  (vs0 : Int) (σ : St) : Option (Int × St) :=
  gd (0 ≤ zm (σ 0 7) ∧ zm (σ 0 7) < 4) (nx (su σ 12 (zm (σ 0 7)) (σ 0 19)) fun σ80 => some (vs0, σ80))
def p_X8_takePains   (σ : St) : Option (Int × St) :=
  gd (0 ≤ zm (σ 0 7) ∧ zm (σ 0 7) < 4) (if zm (σ 11 (zm (σ 0 7))) < 0 then (nx (su σ 0 16 (σ 0 18)) fun σ27 => Option.bind (p_X8_takeNumber 0 999 σ27) fun x35 => gd (0 ≤ zm (x35.2 0 7) ∧ zm (x35.2 0 7) < 4) (nx (su x35.2 11 (zm (x35.2 0 7)) (x35.2 0 19)) fun σ51 => if zm x35.1 ≤ 0 then (Option.bind (p_X8_takeNumber 0 100 σ51) fun x64 => p_X8_takePains_67  x64.1 x64.2) else (p_X8_takePains_67  x35.1 σ51))) else (Option.bind (p_X8_fails 3 (σ 0 16) σ) fun x18 => some (x18.1, x18.2)))
/-! RungHouseModel.takeSort -/
def p_X8_takeSort_92  (vs0 : Int) (σ : St) : Option (Int × St) :=
  if zm vs0 ≤ 0 then (Option.bind (p_X8_takeStop  σ) fun x102 => some (x102.1, x102.2)) else (some (vs0, σ))
def p_X8_takeSort_77  (v1 : Int) (σ : St) : Option (Int × St) :=
  if zm v1 = 0 then (Option.bind (p_X8_takePains  σ) fun x89 => p_X8_takeSort_92  x89.1 x89.2) else (Option.bind (p_X8_takeScrape  σ) fun x82 => p_X8_takeSort_92  x82.1 x82.2)
def p_X8_takeSort_38  (vs0 : Int) (σ : St) : Option (Int × St) :=
  if zm vs0 = 0 then (Option.bind (p_X8_code 112 97 105 110 σ) fun x55 => Option.bind (p_X8_longer x55.1 115 x55.2) fun x60 => if zm (zcmp (σ 0 17) x60.1) = 0 then (p_X8_takeSort_77  vs0 x60.2) else (Option.bind (p_X8_fails 1 (x60.2 0 16) x60.2) fun x73 => some (x73.1, x73.2))) else (p_X8_takeSort_77  vs0 σ)
def p_X8_takeSort   (σ : St) : Option (Int × St) :=
  Option.bind (p_X8_readWord  σ) fun x1 => Option.bind (p_X8_code 115 99 114 97 x1.2) fun x16 => Option.bind (p_X8_longer x16.1 112 x16.2) fun x21 => Option.bind (p_X8_longer x21.1 101 x21.2) fun x26 => if zm (zcmp (x1.2 0 17) x26.1) = 0 then (p_X8_takeSort_38  1 x26.2) else (p_X8_takeSort_38  0 x26.2)
/-! RungHouseModel.sort -/
def p_X8_sort_119  (vs0 : Int) (σ : St) : Option (Int × St) :=
  nx (su σ 0 14 0) fun σ122 => if zm vs0 ≤ 0 then (nx (su σ122 0 7 ((σ122 0 7) + 1)) fun σ141 => some (((σ141 0 7) - 1), σ141)) else (some (((-10) - vs0), σ122))
def p_X8_sort_118  (v1 : Int) (σ : St) : Option (Int × St) :=
  p_X8_sort_119  v1 σ
def p_X8_sort_90  (v1 : Int) (σ : St) : Option (Int × St) :=
  if zm v1 = 0 then (gd (0 ≤ zm (σ 0 7) ∧ zm (σ 0 7) < 4) (if zm (σ 8 (zm (σ 0 7))) = 0 then (Option.bind (p_X8_fails 5 (σ 0 14) σ) fun x112 => p_X8_sort_119  x112.1 x112.2) else (p_X8_sort_118  v1 σ))) else (p_X8_sort_118  v1 σ)
def p_X8_sort_71b  (K71 : Int → St → Option (Int × St)) (v1 : Int) (σ : St) : Option (Int × St) :=
  if zm v1 = 0 then (Option.bind (p_X8_here  σ) fun x76 => if zm x76.1 < 0 then (p_X8_sort_90  v1 x76.2) else (Option.bind (p_X8_takeSort  x76.2) fun x83 => K71 x83.1 x83.2)) else (p_X8_sort_90  v1 σ)
def p_X8_sort_71  : Nat → Int → St → Option (Int × St)
  | 0, _, _ => none
  | n + 1, v1, σ => p_X8_sort_71b  (p_X8_sort_71  n) v1 σ
def p_X8_sort   (σ : St) : Option (Int × St) :=
  if zm (σ 0 14) ≤ 200 then (if zm (σ 0 7) = 4 then (some ((-1000000004), σ)) else (nx (su σ 0 15 (-1)) fun σ26 => nx (su σ26 0 16 0) fun σ31 => gd (0 ≤ zm (σ31 0 7) ∧ zm (σ31 0 7) < 4) (nx (su σ31 8 (zm (σ31 0 7)) 0) fun σ43 => gd (0 ≤ zm (σ43 0 7) ∧ zm (σ43 0 7) < 4) (nx (su σ43 11 (zm (σ43 0 7)) (-1)) fun σ53 => gd (0 ≤ zm (σ53 0 7) ∧ zm (σ53 0 7) < 4) (nx (su σ53 12 (zm (σ53 0 7)) (-1)) fun σ63 => nx (su σ63 0 22 0) fun σ66 => p_X8_sort_71  FU 0 σ66))))) else (some ((-1000000003), σ))
/-! RungHouseModel.oddsOf -/
def p_X8_oddsOf  (v1 : Int) (v2 : Int) (v3 : Int) (σ : St) : Option (Int × St) :=
  if zm v3 = 0 then (gd (0 ≤ zm ((8 * v1) + v2) ∧ zm ((8 * v1) + v2) < 32) (some ((σ 10 (zm ((8 * v1) + v2))), σ))) else (gd (0 ≤ zm ((8 * v1) + v2) ∧ zm ((8 * v1) + v2) < 32) (gd (0 ≤ zm v1 ∧ zm v1 < 4) (some (((zm ((σ 10 (zm ((8 * v1) + v2))) * (100 - (σ 12 (zm v1))))).tdiv 100), σ))))
/-! RungHouseModel.sumOdds -/
def p_X8_sumOdds_5b  (K5 : Int → Int → Int → Int → St → Option (Int × St)) (v1 : Int) (v2 : Int) (v3 : Int) (v4 : Int) (σ : St) : Option (Int × St) :=
  gd (0 ≤ zm v1 ∧ zm v1 < 4) (if zm (σ 8 (zm v1)) ≤ zm v4 then (some (v3, σ)) else (Option.bind (p_X8_oddsOf v1 v4 v2 σ) fun x22 => K5 v1 v2 (v3 + x22.1) (v4 + 1) x22.2))
def p_X8_sumOdds_5  : Nat → Int → Int → Int → Int → St → Option (Int × St)
  | 0, _, _, _, _, _ => none
  | n + 1, v1, v2, v3, v4, σ => p_X8_sumOdds_5b  (p_X8_sumOdds_5  n) v1 v2 v3 v4 σ
def p_X8_sumOdds  (v1 : Int) (v2 : Int) (σ : St) : Option (Int × St) :=
  p_X8_sumOdds_5  FU v1 v2 0 0 σ
/-! RungHouseModel.scrapes -/
def p_X8_scrapes  (v1 : Int) (v2 : Int) (σ : St) : Option (Int × St) :=
  Option.bind (p_X8_isSort v1 σ) fun x2 => if zm x2.1 = 0 then (some ((-1000000001), x2.2)) else (Option.bind (p_X8_within (zm v2) 0 19 x2.2) fun x17 => if zm x17.1 = 0 then (some ((-1000000002), x17.2)) else (if 4 ≤ zm v2 then (gd (0 ≤ zm v1 ∧ zm v1 < 4) (if zm ((zm (v2 - 4)).tmod 8) < zm (x17.2 8 (zm v1)) then (if 12 ≤ zm v2 then (gd (0 ≤ zm ((8 * v1) + ((zm (v2 - 4)).tmod 8)) ∧ zm ((8 * v1) + ((zm (v2 - 4)).tmod 8)) < 32) (some ((x17.2 10 (zm ((8 * v1) + ((zm (v2 - 4)).tmod 8)))), x17.2))) else (gd (0 ≤ zm ((8 * v1) + ((zm (v2 - 4)).tmod 8)) ∧ zm ((8 * v1) + ((zm (v2 - 4)).tmod 8)) < 32) (some ((x17.2 9 (zm ((8 * v1) + ((zm (v2 - 4)).tmod 8)))), x17.2)))) else (some ((-1), x17.2)))) else (if zm v2 = 0 then (gd (0 ≤ zm v1 ∧ zm v1 < 4) (some ((x17.2 8 (zm v1)), x17.2))) else (if zm v2 = 1 then (Option.bind (p_X8_sumOdds v1 0 x17.2) fun x52 => some (x52.1, x52.2)) else (if zm v2 = 2 then (gd (0 ≤ zm v1 ∧ zm v1 < 4) (some ((x17.2 11 (zm v1)), x17.2))) else (gd (0 ≤ zm v1 ∧ zm v1 < 4) (some ((x17.2 12 (zm v1)), x17.2))))))))
/-! RungHouseModel.takeSpan -/
def p_X8_takeSpan_36  (v1 : Int) (vs0 : Int) (σ : St) : Option (Int × St) :=
  gd (0 ≤ zm (v1 + 1) ∧ zm (v1 + 1) < 120) (nx (su σ 15 (zm (v1 + 1)) (σ 0 19)) fun σ48 => some (vs0, σ48))
def p_X8_takeSpan  (v1 : Int) (v2 : Int) (σ : St) : Option (Int × St) :=
  Option.bind (p_X8_takeNumber 0 v2 σ) fun x3 => gd (0 ≤ zm v1 ∧ zm v1 < 120) (nx (su x3.2 15 (zm v1) (x3.2 0 19)) fun σ16 => if zm x3.1 ≤ 0 then (Option.bind (p_X8_takeNumber (σ16 15 (zm v1)) v2 σ16) fun x33 => p_X8_takeSpan_36  v1 x33.1 x33.2) else (p_X8_takeSpan_36  v1 x3.1 σ16))
/-! RungHouseModel.takeRule -/
def p_X8_takeRule_289  (v4 : Int) (σ : St) : Option (Int × St) :=
  gd (0 ≤ zm (σ 0 23) ∧ zm (σ 0 23) < 4) (nx (su σ 14 (zm (σ 0 23)) ((σ 14 (zm (σ 0 23))) + 1)) fun σ301 => if zm v4 ≤ 0 then (Option.bind (p_X8_takeStop  σ301) fun x313 => some (x313.1, x313.2)) else (some (v4, σ301)))
def p_X8_takeRule_281 (K143 : Int → Int → Int → St → Option (Int × St)) (v3 : Int) (v5 : Int) (vs1 : Int) (vs2 : Int) (σ : St) : Option (Int × St) :=
  Option.bind (p_X8_takeSpan vs1 vs2 σ) fun x281 => K143 v3 x281.1 v5 x281.2
def p_X8_takeRule_267 (K143 : Int → Int → Int → St → Option (Int × St)) (v3 : Int) (v5 : Int) (v6 : Int) (vs1 : Int) (vs2 : Int) (σ : St) : Option (Int × St) :=
  if zm v6 = 1 then (p_X8_takeRule_281 K143 v3 v5 (vs1 + vs2) 9 σ) else (p_X8_takeRule_281 K143 v3 v5 (vs1 + vs2) 11 σ)
def p_X8_takeRule_223 (K143 : Int → Int → Int → St → Option (Int × St)) (v3 : Int) (v5 : Int) (vs0 : Int) (σ : St) : Option (Int × St) :=
  if zm v5 < zm vs0 then (nx (su σ 0 16 (σ 0 18)) fun σ251 => if zm vs0 = 1 then (p_X8_takeRule_267 K143 v3 vs0 vs0 v3 1 σ251) else (p_X8_takeRule_267 K143 v3 vs0 vs0 v3 3 σ251)) else (Option.bind (p_X8_fails 1 (σ 0 16) σ) fun x238 => some (x238.1, x238.2))
def p_X8_takeRule_143b  (K143 : Int → Int → Int → St → Option (Int × St)) (v3 : Int) (v4 : Int) (v5 : Int) (σ : St) : Option (Int × St) :=
  if zm v4 = 0 then (Option.bind (p_X8_here  σ) fun x149 => if zm x149.1 = 59 then (p_X8_takeRule_289  v4 x149.2) else (Option.bind (p_X8_readWord  x149.2) fun x158 => Option.bind (p_X8_code 114 117 110 103 x158.2) fun x173 => Option.bind (p_X8_longer x173.1 115 x173.2) fun x178 => if zm (zcmp (x158.2 0 17) x178.1) = 0 then (p_X8_takeRule_223 K143 v3 v5 1 x178.2) else (Option.bind (p_X8_code 109 111 110 116 x178.2) fun x201 => Option.bind (p_X8_longer x201.1 104 x201.2) fun x206 => Option.bind (p_X8_longer x206.1 115 x206.2) fun x211 => if zm (zcmp (x178.2 0 17) x211.1) = 0 then (p_X8_takeRule_223 K143 v3 v5 2 x211.2) else (p_X8_takeRule_223 K143 v3 v5 0 x211.2)))) else (p_X8_takeRule_289  v4 σ)
def p_X8_takeRule_143  : Nat → Int → Int → Int → St → Option (Int × St)
  | 0, _, _, _, _ => none
  | n + 1, v3, v4, v5, σ => p_X8_takeRule_143b  (p_X8_takeRule_143  n) v3 v4 v5 σ
def p_X8_takeRule_46  (vs1 : Int) (σ : St) : Option (Int × St) :=
  Option.bind (p_X8_fails vs1 (σ 0 16) σ) fun x50 => some (x50.1, x50.2)
def p_X8_takeRule_31  (v1 : Int) (σ : St) : Option (Int × St) :=
  if zm (zcmp (σ 0 17) v1) = 0 then (p_X8_takeRule_46  3 σ) else (p_X8_takeRule_46  1 σ)
def p_X8_takeRule   (σ : St) : Option (Int × St) :=
  Option.bind (p_X8_readWord  σ) fun x1 => if zm (zcmp (x1.2 0 17) 1503) = 0 then (gd (0 ≤ zm (x1.2 0 23) ∧ zm (x1.2 0 23) < 4) (if zm (x1.2 14 (zm (x1.2 0 23))) = 6 then (p_X8_takeRule_31  1503 x1.2) else (nx (su x1.2 0 16 (x1.2 0 18)) fun σ59 => gd (0 ≤ zm (σ59 0 23) ∧ zm (σ59 0 23) < 4) (nz (((30 * (σ59 0 23)) + (5 * (σ59 14 (zm (σ59 0 23)))))) fun z81 => Option.bind (p_X8_takeNumber 0 999 σ59) fun x87 => gd (0 ≤ zm z81 ∧ zm z81 < 120) (nx (su x87.2 15 (zm z81) (x87.2 0 19)) fun σ101 => gd (0 ≤ zm (z81 + 1) ∧ zm (z81 + 1) < 120) (nx (su σ101 15 (zm (z81 + 1)) 0) fun σ110 => gd (0 ≤ zm (z81 + 2) ∧ zm (z81 + 2) < 120) (nx (su σ110 15 (zm (z81 + 2)) 9) fun σ120 => gd (0 ≤ zm (z81 + 3) ∧ zm (z81 + 3) < 120) (nx (su σ120 15 (zm (z81 + 3)) 0) fun σ129 => gd (0 ≤ zm (z81 + 4) ∧ zm (z81 + 4) < 120) (nx (su σ129 15 (zm (z81 + 4)) 11) fun σ139 => p_X8_takeRule_143  FU z81 x87.1 0 σ139))))))))) else (p_X8_takeRule_31  1503 x1.2)
/-! RungHouseModel.rule -/
def p_X8_rule_64  (v1 : Int) (σ : St) : Option (Int × St) :=
  nx (su σ 0 14 0) fun σ66 => if zm v1 ≤ 0 then (nx (su σ66 0 23 ((σ66 0 23) + 1)) fun σ85 => some (((σ85 0 23) - 1), σ85)) else (some (((-10) - v1), σ66))
def p_X8_rule_45b  (K45 : Int → St → Option (Int × St)) (v1 : Int) (σ : St) : Option (Int × St) :=
  if zm v1 = 0 then (Option.bind (p_X8_here  σ) fun x50 => if zm x50.1 < 0 then (p_X8_rule_64  v1 x50.2) else (Option.bind (p_X8_takeRule  x50.2) fun x57 => K45 x57.1 x57.2)) else (p_X8_rule_64  v1 σ)
def p_X8_rule_45  : Nat → Int → St → Option (Int × St)
  | 0, _, _ => none
  | n + 1, v1, σ => p_X8_rule_45b  (p_X8_rule_45  n) v1 σ
def p_X8_rule   (σ : St) : Option (Int × St) :=
  if zm (σ 0 14) ≤ 120 then (if zm (σ 0 23) = 4 then (some ((-1000000004), σ)) else (nx (su σ 0 15 (-1)) fun σ25 => nx (su σ25 0 16 0) fun σ30 => gd (0 ≤ zm (σ30 0 23) ∧ zm (σ30 0 23) < 4) (nx (su σ30 14 (zm (σ30 0 23)) 0) fun σ42 => p_X8_rule_45  FU 0 σ42))) else (some ((-1000000003), σ))
/-! RungHouseModel.isRule -/
def p_X8_isRule  (v1 : Int) (σ : St) : Option (Int × St) :=
  Option.bind (p_X8_within (zm v1) 0 (zm ((σ 0 23) - 1)) σ) fun x10 => gd (x10.1 = 0 ∨ x10.1 = 1) (some (x10.1, x10.2))
/-! RungHouseModel.asksBy -/
def p_X8_asksBy_99 (K3 : Int → Int → Int → Int → Int → St → Option (Int × St)) (v1 : Int) (v2 : Int) (v3 : Int) (v4 : Int) (v5 : Int) (σ : St) : Option (Int × St) :=
  K3 v1 v2 v3 v4 (v5 + 1) σ
def p_X8_asksBy_3b  (K3 : Int → Int → Int → Int → Int → St → Option (Int × St)) (v1 : Int) (v2 : Int) (v3 : Int) (v4 : Int) (v5 : Int) (σ : St) : Option (Int × St) :=
  gd (0 ≤ zm v1 ∧ zm v1 < 4) (if zm (σ 14 (zm v1)) ≤ zm v5 then (some (1, σ)) else (gd (0 ≤ zm (((30 * v1) + (5 * v5)) + 1) ∧ zm (((30 * v1) + (5 * v5)) + 1) < 120) (gd (0 ≤ zm (((30 * v1) + (5 * v5)) + 2) ∧ zm (((30 * v1) + (5 * v5)) + 2) < 120) (Option.bind (p_X8_within (zm v2) (zm (σ 15 (zm (((30 * v1) + (5 * v5)) + 1)))) (zm (σ 15 (zm (((30 * v1) + (5 * v5)) + 2)))) σ) fun x47 => if zm x47.1 = 0 then (p_X8_asksBy_99 K3 v1 v2 v3 v4 v5 x47.2) else (gd (0 ≤ zm (((30 * v1) + (5 * v5)) + 3) ∧ zm (((30 * v1) + (5 * v5)) + 3) < 120) (gd (0 ≤ zm (((30 * v1) + (5 * v5)) + 4) ∧ zm (((30 * v1) + (5 * v5)) + 4) < 120) (Option.bind (p_X8_within (zm v3) (zm (x47.2 15 (zm (((30 * v1) + (5 * v5)) + 3)))) (zm (x47.2 15 (zm (((30 * v1) + (5 * v5)) + 4)))) x47.2) fun x75 => if zm x75.1 = 0 then (p_X8_asksBy_99 K3 v1 v2 v3 v4 v5 x75.2) else (gd (0 ≤ zm ((30 * v1) + (5 * v5)) ∧ zm ((30 * v1) + (5 * v5)) < 120) (if zm v4 < zm (x75.2 15 (zm ((30 * v1) + (5 * v5)))) then (some (0, x75.2)) else (some (1, x75.2)))))))))))
def p_X8_asksBy_3  : Nat → Int → Int → Int → Int → Int → St → Option (Int × St)
  | 0, _, _, _, _, _, _ => none
  | n + 1, v1, v2, v3, v4, v5, σ => p_X8_asksBy_3b  (p_X8_asksBy_3  n) v1 v2 v3 v4 v5 σ
def p_X8_asksBy  (v1 : Int) (v2 : Int) (v3 : Int) (v4 : Int) (σ : St) : Option (Int × St) :=
  p_X8_asksBy_3  FU v1 v2 v3 v4 0 σ
/-! RungHouseModel.place -/
def p_X8_place  (v0 : Int) (v1 : Int) (v2 : Int) (v3 : Int) (v4 : Int) (σ : St) : Option (Int × St) :=
  some ((((((((v0 * 30) + v1) * 10) + v2) * 52) + (4 * v3)) + v4), σ)
/-! RungHouseModel.more -/
def p_X8_more  (v1 : Int) (σ : St) : Option (Int × St) :=
  if zm v1 = 3 then (some (3, σ)) else (some ((v1 + 1), σ))
/-! RungHouseModel.bears -/
def p_X8_bears  (v1 : Int) (σ : St) : Option (Int × St) :=
  gd (0 ≤ zm (σ 0 29) ∧ zm (σ 0 29) < 3) (if zm (σ 6 (zm (σ 0 29))) ≤ zm v1 then (some ((σ 6 (zm (σ 0 29))), σ)) else (some (v1, σ)))
/-! RungHouseModel.asks -/
def p_X8_asks  (v1 : Int) (v2 : Int) (v3 : Int) (v4 : Int) (v5 : Int) (v6 : Int) (σ : St) : Option (Int × St) :=
  if zm (σ 0 30) < 0 then (Option.bind (p_X8_bears v6 σ) fun x27 => Option.bind (p_X8_more v5 x27.2) fun x45 => Option.bind (p_X8_place v1 v2 v3 (v4 + 1) x45.1 x45.2) fun x48 => gd (0 ≤ zm x48.1 ∧ zm x48.1 < 31200) (Option.bind (p_X8_place v1 v2 v3 (v4 + 1) v5 x48.2) fun x76 => gd (0 ≤ zm x76.1 ∧ zm x76.1 < 31200) (if zm ((1000 * v6) + (x76.2 17 (zm x76.1))) ≤ zm ((1000 * x27.1) + (x48.2 17 (zm x48.1))) then (some (0, x76.2)) else (some (1, x76.2))))) else (Option.bind (p_X8_asksBy (σ 0 30) v3 v4 v6 σ) fun x17 => gd (x17.1 = 0 ∨ x17.1 = 1) (some (x17.1, x17.2)))
