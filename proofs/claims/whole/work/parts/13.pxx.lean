/-! RungHouse.feed -/
def p_X7_feed_36b  (K36 : Int → Int → St → Option (Int × St)) (v2 : Int) (v4 : Int) (σ : St) : Option (Int × St) :=
  if zm v4 < 0 then (some ((σ 1 1), σ)) else (Option.bind (p_X4_add 1 (zand (zlushr v2 (8 * v4)) 255) σ) fun x57 => K36 v2 (v4 + (-1)) x57.2)
def p_X7_feed_36  : Nat → Int → Int → St → Option (Int × St)
  | 0, _, _, _ => none
  | n + 1, v2, v4, σ => p_X7_feed_36b  (p_X7_feed_36  n) v2 v4 σ
def p_X7_feed  (v1 : Int) (v2 : Int) (σ : St) : Option (Int × St) :=
  Option.bind (p_X7_isOut v1 1 8 σ) fun x4 => if zm x4.1 = 0 then (if zm ((x4.2 1 1) + v1) ≤ 300 then (p_X7_feed_36  FU v2 (v1 - 1) x4.2) else (some ((-1000000004), x4.2))) else (some ((-1000000002), x4.2))
/-! RungHouse.closeText -/
def p_X7_closeText  (v1 : Int) (σ : St) : Option (Int × St) :=
  nx (su σ 1 1 0) fun σ5 => nx (su σ5 0 13 (σ5 1 3)) fun σ16 => if zm (σ16 1 2) = 0 then (some (v1, σ16)) else (some (((-10) - (σ16 1 2)), σ16))
/-! RungHouse.house -/
def p_X7_house_54b  (K54 : Int → Int → Int → St → Option (Int × St)) (v1 : Int) (v2 : Int) (v3 : Int) (σ : St) : Option (Int × St) :=
  if 4 ≤ zm v3 then (some (v2, σ)) else (gd (0 ≤ zm ((v3 * 2) + v1) ∧ zm ((v3 * 2) + v1) < 8) (Option.bind (p_X3_forget (43 + 8 * zm ((v3 * 2) + v1)) σ) fun x69 => K54 v1 v2 (v3 + 1) x69.2))
def p_X7_house_54  : Nat → Int → Int → Int → St → Option (Int × St)
  | 0, _, _, _, _ => none
  | n + 1, v1, v2, v3, σ => p_X7_house_54b  (p_X7_house_54  n) v1 v2 v3 σ
def p_X7_house  (v1 : Int) (σ : St) : Option (Int × St) :=
  Option.bind (p_X7_isOut v1 0 1 σ) fun x3 => if zm x3.1 = 0 then (Option.bind (p_X0_readFrom 7 1 x3.2) fun x20 => Option.bind (p_X7_closeText (x20.2 7 1) x20.2) fun x31 => if zm x31.1 < 0 then (some (x31.1, x31.2)) else (gd (0 ≤ zm v1 ∧ zm v1 < 2) (Option.bind (p_X0_copyFrom (23 + 2 * zm v1) 7 x31.2) fun x49 => p_X7_house_54  FU v1 x31.1 0 x49.2))) else (some ((-1000000001), x3.2))
/-! RungHouse.sort -/
def p_X7_sort   (σ : St) : Option (Int × St) :=
  if zm (σ 1 1) ≤ 200 then (if zm (σ 0 11) < 4 then (gd (0 ≤ zm (σ 0 11) ∧ zm (σ 0 11) < 4) (Option.bind (p_X6_readFrom (27 + 4 * zm (σ 0 11)) 1 σ) fun x40 => Option.bind (p_X7_closeText (x40.2 0 11) x40.2) fun x48 => if zm x48.1 < 0 then (some (x48.1, x48.2)) else (nx (su x48.2 0 11 ((x48.2 0 11) + 1)) fun σ63 => some (x48.1, σ63)))) else (some ((-1000000004), σ))) else (some ((-1000000003), σ))
/-! RungHouse.rule -/
def p_X7_rule   (σ : St) : Option (Int × St) :=
  if zm (σ 1 1) ≤ 120 then (if zm (σ 0 12) < 4 then (gd (0 ≤ zm (σ 0 12) ∧ zm (σ 0 12) < 4) (Option.bind (p_X5_readFrom (115 + 6 * zm (σ 0 12)) 1 σ) fun x39 => Option.bind (p_X7_closeText (x39.2 0 12) x39.2) fun x47 => if zm x47.1 < 0 then (some (x47.1, x47.2)) else (nx (su x47.2 0 12 ((x47.2 0 12) + 1)) fun σ62 => some (x47.1, σ62)))) else (some ((-1000000004), σ))) else (some ((-1000000003), σ))
/-! RungHouse.fault -/
def p_X7_fault   (σ : St) : Option (Int × St) :=
  some ((σ 0 13), σ)
/-! RungHouse.isHouse -/
def p_X7_isHouse  (v1 : Int) (σ : St) : Option (Int × St) :=
  Option.bind (p_X7_isOut v1 0 1 σ) fun x3 => if zm x3.1 = 0 then (gd (0 ≤ zm v1 ∧ zm v1 < 2) (if zm (x3.2 (23 + 2 * zm v1) 1) ≤ 0 then (some (0, x3.2)) else (some (1, x3.2)))) else (some (0, x3.2))
/-! RungHouse.told -/
def p_X7_told  (v1 : Int) (v2 : Int) (σ : St) : Option (Int × St) :=
  Option.bind (p_X7_isHouse v1 σ) fun x2 => if zm x2.1 = 0 then (some ((-1000000001), x2.2)) else (if zm v2 = 0 then (gd (0 ≤ zm v1 ∧ zm v1 < 2) (some ((x2.2 (23 + 2 * zm v1) 1), x2.2))) else if zm v2 = 1 then (gd (0 ≤ zm v1 ∧ zm v1 < 2) (some ((x2.2 (23 + 2 * zm v1) 3), x2.2))) else if zm v2 = 2 then (gd (0 ≤ zm v1 ∧ zm v1 < 2) (some ((x2.2 (23 + 2 * zm v1) 4), x2.2))) else if zm v2 = 3 then (gd (0 ≤ zm v1 ∧ zm v1 < 2) (some ((x2.2 (23 + 2 * zm v1) 5), x2.2))) else if zm v2 = 4 then (gd (0 ≤ zm v1 ∧ zm v1 < 2) (some ((x2.2 (23 + 2 * zm v1) 6), x2.2))) else if zm v2 = 5 then (gd (0 ≤ zm v1 ∧ zm v1 < 2) (some ((x2.2 (23 + 2 * zm v1) 2), x2.2))) else (some ((-1000000002), x2.2)))
/-! RungHouse.isRung -/
def p_X7_isRung  (v1 : Int) (v2 : Int) (σ : St) : Option (Int × St) :=
  Option.bind (p_X7_isHouse v1 σ) fun x2 => if zm x2.1 = 0 then (some (0, x2.2)) else (gd (0 ≤ zm v1 ∧ zm v1 < 2) (Option.bind (p_X7_isOut v2 0 ((x2.2 (23 + 2 * zm v1) 1) - 1) x2.2) fun x21 => if zm x21.1 = 0 then (some (1, x21.2)) else (some (0, x21.2))))
/-! RungHouse.pays -/
def p_X7_pays  (v1 : Int) (v2 : Int) (σ : St) : Option (Int × St) :=
  Option.bind (p_X7_isRung v1 v2 σ) fun x3 => if zm x3.1 = 0 then (some ((-1000000001), x3.2)) else (gd (0 ≤ zm v1 ∧ zm v1 < 2) (gd (0 ≤ zm v2 ∧ zm v2 < 10) (some ((x3.2 ((23 + 2 * zm v1) + 1) (zm v2)), x3.2))))
/-! RungHouse.next -/
def p_X7_next  (v1 : Int) (v2 : Int) (v3 : Int) (σ : St) : Option (Int × St) :=
  Option.bind (p_X7_isRung v1 v2 σ) fun x3 => if zm x3.1 = 0 then (some ((-1000000001), x3.2)) else (Option.bind (p_X7_isOut v3 0 3 x3.2) fun x15 => if zm x15.1 = 0 then (gd (0 ≤ zm v1 ∧ zm v1 < 2) (Option.bind (p_X0_rungAfter (23 + 2 * zm v1) v2 v3 x15.2) fun x34 => some (x34.1, x34.2))) else (some ((-1000000002), x15.2)))
/-! RungHouse.isSort -/
def p_X7_isSort  (v1 : Int) (σ : St) : Option (Int × St) :=
  Option.bind (p_X7_isOut v1 0 ((σ 0 11) - 1) σ) fun x8 => if zm x8.1 = 0 then (some (1, x8.2)) else (some (0, x8.2))
/-! RungHouse.scrapes -/
def p_X7_scrapes  (v1 : Int) (v2 : Int) (σ : St) : Option (Int × St) :=
  Option.bind (p_X7_isSort v1 σ) fun x2 => if zm x2.1 = 0 then (some ((-1000000001), x2.2)) else (Option.bind (p_X7_isOut v2 0 19 x2.2) fun x15 => if zm x15.1 = 0 then (gd (0 ≤ zm v1 ∧ zm v1 < 4) (if zm v2 = 0 then (some ((x15.2 (27 + 4 * zm v1) 3), x15.2)) else if zm v2 = 1 then (some ((x15.2 (27 + 4 * zm v1) 4), x15.2)) else if zm v2 = 2 then (if zm (x15.2 (27 + 4 * zm v1) 5) = 0 then (some ((-1), x15.2)) else (some ((x15.2 (27 + 4 * zm v1) 6), x15.2))) else if zm v2 = 3 then (if zm (x15.2 (27 + 4 * zm v1) 5) = 0 then (some ((-1), x15.2)) else (some ((x15.2 (27 + 4 * zm v1) 7), x15.2))) else (if zm ((zm (v2 - 4)).tmod 8) < zm (x15.2 (27 + 4 * zm v1) 3) then (if 12 ≤ zm v2 then (gd (0 ≤ zm ((zm (v2 - 4)).tmod 8) ∧ zm ((zm (v2 - 4)).tmod 8) < 8) (some ((x15.2 ((27 + 4 * zm v1) + 2) (zm ((zm (v2 - 4)).tmod 8))), x15.2))) else (gd (0 ≤ zm ((zm (v2 - 4)).tmod 8) ∧ zm ((zm (v2 - 4)).tmod 8) < 8) (some ((x15.2 ((27 + 4 * zm v1) + 1) (zm ((zm (v2 - 4)).tmod 8))), x15.2)))) else (some ((-1), x15.2))))) else (some ((-1000000002), x15.2)))
/-! RungHouse.planOf -/
def p_X7_planOf  (v1 : Int) (v2 : Int) (v3 : Int) (σ : St) : Option (Int × St) :=
  gd (0 ≤ zm ((v1 * 2) + v2) ∧ zm ((v1 * 2) + v2) < 8) (Option.bind (p_X3_know (43 + 8 * zm ((v1 * 2) + v2)) v3 σ) fun x15 => some ((43 + 8 * zm ((v1 * 2) + v2)), x15.2))
/-! RungHouse.cost -/
def p_X7_cost  (v1 : Int) (v2 : Int) (v3 : Int) (v4 : Int) (v5 : Int) (σ : St) : Option (Int × St) :=
  Option.bind (p_X7_isSort v1 σ) fun x2 => if zm x2.1 = 0 then (some ((-1000000001), x2.2)) else (Option.bind (p_X7_isRung v2 v5 x2.2) fun x12 => if zm x12.1 = 0 then (some ((-1000000001), x12.2)) else (Option.bind (p_X7_isOut v3 1 30 x12.2) fun x25 => if zm x25.1 = 0 then (Option.bind (p_X7_isOut v4 0 v3 x25.2) fun x35 => if zm x35.1 = 0 then (Option.bind (p_X7_planOf v1 v2 v3 x35.2) fun x48 => gd (kX x48.1 = (3, 0)) (Option.bind (p_X3_costWith x48.1 (v3 - v4) v5 x48.2) fun x57 => some (x57.1, x57.2))) else (some ((-1000000002), x35.2))) else (some ((-1000000002), x25.2))))
/-! RungHouse.isNoYear -/
def p_X7_isNoYear_21   (σ : St) : Option (Int × St) :=
  some (1, σ)
def p_X7_isNoYear  (v0 : Int) (v1 : Int) (σ : St) : Option (Int × St) :=
  Option.bind (p_X7_isOut v0 1 30 σ) fun x4 => if zm x4.1 = 0 then (Option.bind (p_X7_isOut v1 0 (v0 - 1) x4.2) fun x15 => if zm x15.1 = 0 then (some (0, x15.2)) else (p_X7_isNoYear_21   x15.2)) else (p_X7_isNoYear_21   x4.2)
/-! RungHouse.in -/
def p_X7_in  (v1 : Int) (v2 : Int) (v3 : Int) (v4 : Int) (v5 : Int) (v6 : Int) (v7 : Int) (v8 : Int) (σ : St) : Option (Int × St) :=
  Option.bind (p_X7_isSort v1 σ) fun x2 => if zm x2.1 = 0 then (some ((-1000000001), x2.2)) else (Option.bind (p_X7_isRung v2 v5 x2.2) fun x12 => if zm x12.1 = 0 then (some ((-1000000001), x12.2)) else (Option.bind (p_X7_isNoYear v3 v4 x12.2) fun x24 => if zm x24.1 = 0 then (Option.bind (p_X7_isOut v6 0 12 x24.2) fun x35 => if zm x35.1 = 0 then (Option.bind (p_X7_isOut v7 0 3 x35.2) fun x45 => if zm x45.1 = 0 then (Option.bind (p_X7_planOf v1 v2 v3 x45.2) fun x58 => gd (kX x58.1 = (3, 0)) (Option.bind (p_X3_openYear x58.1 (v3 - v4) v5 v8 x58.2) fun x73 => Option.bind (p_X3_inside x58.1 v6 v7 x73.2) fun x82 => some (x82.1, x82.2))) else (some ((-1000000002), x45.2))) else (some ((-1000000002), x35.2))) else (some ((-1000000002), x24.2))))
/-! RungHouse.takes -/
def p_X7_takes  (v1 : Int) (v2 : Int) (v3 : Int) (v4 : Int) (v5 : Int) (σ : St) : Option (Int × St) :=
  Option.bind (p_X7_isSort v1 σ) fun x2 => if zm x2.1 = 0 then (some ((-1000000001), x2.2)) else (Option.bind (p_X7_isRung v2 v5 x2.2) fun x12 => if zm x12.1 = 0 then (some ((-1000000001), x12.2)) else (Option.bind (p_X7_isNoYear v3 v4 x12.2) fun x24 => if zm x24.1 = 0 then (Option.bind (p_X7_planOf v1 v2 v3 x24.2) fun x37 => gd (kX x37.1 = (3, 0)) (Option.bind (p_X3_isPained x37.1 (v3 - v4) v5 x37.2) fun x46 => if zm x46.1 = 0 then (some (0, x46.2)) else (some (1, x46.2)))) else (some ((-1000000002), x24.2))))
/-! RungHouse.bar -/
def p_X7_bar  (v1 : Int) (v2 : Int) (v3 : Int) (v4 : Int) (v5 : Int) (v6 : Int) (v7 : Int) (v8 : Int) (σ : St) : Option (Int × St) :=
  Option.bind (p_X7_isSort v1 σ) fun x2 => if zm x2.1 = 0 then (some ((-1000000001), x2.2)) else (Option.bind (p_X7_isRung v2 v5 x2.2) fun x12 => if zm x12.1 = 0 then (some ((-1000000001), x12.2)) else (Option.bind (p_X7_isNoYear v3 v4 x12.2) fun x24 => if zm x24.1 = 0 then (Option.bind (p_X7_isOut v6 0 11 x24.2) fun x35 => if zm x35.1 = 0 then (Option.bind (p_X7_isOut v7 0 3 x35.2) fun x45 => if zm x45.1 = 0 then (Option.bind (p_X7_planOf v1 v2 v3 x45.2) fun x58 => gd (kX x58.1 = (3, 0)) (Option.bind (p_X3_openYear x58.1 (v3 - v4) v5 v8 x58.2) fun x73 => Option.bind (p_X3_leastAsked x58.1 v6 v7 x73.2) fun x82 => some (x82.1, x82.2))) else (some ((-1000000002), x45.2))) else (some ((-1000000002), x35.2))) else (some ((-1000000002), x24.2))))
/-! RungHouse.isRule -/
def p_X7_isRule  (v1 : Int) (σ : St) : Option (Int × St) :=
  Option.bind (p_X7_isOut v1 0 ((σ 0 12) - 1) σ) fun x8 => if zm x8.1 = 0 then (some (1, x8.2)) else (some (0, x8.2))
/-! RungHouse.fixed -/
def p_X7_fixed  (v1 : Int) (v2 : Int) (v3 : Int) (v4 : Int) (v5 : Int) (v6 : Int) (σ : St) : Option (Int × St) :=
  Option.bind (p_X7_isRule v1 σ) fun x2 => if zm x2.1 = 0 then (some ((-1000000001), x2.2)) else (Option.bind (p_X7_isSort v2 x2.2) fun x10 => if zm x10.1 = 0 then (some ((-1000000001), x10.2)) else (Option.bind (p_X7_isRung v3 v6 x10.2) fun x20 => if zm x20.1 = 0 then (some ((-1000000001), x20.2)) else (Option.bind (p_X7_isOut v4 1 30 x20.2) fun x34 => if zm x34.1 = 0 then (Option.bind (p_X7_isOut v5 0 v4 x34.2) fun x45 => if zm x45.1 = 0 then (gd (0 ≤ zm v2 ∧ zm v2 < 4) (gd (0 ≤ zm v3 ∧ zm v3 < 2) (gd (0 ≤ zm v1 ∧ zm v1 < 4) (Option.bind (p_X3_begin 107 (27 + 4 * zm v2) (23 + 2 * zm v3) (115 + 6 * zm v1) x45.2) fun x76 => Option.bind (p_X3_know 107 (v4 - v5) x76.2) fun x88 => Option.bind (p_X3_costWith 107 (v4 - v5) v6 x88.2) fun x102 => some (x102.1, x102.2))))) else (some ((-1000000002), x45.2))) else (some ((-1000000002), x34.2)))))
/-! RungHouse.scrape -/
def p_X7_scrape  (v1 : Int) (v2 : Int) (v3 : Int) (σ : St) : Option (Int × St) :=
  Option.bind (p_X7_isOut v1 0 11 σ) fun x4 => if zm x4.1 = 0 then (Option.bind (p_X7_isOut v2 1 999 x4.2) fun x15 => if zm x15.1 = 0 then (Option.bind (p_X2_rises 16 v1 x15.2) fun x29 => if zm x29.1 = 0 then (some ((-1000000003), x29.2)) else (Option.bind (p_X2_addScrape 16 v1 v2 v3 x29.2) fun x45 => some ((x45.2 16 3), x45.2))) else (some ((-1000000002), x15.2))) else (some ((-1000000002), x4.2))
/-! RungHouse.judge -/
def p_X7_judge_135 (K60 : Int → Int → Int → St → Option (Int × St)) (o6 : Int) (v7 : Int) (v8 : Int) (σ : St) : Option (Int × St) :=
  K60 o6 v7 (v8 + 1) σ
def p_X7_judge_60b  (K60 : Int → Int → Int → St → Option (Int × St)) (o6 : Int) (v7 : Int) (v8 : Int) (σ : St) : Option (Int × St) :=
  if zm (σ 16 3) ≤ zm v8 then (some ((-1), σ)) else (gd (0 ≤ zm v8 ∧ zm v8 < 12) (Option.bind (p_X3_isAsked o6 (σ (16 + 1) (zm v8)) v7 (σ (16 + 2) (zm v8)) σ) fun x96 => if zm x96.1 = zm (x96.2 (16 + 3) (zm v8)) then (if zm (x96.2 (16 + 3) (zm v8)) = 0 then (p_X7_judge_135 K60 o6 v7 v8 x96.2) else (Option.bind (p_X7_oneMore v7 x96.2) fun x130 => p_X7_judge_135 K60 o6 x130.1 v8 x130.2)) else (some (v8, x96.2))))
def p_X7_judge_60  : Nat → Int → Int → Int → St → Option (Int × St)
  | 0, _, _, _, _ => none
  | n + 1, o6, v7, v8, σ => p_X7_judge_60b  (p_X7_judge_60  n) o6 v7 v8 σ
def p_X7_judge  (v1 : Int) (v2 : Int) (v3 : Int) (v4 : Int) (v5 : Int) (σ : St) : Option (Int × St) :=
  Option.bind (p_X7_isSort v1 σ) fun x2 => if zm x2.1 = 0 then (some ((-1000000001), x2.2)) else (Option.bind (p_X7_isRung v2 v5 x2.2) fun x12 => if zm x12.1 = 0 then (some ((-1000000001), x12.2)) else (Option.bind (p_X7_isNoYear v3 v4 x12.2) fun x24 => if zm x24.1 = 0 then (Option.bind (p_X7_planOf v1 v2 v3 x24.2) fun x37 => gd (kX x37.1 = (3, 0)) (Option.bind (p_X3_openYear x37.1 (v3 - v4) v5 0 x37.2) fun x51 => p_X7_judge_60  FU x37.1 0 0 x51.2)) else (some ((-1000000002), x24.2))))
/-! RungHouse.isWay -/
def p_X7_isWay_13   (σ : St) : Option (Int × St) :=
  some (1, σ)
def p_X7_isWay  (v1 : Int) (σ : St) : Option (Int × St) :=
  if zm v1 = (-1) then (p_X7_isWay_13   σ) else (Option.bind (p_X7_isRule v1 σ) fun x7 => if zm x7.1 = 0 then (some (0, x7.2)) else (p_X7_isWay_13   x7.2))
/-! RungHouse.wayOf -/
def p_X7_wayOf  (v1 : Int) (v2 : Int) (v3 : Int) (v4 : Int) (σ : St) : Option (Int × St) :=
  if zm v3 = (-1) then (Option.bind (p_X7_planOf v1 v2 v4 σ) fun x10 => gd (kX x10.1 = (3, 0)) (some (x10.1, x10.2))) else (gd (0 ≤ zm v1 ∧ zm v1 < 4) (gd (0 ≤ zm v2 ∧ zm v2 < 2) (gd (0 ≤ zm v3 ∧ zm v3 < 4) (Option.bind (p_X3_begin 107 (27 + 4 * zm v1) (23 + 2 * zm v2) (115 + 6 * zm v3) σ) fun x36 => some (107, x36.2)))))
/-! RungHouse.standing -/
def p_X7_standing  (v1 : Int) (v2 : Int) (v3 : Int) (v4 : Int) (v5 : Int) (v6 : Int) (σ : St) : Option (Int × St) :=
  Option.bind (p_X7_isSort v1 σ) fun x2 => if zm x2.1 = 0 then (some ((-1000000001), x2.2)) else (Option.bind (p_X7_isRung v2 v6 x2.2) fun x12 => if zm x12.1 = 0 then (some ((-1000000001), x12.2)) else (Option.bind (p_X7_isWay v3 x12.2) fun x20 => if zm x20.1 = 0 then (some ((-1000000001), x20.2)) else (Option.bind (p_X7_isOut v4 1 30 x20.2) fun x34 => if zm x34.1 = 0 then (Option.bind (p_X7_isOut v5 0 30 x34.2) fun x45 => if zm x45.1 = 0 then (Option.bind (p_X7_wayOf v1 v2 v3 v4 x45.2) fun x64 => gd (kX x64.1 = (3, 0)) (Option.bind (p_X1_reckon 9 x64.1 v4 x64.2) fun x69 => gd (0 ≤ zm v2 ∧ zm v2 < 2) (Option.bind (p_X1_goTo 9 (23 + 2 * zm v2) v5 x69.2) fun x84 => gd (0 ≤ zm v6 ∧ zm v6 < 10) (some ((x84.2 (9 + 1) (zm v6)), x84.2))))) else (some ((-1000000002), x45.2))) else (some ((-1000000002), x34.2)))))
/-! RungHouse.odds -/
def p_X7_odds  (v1 : Int) (v2 : Int) (v3 : Int) (v4 : Int) (v5 : Int) (v6 : Int) (σ : St) : Option (Int × St) :=
  Option.bind (p_X7_isSort v1 σ) fun x2 => if zm x2.1 = 0 then (some ((-1000000001), x2.2)) else (Option.bind (p_X7_isRung v2 v5 x2.2) fun x12 => if zm x12.1 = 0 then (some ((-1000000001), x12.2)) else (Option.bind (p_X7_isWay v3 x12.2) fun x20 => if zm x20.1 = 0 then (some ((-1000000001), x20.2)) else (Option.bind (p_X7_isOut v4 1 30 x20.2) fun x34 => if zm x34.1 = 0 then (Option.bind (p_X7_isOut v6 0 3 x34.2) fun x44 => if zm x44.1 = 0 then (Option.bind (p_X7_wayOf v1 v2 v3 v4 x44.2) fun x63 => gd (kX x63.1 = (3, 0)) (Option.bind (p_X1_reckonRung 9 x63.1 v4 v5 x63.2) fun x70 => Option.bind (p_X1_oddsOf 9 v5 v6 x70.2) fun x81 => some (x81.1, x81.2))) else (some ((-1000000002), x44.2))) else (some ((-1000000002), x34.2)))))
/-! RungHouse.even -/
def p_X7_even  (v1 : Int) (v2 : Int) (v3 : Int) (v4 : Int) (v5 : Int) (v6 : Int) (σ : St) : Option (Int × St) :=
  Option.bind (p_X7_isSort v1 σ) fun x2 => if zm x2.1 = 0 then (some ((-1000000001), x2.2)) else (Option.bind (p_X7_isHouse v2 x2.2) fun x10 => if zm x10.1 = 0 then (some ((-1000000001), x10.2)) else (Option.bind (p_X7_isWay v3 x10.2) fun x18 => if zm x18.1 = 0 then (some ((-1000000001), x18.2)) else (Option.bind (p_X7_isOut v4 1 30 x18.2) fun x32 => if zm x32.1 = 0 then (Option.bind (p_X7_isOut v5 0 30 x32.2) fun x43 => if zm x43.1 = 0 then (Option.bind (p_X7_isOut v6 0 2 x43.2) fun x53 => if zm x53.1 = 0 then (Option.bind (p_X7_wayOf v1 v2 v3 v4 x53.2) fun x72 => gd (kX x72.1 = (3, 0)) (Option.bind (p_X1_reckon 9 x72.1 v4 x72.2) fun x77 => gd (0 ≤ zm v2 ∧ zm v2 < 2) (Option.bind (p_X1_goTo 9 (23 + 2 * zm v2) v5 x77.2) fun x92 => Option.bind (p_X1_paid 9 (23 + 2 * zm v2) x92.2) fun x105 => Option.bind (p_X1_askedFor 9 x105.2) fun x114 => if zm v6 = 0 then (some (x105.1, x114.2)) else (if zm v6 = 1 then (some (x114.1, x114.2)) else (some ((x105.1 - x114.1), x114.2)))))) else (some ((-1000000002), x53.2))) else (some ((-1000000002), x43.2))) else (some ((-1000000002), x32.2)))))
/-! RungHouse.year -/
def p_X7_year  (v1 : Int) (v2 : Int) (σ : St) : Option (Int × St) :=
  Option.bind (p_X7_isOut v1 0 9 σ) fun x4 => if zm x4.1 = 0 then (Option.bind (p_X7_isOut v2 0 3 x4.2) fun x13 => if zm x13.1 = 0 then (if zm (x13.2 16 6) < 8 then (Option.bind (p_X2_addYear 16 v1 v2 x13.2) fun x43 => some ((x43.2 16 6), x43.2)) else (some ((-1000000004), x13.2))) else (some ((-1000000002), x13.2))) else (some ((-1000000002), x4.2))
/-! RungHouse.clear -/
def p_X7_clear   (σ : St) : Option (Int × St) :=
  nx (su σ 16 3 0) fun σ21 => nx (su σ21 16 6 0) fun σ29 => some (((σ 16 3) + (σ 16 6)), σ29)
/-! RungHouse.weighSorts -/
def p_X7_weighSorts_189 (K27 : Int → Int → Int → St → Option (Int × St)) (v1 : Int) (v2 : Int) (v3 : Int) (σ : St) : Option (Int × St) :=
  K27 v1 v2 (v3 + 1) σ
def p_X7_weighSorts_146b (K27 : Int → Int → Int → St → Option (Int × St)) (K146 : Int → Int → Int → Int → Int → St → Option (Int × St)) (v1 : Int) (v2 : Int) (v3 : Int) (v4 : Int) (v6 : Int) (σ : St) : Option (Int × St) :=
  if zm (σ 0 11) ≤ zm v6 then (p_X7_weighSorts_189 K27 v1 v2 v3 σ) else (if zm (zcmp v4 0) ≤ 0 then (p_X7_weighSorts_189 K27 v1 v2 v3 σ) else (gd (0 ≤ zm v6 ∧ zm v6 < 4) (gd (¬ zl v4 = 0) (nx (su σ 15 (zm v6) ((zl ((σ 15 (zm v6)) * 100000)).tdiv (zl v4))) fun σ182 => K146 v1 v2 v3 v4 (v6 + 1) σ182))))
def p_X7_weighSorts_146 (K27 : Int → Int → Int → St → Option (Int × St)) : Nat → Int → Int → Int → Int → Int → St → Option (Int × St)
  | 0, _, _, _, _, _, _ => none
  | n + 1, v1, v2, v3, v4, v6, σ => p_X7_weighSorts_146b K27 (p_X7_weighSorts_146 K27 n) v1 v2 v3 v4 v6 σ
def p_X7_weighSorts_44b (K27 : Int → Int → Int → St → Option (Int × St)) (K44 : Int → Int → Int → Int → Int → St → Option (Int × St)) (v1 : Int) (v2 : Int) (v3 : Int) (v4 : Int) (v6 : Int) (σ : St) : Option (Int × St) :=
  if zm (σ 0 11) ≤ zm v6 then (p_X7_weighSorts_146 K27 FU v1 v2 v3 v4 0 σ) else (Option.bind (p_X7_planOf v6 v1 v2 σ) fun x62 => gd (kX x62.1 = (3, 0)) (gd (0 ≤ zm v3 ∧ zm v3 < 8) (Option.bind (p_X1_reckonRung 9 x62.1 v2 (x62.2 (16 + 4) (zm v3)) x62.2) fun x75 => gd (0 ≤ zm v6 ∧ zm v6 < 4) (Option.bind (p_X1_oddsOf 9 (x75.2 (16 + 4) (zm v3)) (x75.2 (16 + 5) (zm v3)) x75.2) fun x113 => nx (su x113.2 15 (zm v6) ((zl ((x75.2 15 (zm v6)) * (zm x113.1))).tdiv 1000000)) fun σ122 => nz ((if zl (σ122 15 (zm v6)) < zl v4 then v4 else (σ122 15 (zm v6)))) fun z135 => K44 v1 v2 v3 z135 (v6 + 1) σ122))))
def p_X7_weighSorts_44 (K27 : Int → Int → Int → St → Option (Int × St)) : Nat → Int → Int → Int → Int → Int → St → Option (Int × St)
  | 0, _, _, _, _, _, _ => none
  | n + 1, v1, v2, v3, v4, v6, σ => p_X7_weighSorts_44b K27 (p_X7_weighSorts_44 K27 n) v1 v2 v3 v4 v6 σ
def p_X7_weighSorts_27b  (K27 : Int → Int → Int → St → Option (Int × St)) (v1 : Int) (v2 : Int) (v3 : Int) (σ : St) : Option (Int × St) :=
  if zm (σ 16 6) ≤ zm v3 then (some (0, σ)) else (p_X7_weighSorts_44 K27 FU v1 v2 v3 0 0 σ)
def p_X7_weighSorts_27  : Nat → Int → Int → Int → St → Option (Int × St)
  | 0, _, _, _, _ => none
  | n + 1, v1, v2, v3, σ => p_X7_weighSorts_27b  (p_X7_weighSorts_27  n) v1 v2 v3 σ
def p_X7_weighSorts_2b  (K2 : Int → Int → Int → St → Option (Int × St)) (v1 : Int) (v2 : Int) (v3 : Int) (σ : St) : Option (Int × St) :=
  if zm (σ 0 11) ≤ zm v3 then (p_X7_weighSorts_27  FU v1 v2 0 σ) else (gd (0 ≤ zm v3 ∧ zm v3 < 4) (nx (su σ 15 (zm v3) 100000) fun σ18 => K2 v1 v2 (v3 + 1) σ18))
def p_X7_weighSorts_2  : Nat → Int → Int → Int → St → Option (Int × St)
  | 0, _, _, _, _ => none
  | n + 1, v1, v2, v3, σ => p_X7_weighSorts_2b  (p_X7_weighSorts_2  n) v1 v2 v3 σ
def p_X7_weighSorts  (v1 : Int) (v2 : Int) (σ : St) : Option (Int × St) :=
  p_X7_weighSorts_2  FU v1 v2 0 σ
/-! RungHouse.think -/
def p_X7_think_66b  (K66 : Int → Int → Int → St → Option (Int × St)) (v1 : Int) (v4 : Int) (v6 : Int) (σ : St) : Option (Int × St) :=
  if zm (σ 0 11) ≤ zm v6 then (if zm (zcmp v4 0) ≤ 0 then (some (0, σ)) else (gd (0 ≤ zm v1 ∧ zm v1 < 4) (gd (¬ zl v4 = 0) (some (((zl (100 * (σ 15 (zm v1)))).tdiv (zl v4)), σ))))) else (gd (0 ≤ zm v6 ∧ zm v6 < 4) (K66 v1 (v4 + (σ 15 (zm v6))) (v6 + 1) σ))
def p_X7_think_66  : Nat → Int → Int → Int → St → Option (Int × St)
  | 0, _, _, _, _ => none
  | n + 1, v1, v4, v6, σ => p_X7_think_66b  (p_X7_think_66  n) v1 v4 v6 σ
def p_X7_think  (v1 : Int) (v2 : Int) (v3 : Int) (σ : St) : Option (Int × St) :=
  Option.bind (p_X7_isSort v1 σ) fun x2 => if zm x2.1 = 0 then (some ((-1000000001), x2.2)) else (Option.bind (p_X7_isHouse v2 x2.2) fun x10 => if zm x10.1 = 0 then (some ((-1000000001), x10.2)) else (Option.bind (p_X7_isOut v3 1 30 x10.2) fun x23 => if zm x23.1 = 0 then (Option.bind (p_X2_highestRung 16 x23.2) fun x36 => gd (0 ≤ zm v2 ∧ zm v2 < 2) (if zm x36.1 < zm (x36.2 (23 + 2 * zm v2) 1) then (Option.bind (p_X7_weighSorts v2 v3 x36.2) fun x57 => p_X7_think_66  FU v1 0 0 x57.2) else (some ((-1000000003), x36.2)))) else (some ((-1000000002), x23.2))))
/-! RungHouse.buy -/
def p_X7_buy  (v1 : Int) (v2 : Int) (v3 : Int) (v4 : Int) (v5 : Int) (v6 : Int) (σ : St) : Option (Int × St) :=
  Option.bind (p_X7_isSort v1 σ) fun x2 => if zm x2.1 = 0 then (some ((-1000000001), x2.2)) else (Option.bind (p_X7_isRung v2 v5 x2.2) fun x12 => if zm x12.1 = 0 then (some ((-1000000001), x12.2)) else (Option.bind (p_X7_isNoYear v3 v4 x12.2) fun x24 => if zm x24.1 = 0 then (Option.bind (p_X7_isOut v6 1 3 x24.2) fun x34 => if zm x34.1 = 0 then (Option.bind (p_X7_planOf v1 v2 v3 x34.2) fun x47 => gd (kX x47.1 = (3, 0)) (gd (0 ≤ zm v2 ∧ zm v2 < 2) (Option.bind (p_X0_rungAfter (23 + 2 * zm v2) v5 v6 x47.2) fun x74 => Option.bind (p_X3_costWith x47.1 ((v3 - v4) - 1) x74.1 x74.2) fun x77 => Option.bind (p_X0_rungAfter (23 + 2 * zm v2) v5 (v6 - 1) x77.2) fun x96 => Option.bind (p_X3_costWith x47.1 ((v3 - v4) - 1) x96.1 x96.2) fun x99 => some ((x77.1 - x99.1), x99.2)))) else (some ((-1000000002), x34.2))) else (some ((-1000000002), x24.2))))
/-! RungHouse.keepRung -/
def p_X7_keepRung  (v1 : Int) (v2 : Int) (v3 : Int) (v4 : Int) (σ : St) : Option (Int × St) :=
  Option.bind (p_X7_isSort v1 σ) fun x2 => if zm x2.1 = 0 then (some ((-1000000001), x2.2)) else (Option.bind (p_X7_isRung v2 v4 x2.2) fun x12 => if zm x12.1 = 0 then (some ((-1000000001), x12.2)) else (Option.bind (p_X7_isOut v3 1 30 x12.2) fun x25 => if zm x25.1 = 0 then (gd (0 ≤ zm v2 ∧ zm v2 < 2) (Option.bind (p_X0_isKept (23 + 2 * zm v2) v4 x25.2) fun x42 => if zm x42.1 = 0 then (Option.bind (p_X0_copyFrom 7 (23 + 2 * zm v2) x42.2) fun x60 => nx (su x60.2 7 2 (zor (x60.2 7 2) (zshl 1 v4))) fun σ79 => gd (0 ≤ zm v1 ∧ zm v1 < 4) (Option.bind (p_X3_begin 107 (27 + 4 * zm v1) 7 (-1) σ79) fun x97 => Option.bind (p_X3_know 107 v3 x97.2) fun x105 => Option.bind (p_X7_planOf v1 v2 v3 x105.2) fun x112 => gd (kX x112.1 = (3, 0)) (Option.bind (p_X3_costWith x112.1 v3 v4 x112.2) fun x118 => Option.bind (p_X3_costWith 107 v3 v4 x118.2) fun x128 => some ((x118.1 - x128.1), x128.2)))) else (some (0, x42.2)))) else (some ((-1000000002), x25.2))))
/-! RungHouse.leave -/
def p_X7_leave  (v1 : Int) (v2 : Int) (v3 : Int) (v4 : Int) (σ : St) : Option (Int × St) :=
  Option.bind (p_X7_isSort v1 σ) fun x2 => if zm x2.1 = 0 then (some ((-1000000001), x2.2)) else (Option.bind (p_X7_isRung v2 v4 x2.2) fun x12 => if zm x12.1 = 0 then (some ((-1000000001), x12.2)) else (Option.bind (p_X7_isHouse (1 - v2) x12.2) fun x22 => if zm x22.1 = 0 then (some ((-1000000001), x22.2)) else (Option.bind (p_X7_isOut v3 1 30 x22.2) fun x35 => if zm x35.1 = 0 then (gd (0 ≤ zm (1 - v2) ∧ zm (1 - v2) < 2) (nz ((if zm (x35.2 (23 + 2 * zm (1 - v2)) 6) < zm v4 then (x35.2 (23 + 2 * zm (1 - v2)) 6) else v4)) fun z60 => Option.bind (p_X7_planOf v1 (1 - v2) v3 x35.2) fun x68 => gd (kX x68.1 = (3, 0)) (Option.bind (p_X3_costWith x68.1 v3 z60 x68.2) fun x74 => Option.bind (p_X7_planOf v1 v2 v3 x74.2) fun x81 => gd (kX x81.1 = (3, 0)) (Option.bind (p_X3_costWith x81.1 v3 v4 x81.2) fun x87 => if zm x87.1 ≤ zm x74.1 then (some (0, x87.2)) else (some (1, x87.2)))))) else (some ((-1000000002), x35.2)))))
/-! RungHouse.pad -/
def p_X7_pad  (v1 : Int) (v2 : Int) (v3 : Int) (v4 : Int) (v5 : Int) (v6 : Int) (v7 : Int) (v8 : Int) (v9 : Int) (σ : St) : Option (Int × St) :=
  Option.bind (p_X7_isSort v1 σ) fun x2 => if zm x2.1 = 0 then (some ((-1000000001), x2.2)) else (Option.bind (p_X7_isRung v2 v4 x2.2) fun x12 => if zm x12.1 = 0 then (some ((-1000000001), x12.2)) else (Option.bind (p_X7_isOut v3 1 30 x12.2) fun x25 => if zm x25.1 = 0 then (Option.bind (p_X7_isOut v5 0 11 x25.2) fun x36 => if zm x36.1 = 0 then (Option.bind (p_X7_isOut v6 0 3 x36.2) fun x46 => if zm x46.1 = 0 then (Option.bind (p_X7_isOut v7 1 999 x46.2) fun x61 => if zm x61.1 = 0 then (Option.bind (p_X7_isOut v8 0 999 x61.2) fun x73 => if zm x73.1 = 0 then (Option.bind (p_X7_isOut v9 0 100 x73.2) fun x84 => if zm x84.1 = 0 then (Option.bind (p_X7_planOf v1 v2 v3 x84.2) fun x97 => gd (kX x97.1 = (3, 0)) (Option.bind (p_X3_openYear x97.1 v3 v4 0 x97.2) fun x108 => gd (0 ≤ zm v2 ∧ zm v2 < 2) (Option.bind (p_X0_bears (23 + 2 * zm v2) v7 x108.2) fun x119 => Option.bind (p_X7_oneMore v6 x119.2) fun x134 => Option.bind (p_X3_inside x97.1 (v5 + 1) x134.1 x134.2) fun x137 => Option.bind (p_X3_inside x97.1 (v5 + 1) 3 x137.2) fun x157 => some (((zl ((((100 - (zm v9)) * (zm v8)) * 1000) - ((zm v9) * ((zm ((v7 * 1000) + x157.1)) - (zm ((x119.1 * 1000) + x137.1)))))).tdiv 100), x157.2)))) else (some ((-1000000002), x84.2))) else (some ((-1000000002), x73.2))) else (some ((-1000000002), x61.2))) else (some ((-1000000002), x46.2))) else (some ((-1000000002), x36.2))) else (some ((-1000000002), x25.2))))
/-! RungHouse.painedTrial -/
def p_X7_painedTrial_125 (K5 : Int → Int → Int → Int → St → Option (Int × St)) (K94 : Int → Int → Int → Int → Int → St → Option (Int × St)) (v1 : Int) (v2 : Int) (v4 : Int) (v5 : Int) (vs0 : Int) (vs1 : Int) (σ : St) : Option (Int × St) :=
  K94 v1 v2 (vs0 + vs1) v4 (v5 + 1) σ
def p_X7_painedTrial_94b (K5 : Int → Int → Int → Int → St → Option (Int × St)) (K94 : Int → Int → Int → Int → Int → St → Option (Int × St)) (v1 : Int) (v2 : Int) (v3 : Int) (v4 : Int) (v5 : Int) (σ : St) : Option (Int × St) :=
  if zm (σ 7 1) ≤ zm v5 then (K5 v1 v2 v3 (v4 + 1) σ) else (Option.bind (p_X3_isPained 107 v1 v5 σ) fun x114 => if zm x114.1 = 0 then (p_X7_painedTrial_125 K5 K94 v1 v2 v4 v5 v3 0 x114.2) else (p_X7_painedTrial_125 K5 K94 v1 v2 v4 v5 v3 1 x114.2))
def p_X7_painedTrial_94 (K5 : Int → Int → Int → Int → St → Option (Int × St)) : Nat → Int → Int → Int → Int → Int → St → Option (Int × St)
  | 0, _, _, _, _, _, _ => none
  | n + 1, v1, v2, v3, v4, v5, σ => p_X7_painedTrial_94b K5 (p_X7_painedTrial_94 K5 n) v1 v2 v3 v4 v5 σ
def p_X7_painedTrial_5b  (K5 : Int → Int → Int → Int → St → Option (Int × St)) (v1 : Int) (v2 : Int) (v3 : Int) (v4 : Int) (σ : St) : Option (Int × St) :=
  if zm (σ 0 11) ≤ zm v4 then (some (v3, σ)) else (gd (0 ≤ zm v4 ∧ zm v4 < 4) (Option.bind (p_X3_begin 107 (27 + 4 * zm v4) 7 (-1) σ) fun x30 => Option.bind (p_X3_know 107 v1 x30.2) fun x38 => Option.bind (p_X1_reckon 9 107 v1 x38.2) fun x50 => Option.bind (p_X1_goTo 9 7 10 x50.2) fun x63 => Option.bind (p_X1_paid 9 7 x63.2) fun x74 => Option.bind (p_X1_askedFor 9 x74.2) fun x81 => if zm v2 ≤ zm (x74.1 - x81.1) then (p_X7_painedTrial_94 K5 FU v1 v2 v3 v4 0 x81.2) else (some ((-1), x81.2))))
def p_X7_painedTrial_5  : Nat → Int → Int → Int → Int → St → Option (Int × St)
  | 0, _, _, _, _, _ => none
  | n + 1, v1, v2, v3, v4, σ => p_X7_painedTrial_5b  (p_X7_painedTrial_5  n) v1 v2 v3 v4 σ
def p_X7_painedTrial  (v1 : Int) (v2 : Int) (σ : St) : Option (Int × St) :=
  p_X7_painedTrial_5  FU v1 v2 0 0 σ
/-! RungHouse.setting -/
def p_X7_setting_162 (K59 : Int → Int → Int → Int → Int → St → Option (Int × St)) (v2 : Int) (v3 : Int) (v4 : Int) (v5 : Int) (v6 : Int) (σ : St) : Option (Int × St) :=
  K59 v2 v3 v4 v5 (v6 + 1) σ
def p_X7_setting_59b  (K59 : Int → Int → Int → Int → Int → St → Option (Int × St)) (v2 : Int) (v3 : Int) (v4 : Int) (v5 : Int) (v6 : Int) (σ : St) : Option (Int × St) :=
  if 36 ≤ zm v6 then (some (v5, σ)) else (nx (su σ 7 3 (1 + ((zm v6).tdiv 12))) fun σ77 => nx (su σ77 7 4 (1 + ((zm ((zm v6).tdiv 3)).tmod 4))) fun σ92 => nx (su σ92 7 5 (((zm v6).tmod 3) * 10)) fun σ106 => Option.bind (p_X7_painedTrial v2 v3 σ106) fun x112 => if zm x112.1 ≤ zm v4 then (p_X7_setting_162 K59 v2 v3 v4 v5 v6 x112.2) else (nz ((((100 * (x112.2 7 3)) + (10 * (x112.2 7 4))) + ((zm (x112.2 7 5)).tdiv 10))) fun z160 => p_X7_setting_162 K59 v2 v3 x112.1 z160 v6 x112.2))
def p_X7_setting_59  : Nat → Int → Int → Int → Int → Int → St → Option (Int × St)
  | 0, _, _, _, _, _, _ => none
  | n + 1, v2, v3, v4, v5, v6, σ => p_X7_setting_59b  (p_X7_setting_59  n) v2 v3 v4 v5 v6 σ
def p_X7_setting  (v1 : Int) (v2 : Int) (v3 : Int) (σ : St) : Option (Int × St) :=
  Option.bind (p_X7_isHouse v1 σ) fun x2 => if zm x2.1 = 0 then (some ((-1000000001), x2.2)) else (Option.bind (p_X7_isOut v2 1 12 x2.2) fun x15 => if zm x15.1 = 0 then (Option.bind (p_X7_isOut v3 (-9999999) 9999999 x15.2) fun x28 => if zm x28.1 = 0 then (gd (0 ≤ zm v1 ∧ zm v1 < 2) (Option.bind (p_X0_copyFrom 7 (23 + 2 * zm v1) x28.2) fun x47 => p_X7_setting_59  FU v2 v3 (-1) (-1) 0 x47.2)) else (some ((-1000000002), x28.2))) else (some ((-1000000002), x15.2)))
/-! RungHouse.seed -/
def p_X7_seed  (v1 : Int) (σ : St) : Option (Int × St) :=
  if 0 ≤ zm v1 then (nx (su σ 16 7 v1) fun σ20 => some ((σ 16 7), σ20)) else (some ((-1000000002), σ))
/-! RungHouse.lives -/
def p_X7_lives_183 (K62 : Int → Int → Int → Int → Int → Int → Int → St → Option (Int × St)) (K88 : Int → Int → Int → Int → Int → Int → Int → Int → Int → St → Option (Int × St)) (v1 : Int) (v3 : Int) (v4 : Int) (o5 : Int) (v6 : Int) (v7 : Int) (v8 : Int) (v10 : Int) (vs0 : Int) (σ : St) : Option (Int × St) :=
  K88 v1 v3 v4 o5 v6 v7 v8 vs0 (v10 + 1) σ
def p_X7_lives_165 (K62 : Int → Int → Int → Int → Int → Int → Int → St → Option (Int × St)) (K88 : Int → Int → Int → Int → Int → Int → Int → Int → Int → St → Option (Int × St)) (v1 : Int) (v3 : Int) (v4 : Int) (o5 : Int) (v6 : Int) (v8 : Int) (v9 : Int) (v10 : Int) (v12 : Int) (vs0 : Int) (vs1 : Int) (σ : St) : Option (Int × St) :=
  if zm v12 = 0 then (p_X7_lives_183 K62 K88 v1 v3 v4 o5 v6 (vs0 + vs1) v8 v10 v9 σ) else (Option.bind (p_X7_oneMore v9 σ) fun x175 => p_X7_lives_183 K62 K88 v1 v3 v4 o5 v6 (vs0 + vs1) v8 v10 x175.1 x175.2)
def p_X7_lives_144 (K62 : Int → Int → Int → Int → Int → Int → Int → St → Option (Int × St)) (K88 : Int → Int → Int → Int → Int → Int → Int → Int → Int → St → Option (Int × St)) (v1 : Int) (v3 : Int) (v4 : Int) (o5 : Int) (v6 : Int) (v7 : Int) (v8 : Int) (v9 : Int) (v10 : Int) (v11 : Int) (vs0 : Int) (σ : St) : Option (Int × St) :=
  if zm vs0 = 0 then (p_X7_lives_165 K62 K88 v1 v3 v4 o5 v6 v8 v9 v10 vs0 v7 v11 σ) else (Option.bind (p_X0_bears o5 v11 σ) fun x157 => p_X7_lives_165 K62 K88 v1 v3 v4 o5 v6 v8 v9 v10 vs0 v7 x157.1 x157.2)
def p_X7_lives_143 (K62 : Int → Int → Int → Int → Int → Int → Int → St → Option (Int × St)) (K88 : Int → Int → Int → Int → Int → Int → Int → Int → Int → St → Option (Int × St)) (v1 : Int) (v3 : Int) (v4 : Int) (o5 : Int) (v6 : Int) (v7 : Int) (v8 : Int) (v9 : Int) (v10 : Int) (v11 : Int) (σ : St) : Option (Int × St) :=
  p_X7_lives_144 K62 K88 v1 v3 v4 o5 v6 v7 v8 v9 v10 v11 0 σ
def p_X7_lives_88b (K62 : Int → Int → Int → Int → Int → Int → Int → St → Option (Int × St)) (K88 : Int → Int → Int → Int → Int → Int → Int → Int → Int → St → Option (Int × St)) (v1 : Int) (v3 : Int) (v4 : Int) (o5 : Int) (v6 : Int) (v7 : Int) (v8 : Int) (v9 : Int) (v10 : Int) (σ : St) : Option (Int × St) :=
  if 12 ≤ zm v10 then (Option.bind (p_X0_rungAfter o5 v6 v9 σ) fun x197 => K62 v1 v3 v4 o5 x197.1 v7 (v8 + 1) x197.2) else (gd (0 ≤ zm v1 ∧ zm v1 < 4) (Option.bind (p_X2_draw 16 1000 σ) fun x108 => Option.bind (p_X6_sumDrawn (27 + 4 * zm v1) x108.1 x108.2) fun x111 => if zm x111.1 ≤ 0 then (p_X7_lives_143 K62 K88 v1 v3 v4 o5 v6 v7 v8 v9 v10 x111.1 x111.2) else (gd (0 ≤ zm v3 ∧ zm v3 < 4) (Option.bind (p_X5_barOn (115 + 6 * zm v3) v6 v10 x111.2) fun x133 => if zm x111.1 < zm x133.1 then (p_X7_lives_143 K62 K88 v1 v3 v4 o5 v6 v7 v8 v9 v10 x111.1 x133.2) else (p_X7_lives_144 K62 K88 v1 v3 v4 o5 v6 v7 v8 v9 v10 x111.1 1 x133.2)))))
def p_X7_lives_88 (K62 : Int → Int → Int → Int → Int → Int → Int → St → Option (Int × St)) : Nat → Int → Int → Int → Int → Int → Int → Int → Int → Int → St → Option (Int × St)
  | 0, _, _, _, _, _, _, _, _, _, _ => none
  | n + 1, v1, v3, v4, o5, v6, v7, v8, v9, v10, σ => p_X7_lives_88b K62 (p_X7_lives_88 K62 n) v1 v3 v4 o5 v6 v7 v8 v9 v10 σ
def p_X7_lives_62b  (K62 : Int → Int → Int → Int → Int → Int → Int → St → Option (Int × St)) (v1 : Int) (v3 : Int) (v4 : Int) (o5 : Int) (v6 : Int) (v7 : Int) (v8 : Int) (σ : St) : Option (Int × St) :=
  if zm v4 ≤ zm v8 then (some (v7, σ)) else (gd (0 ≤ zm v6 ∧ zm v6 < 10) (p_X7_lives_88 K62 FU v1 v3 v4 o5 v6 (v7 + (σ (o5 + 1) (zm v6))) v8 0 0 σ))
def p_X7_lives_62  : Nat → Int → Int → Int → Int → Int → Int → Int → St → Option (Int × St)
  | 0, _, _, _, _, _, _, _, _ => none
  | n + 1, v1, v3, v4, o5, v6, v7, v8, σ => p_X7_lives_62b  (p_X7_lives_62  n) v1 v3 v4 o5 v6 v7 v8 σ
def p_X7_lives  (v1 : Int) (v2 : Int) (v3 : Int) (v4 : Int) (σ : St) : Option (Int × St) :=
  Option.bind (p_X7_isSort v1 σ) fun x2 => if zm x2.1 = 0 then (some ((-1000000001), x2.2)) else (Option.bind (p_X7_isHouse v2 x2.2) fun x10 => if zm x10.1 = 0 then (some ((-1000000001), x10.2)) else (Option.bind (p_X7_isRule v3 x10.2) fun x18 => if zm x18.1 = 0 then (some ((-1000000001), x18.2)) else (Option.bind (p_X7_isOut v4 1 30 x18.2) fun x32 => if zm x32.1 = 0 then (gd (0 ≤ zm v2 ∧ zm v2 < 2) (p_X7_lives_62  FU v1 v3 v4 (23 + 2 * zm v2) (x32.2 (23 + 2 * zm v2) 6) 0 0 x32.2)) else (some ((-1000000002), x32.2)))))
/-! RungHouse.count -/
def p_X7_count  (v1 : Int) (σ : St) : Option (Int × St) :=
  if zm v1 = 0 then (some ((σ 0 11), σ)) else if zm v1 = 1 then (some ((σ 0 12), σ)) else if zm v1 = 2 then (some ((σ 16 3), σ)) else if zm v1 = 3 then (some ((σ 16 6), σ)) else if zm v1 = 4 then (some ((σ 1 1), σ)) else (some ((-1000000002), σ))
/-! RungHouse.keep -/
def p_X7_keep  (v1 : Int) (σ : St) : Option (Int × St) :=
  Option.bind (p_X7_isOut v1 0 1 σ) fun x3 => if zm x3.1 = 0 then (gd (0 ≤ zm v1 ∧ zm v1 < 2) (Option.bind (p_X2_copyFrom (139 + 6 * zm v1) 16 x3.2) fun x22 => nx (su x22.2 (139 + 6 * zm v1) 8 1) fun σ32 => some (1, σ32))) else (some ((-1000000001), x3.2))
/-! RungHouse.goBack -/
def p_X7_goBack  (v1 : Int) (σ : St) : Option (Int × St) :=
  Option.bind (p_X7_isOut v1 0 1 σ) fun x3 => if zm x3.1 = 0 then (gd (0 ≤ zm v1 ∧ zm v1 < 2) (if zm (x3.2 (139 + 6 * zm v1) 8) = 0 then (some ((-1000000003), x3.2)) else (Option.bind (p_X2_copyFrom 16 (139 + 6 * zm v1) x3.2) fun x37 => some (1, x37.2)))) else (some ((-1000000001), x3.2))
