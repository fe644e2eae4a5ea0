theorem M_painOf {τ : St} {s h ru v : Int} (hc : MC τ s h ru) (hv : v = 0 ∨ v = 1) : p_X8_painOf v τ = some (pEf τ s v, τ) := by
  have h4 := hc.2.2.2.1.1
  have h11 := hc.2.2.2.1.2.2.2.2.2.2
  unfold p_X8_painOf pEf
  rw [hc.1]
  rcases hv with rfl | rfl
  · rw [if_pos (by decide), if_pos rfl]
  · rw [if_neg (show ¬ zm 1 = 0 by decide), if_neg (show ¬ (1 : Int) = 0 by decide), zm_eq (a := s) (by omega) (by omega), gd_pos (by omega), zm_eq (a := τ 11 s) (by omega) (by omega)]
    by_cases c : 0 ≤ τ 11 s
    · rw [if_pos c, if_neg (by omega)]
    · rw [if_neg c, if_pos (by omega)]
theorem pEf_cpn {t : St} {s : Int} (v : Int) : pEf t s v = 0 ∨ (pEf t s v = 1 ∧ cpn t s (-1)) := by
  rcases pEf_ok (t := t) (s := s) v with q | ⟨q, p⟩
  · exact Or.inl q
  · exact Or.inr ⟨q, by decide, p⟩
theorem cst_b {t : St} {s h ru : Int} (hs : SOK t s) (hh : HOK t h) {n : Int} (hn : 0 ≤ n ∧ n ≤ 30) : ∀ r, 0 ≤ r → r < t 1 h → 0 ≤ cst t s h ru n.toNat r ∧ cst t s h ru n.toNat r ≤ 400000000 := fun r r0 r1 => by
  have q := cst_bd (ru := ru) hs hh n.toNat r r0 r1
  omega
theorem ok_cost {a1 a2 a3 a4 a5 : Int} (h1 : i32 a1) (h2 : i32 a2) (h3 : i32 a3) (h4 : i32 a4) (h5 : i32 a5) : StepOK Inv (p_X7_cost a1 a2 a3 a4 a5) (p_X8_cost a1 a2 a3 a4 a5) := fun σ τ hI => by
  have hw := hI.2.1
  by_cases c1 : cS τ a1
  rotate_left
  · refine st_eq (a := -1000000001) ?_ ?_ hI
    · unfold p_X7_cost
      rw [X_isSort hw h1, if_neg c1]
      simp only [bnd_some, zm0t, zm1n, if_true, if_false]
    · unfold p_X8_cost
      rw [M_isSort hw h1, if_neg c1]
      simp only [bnd_some, zm0t, zm1n, if_true, if_false]
  by_cases c2 : cG τ a2 a5
  rotate_left
  · refine st_eq (a := -1000000001) ?_ ?_ hI
    · unfold p_X7_cost
      rw [X_isSort hw h1, if_pos c1]
      simp only [bnd_some, zm0t, zm1n, if_true, if_false]
      rw [X_isRung hw h2 h5, if_neg c2]
      simp only [bnd_some, zm0t, zm1n, if_true, if_false]
    · unfold p_X8_cost
      rw [M_isSort hw h1, if_pos c1]
      simp only [bnd_some, zm0t, zm1n, if_true, if_false]
      rw [M_isRung hw h2 h5, if_neg c2]
      simp only [bnd_some, zm0t, zm1n, if_true, if_false]
  by_cases c3 : 1 ≤ a3 ∧ a3 ≤ 30
  rotate_left
  · refine st_eq (a := -1000000002) ?_ ?_ hI
    · unfold p_X7_cost
      rw [X_isSort hw h1, if_pos c1]
      simp only [bnd_some, zm0t, zm1n, if_true, if_false]
      rw [X_isRung hw h2 h5, if_pos c2]
      simp only [bnd_some, zm0t, zm1n, if_true, if_false]
      rw [X_isOut h3 ⟨by decide, by decide⟩ ⟨by decide, by decide⟩, if_neg c3]
      simp only [bnd_some, zm0t, zm1n, if_true, if_false]
    · unfold p_X8_cost
      rw [M_isSort hw h1, if_pos c1]
      simp only [bnd_some, zm0t, zm1n, if_true, if_false]
      rw [M_isRung hw h2 h5, if_pos c2]
      simp only [bnd_some, zm0t, zm1n, if_true, if_false]
      rw [M_isTime h3, if_neg c3]
      simp only [bnd_some, zm0t, zm1n, if_true, if_false]
  by_cases c4 : 0 ≤ a4 ∧ a4 ≤ a3
  rotate_left
  · refine st_eq (a := -1000000002) ?_ ?_ hI
    · unfold p_X7_cost
      rw [X_isSort hw h1, if_pos c1]
      simp only [bnd_some, zm0t, zm1n, if_true, if_false]
      rw [X_isRung hw h2 h5, if_pos c2]
      simp only [bnd_some, zm0t, zm1n, if_true, if_false]
      rw [X_isOut h3 ⟨by decide, by decide⟩ ⟨by decide, by decide⟩, if_pos c3]
      simp only [bnd_some, zm0t, zm1n, if_true, if_false]
      rw [X_isOut h4 ⟨by decide, by decide⟩ h3, if_neg c4]
      simp only [bnd_some, zm0t, zm1n, if_true, if_false]
    · unfold p_X8_cost
      rw [M_isSort hw h1, if_pos c1]
      simp only [bnd_some, zm0t, zm1n, if_true, if_false]
      rw [M_isRung hw h2 h5, if_pos c2]
      simp only [bnd_some, zm0t, zm1n, if_true, if_false]
      rw [M_isTime h3, if_pos c3]
      simp only [bnd_some, zm0t, zm1n, if_true, if_false]
      rw [zm_i h3, M_wi h4 ⟨by decide, by decide⟩ (i32_64 h3), if_neg c4]
      simp only [bnd_some, zm0t, zm1n, if_true, if_false]
  obtain ⟨τ', e, o, w, hI', cs, ch, _⟩ := M_wk hI c1 c2.1 (Or.inl rfl) c3
  obtain ⟨σ', x, fr, hI2, hc, n, n1, n2, kn⟩ := X_planOf hI' cs ch (Y := a3) (by omega)
  have t1 : τ' 1 a2 = τ 1 a2 := by rw [o.1 1 (by decide) (by decide) (by decide)]
  have h10 := hw.rg c2.1.1.1 c2.1.1.2
  have q4 := hw.1
  have g2 := c2.2
  refine st_eq (a := cst τ' a1 a2 (-1) (a3 - a4).toNat a5) ?_ ?_ hI2
  · unfold p_X7_cost
    rw [X_isSort hw h1, if_pos c1]
    simp only [bnd_some, zm0t, zm1n, if_true, if_false]
    rw [X_isRung hw h2 h5, if_pos c2]
    simp only [bnd_some, zm0t, zm1n, if_true, if_false]
    rw [X_isOut h3 ⟨by decide, by decide⟩ ⟨by decide, by decide⟩, if_pos c3]
    simp only [bnd_some, zm0t, zm1n, if_true, if_false]
    rw [X_isOut h4 ⟨by decide, by decide⟩ h3, if_pos c4]
    simp only [bnd_some, zm0t, zm1n, if_true, if_false]
    rw [x]
    simp only [bnd_some]
    rw [gd_pos hc.1]
    unfold p_X3_costWith
    rw [zm_eq (a := (a3 - a4) * 10 + a5) (by omega) (by omega), gd_pos (by omega), show (a3 - a4) * 10 + a5 = 10 * (a3 - a4) + a5 by omega, kn.1 (a3 - a4) a5 (by omega) (by omega) (by omega) (by omega), bnd_some]
  · unfold p_X8_cost
    rw [M_isSort hw h1, if_pos c1]
    simp only [bnd_some, zm0t, zm1n, if_true, if_false]
    rw [M_isRung hw h2 h5, if_pos c2]
    simp only [bnd_some, zm0t, zm1n, if_true, if_false]
    rw [M_isTime h3, if_pos c3]
    simp only [bnd_some, zm0t, zm1n, if_true, if_false]
    rw [zm_i h3, M_wi h4 ⟨by decide, by decide⟩ (i32_64 h3), if_pos c4]
    simp only [bnd_some, zm0t, zm1n, if_true, if_false]
    rw [e]
    simp only [bnd_some]
    rw [zm_eq (a := 10 * a4 + a5) (by omega) (by omega), gd_pos (by omega), w.2.2.2.2.1 a4 a5 (by omega) (by omega) (by omega) (by omega)]
theorem ok_in {a1 a2 a3 a4 a5 a6 a7 a8 : Int} (h1 : i32 a1) (h2 : i32 a2) (h3 : i32 a3) (h4 : i32 a4) (h5 : i32 a5) (h6 : i32 a6) (h7 : i32 a7) (h8 : a8 = 0 ∨ a8 = 1) : StepOK Inv (p_X7_in a1 a2 a3 a4 a5 a6 a7 a8) (p_X8_in a1 a2 a3 a4 a5 a6 a7 a8) := fun σ τ hI => by
  have hw := hI.2.1
  by_cases c1 : cS τ a1
  rotate_left
  · refine st_eq (a := -1000000001) ?_ ?_ hI
    · unfold p_X7_in
      rw [X_isSort hw h1, if_neg c1]
      simp only [bnd_some, zm0t, zm1n, if_true, if_false]
    · unfold p_X8_in
      rw [M_isSort hw h1, if_neg c1]
      simp only [bnd_some, zm0t, zm1n, if_true, if_false]
  by_cases c2 : cG τ a2 a5
  rotate_left
  · refine st_eq (a := -1000000001) ?_ ?_ hI
    · unfold p_X7_in
      rw [X_isSort hw h1, if_pos c1]
      simp only [bnd_some, zm0t, zm1n, if_true, if_false]
      rw [X_isRung hw h2 h5, if_neg c2]
      simp only [bnd_some, zm0t, zm1n, if_true, if_false]
    · unfold p_X8_in
      rw [M_isSort hw h1, if_pos c1]
      simp only [bnd_some, zm0t, zm1n, if_true, if_false]
      rw [M_isRung hw h2 h5, if_neg c2]
      simp only [bnd_some, zm0t, zm1n, if_true, if_false]
  by_cases c3 : cY a3 a4
  rotate_left
  · refine st_eq (a := -1000000002) ?_ ?_ hI
    · unfold p_X7_in
      rw [X_isSort hw h1, if_pos c1]
      simp only [bnd_some, zm0t, zm1n, if_true, if_false]
      rw [X_isRung hw h2 h5, if_pos c2]
      simp only [bnd_some, zm0t, zm1n, if_true, if_false]
      rw [X_isNoYear h3 h4, if_neg c3]
      simp only [bnd_some, zm0t, zm1n, if_true, if_false]
    · unfold p_X8_in
      rw [M_isSort hw h1, if_pos c1]
      simp only [bnd_some, zm0t, zm1n, if_true, if_false]
      rw [M_isRung hw h2 h5, if_pos c2]
      simp only [bnd_some, zm0t, zm1n, if_true, if_false]
      rw [M_isWhen h3 h4, if_neg c3]
      simp only [bnd_some, zm0t, zm1n, if_true, if_false]
  by_cases c4 : 0 ≤ a6 ∧ a6 ≤ 12
  rotate_left
  · refine st_eq (a := -1000000002) ?_ ?_ hI
    · unfold p_X7_in
      rw [X_isSort hw h1, if_pos c1]
      simp only [bnd_some, zm0t, zm1n, if_true, if_false]
      rw [X_isRung hw h2 h5, if_pos c2]
      simp only [bnd_some, zm0t, zm1n, if_true, if_false]
      rw [X_isNoYear h3 h4, if_pos c3]
      simp only [bnd_some, zm0t, zm1n, if_true, if_false]
      rw [X_isOut h6 ⟨by decide, by decide⟩ ⟨by decide, by decide⟩, if_neg c4]
      simp only [bnd_some, zm0t, zm1n, if_true, if_false]
    · unfold p_X8_in
      rw [M_isSort hw h1, if_pos c1]
      simp only [bnd_some, zm0t, zm1n, if_true, if_false]
      rw [M_isRung hw h2 h5, if_pos c2]
      simp only [bnd_some, zm0t, zm1n, if_true, if_false]
      rw [M_isWhen h3 h4, if_pos c3]
      simp only [bnd_some, zm0t, zm1n, if_true, if_false]
      rw [M_wi h6 ⟨by decide, by decide⟩ ⟨by decide, by decide⟩, if_neg c4]
      simp only [bnd_some, zm0t, zm1n, if_true, if_false]
  by_cases c5 : 0 ≤ a7 ∧ a7 ≤ 3
  rotate_left
  · refine st_eq (a := -1000000002) ?_ ?_ hI
    · unfold p_X7_in
      rw [X_isSort hw h1, if_pos c1]
      simp only [bnd_some, zm0t, zm1n, if_true, if_false]
      rw [X_isRung hw h2 h5, if_pos c2]
      simp only [bnd_some, zm0t, zm1n, if_true, if_false]
      rw [X_isNoYear h3 h4, if_pos c3]
      simp only [bnd_some, zm0t, zm1n, if_true, if_false]
      rw [X_isOut h6 ⟨by decide, by decide⟩ ⟨by decide, by decide⟩, if_pos c4]
      simp only [bnd_some, zm0t, zm1n, if_true, if_false]
      rw [X_isOut h7 ⟨by decide, by decide⟩ ⟨by decide, by decide⟩, if_neg c5]
      simp only [bnd_some, zm0t, zm1n, if_true, if_false]
    · unfold p_X8_in
      rw [M_isSort hw h1, if_pos c1]
      simp only [bnd_some, zm0t, zm1n, if_true, if_false]
      rw [M_isRung hw h2 h5, if_pos c2]
      simp only [bnd_some, zm0t, zm1n, if_true, if_false]
      rw [M_isWhen h3 h4, if_pos c3]
      simp only [bnd_some, zm0t, zm1n, if_true, if_false]
      rw [M_wi h6 ⟨by decide, by decide⟩ ⟨by decide, by decide⟩, if_pos c4]
      simp only [bnd_some, zm0t, zm1n, if_true, if_false]
      rw [M_wi h7 ⟨by decide, by decide⟩ ⟨by decide, by decide⟩, if_neg c5]
      simp only [bnd_some, zm0t, zm1n, if_true, if_false]
  obtain ⟨τ', e, o, w, hI', cs, ch, _⟩ := M_wk hI c1 c2.1 (Or.inl rfl) c3.1
  obtain ⟨σ', x, fr, hI2, hc, n, n1, n2, kn⟩ := X_planOf hI' cs ch (Y := a3) (by omega)
  have t1 : τ' 1 a2 = τ 1 a2 := by rw [o.1 1 (by decide) (by decide) (by decide)]
  have h10 := hw.rg c2.1.1.1 c2.1.1.2
  have q4 := hw.1
  have g2 := c2.2
  have g3 := c3
  have hs := hc.2.2.2.1
  have hh := hc.2.2.2.2.1
  obtain ⟨σ2, y, oy⟩ := X_openYear (left := a3 - a4) (c := cst τ' a1 a2 (-1) (a3 - a4 - 1).toNat) hc h8 (by omega : 0 ≤ a5 ∧ a5 < τ' 1 a2) (Int.le_refl 400000000) (cst_b hs hh (by omega)) (by omega) (fun r r0 r1 => kn.1 (a3 - a4 - 1) r (by omega) r0 r1 (by omega))
  have hI3 := hI2.oy (by omega) ch.1 oy
  refine st_eq (a := inM τ' a1 a2 (-1) (pEf τ' a1 a8) a5 (cst τ' a1 a2 (-1) (a3 - a4 - 1).toNat) (12 - a6).toNat a7) ?_ ?_ hI3
  · unfold p_X7_in
    rw [X_isSort hw h1, if_pos c1]
    simp only [bnd_some, zm0t, zm1n, if_true, if_false]
    rw [X_isRung hw h2 h5, if_pos c2]
    simp only [bnd_some, zm0t, zm1n, if_true, if_false]
    rw [X_isNoYear h3 h4, if_pos c3]
    simp only [bnd_some, zm0t, zm1n, if_true, if_false]
    rw [X_isOut h6 ⟨by decide, by decide⟩ ⟨by decide, by decide⟩, if_pos c4]
    simp only [bnd_some, zm0t, zm1n, if_true, if_false]
    rw [X_isOut h7 ⟨by decide, by decide⟩ ⟨by decide, by decide⟩, if_pos c5]
    simp only [bnd_some, zm0t, zm1n, if_true, if_false]
    rw [x]
    simp only [bnd_some]
    rw [gd_pos hc.1, y, bnd_some, X_inside c4 c5, bnd_some, oy.2.2.2.2.2.1 a6 a7 c4.1 c4.2 c5.1 c5.2]
  · unfold p_X8_in
    rw [M_isSort hw h1, if_pos c1]
    simp only [bnd_some, zm0t, zm1n, if_true, if_false]
    rw [M_isRung hw h2 h5, if_pos c2]
    simp only [bnd_some, zm0t, zm1n, if_true, if_false]
    rw [M_isWhen h3 h4, if_pos c3]
    simp only [bnd_some, zm0t, zm1n, if_true, if_false]
    rw [M_wi h6 ⟨by decide, by decide⟩ ⟨by decide, by decide⟩, if_pos c4]
    simp only [bnd_some, zm0t, zm1n, if_true, if_false]
    rw [M_wi h7 ⟨by decide, by decide⟩ ⟨by decide, by decide⟩, if_pos c5]
    simp only [bnd_some, zm0t, zm1n, if_true, if_false]
    rw [e]
    simp only [bnd_some]
    rw [M_painOf w.1 h8]
    simp only [bnd_some]
    rw [M_place]
    simp only [bnd_some]
    have hb := pl_bd (y := a4) (r := a5) (m := a6) (k := a7) (p := pEf τ' a1 a8) (by rcases pEf_ok (t := τ') (s := a1) a8 with q | ⟨q, _⟩ <;> omega) (by omega) (by omega) c4 c5
    rw [zm_eq (a := pl (pEf τ' a1 a8) a4 a5 a6 a7) (by omega) (by omega), gd_pos hb, w.2.2.2.2.2 a4 a5 (pEf τ' a1 a8) a6 a7 (by omega) (by omega) (by omega) (by omega) (pEf_cpn a8) c4.1 c4.2 c5.1 c5.2]
theorem ok_takes {a1 a2 a3 a4 a5 : Int} (h1 : i32 a1) (h2 : i32 a2) (h3 : i32 a3) (h4 : i32 a4) (h5 : i32 a5) : StepOK Inv (p_X7_takes a1 a2 a3 a4 a5) (p_X8_takes a1 a2 a3 a4 a5) := fun σ τ hI => by
  have hw := hI.2.1
  by_cases c1 : cS τ a1
  rotate_left
  · refine st_eq (a := -1000000001) ?_ ?_ hI
    · unfold p_X7_takes
      rw [X_isSort hw h1, if_neg c1]
      simp only [bnd_some, zm0t, zm1n, if_true, if_false]
    · unfold p_X8_takes
      rw [M_isSort hw h1, if_neg c1]
      simp only [bnd_some, zm0t, zm1n, if_true, if_false]
  by_cases c2 : cG τ a2 a5
  rotate_left
  · refine st_eq (a := -1000000001) ?_ ?_ hI
    · unfold p_X7_takes
      rw [X_isSort hw h1, if_pos c1]
      simp only [bnd_some, zm0t, zm1n, if_true, if_false]
      rw [X_isRung hw h2 h5, if_neg c2]
      simp only [bnd_some, zm0t, zm1n, if_true, if_false]
    · unfold p_X8_takes
      rw [M_isSort hw h1, if_pos c1]
      simp only [bnd_some, zm0t, zm1n, if_true, if_false]
      rw [M_isRung hw h2 h5, if_neg c2]
      simp only [bnd_some, zm0t, zm1n, if_true, if_false]
  by_cases c3 : cY a3 a4
  rotate_left
  · refine st_eq (a := -1000000002) ?_ ?_ hI
    · unfold p_X7_takes
      rw [X_isSort hw h1, if_pos c1]
      simp only [bnd_some, zm0t, zm1n, if_true, if_false]
      rw [X_isRung hw h2 h5, if_pos c2]
      simp only [bnd_some, zm0t, zm1n, if_true, if_false]
      rw [X_isNoYear h3 h4, if_neg c3]
      simp only [bnd_some, zm0t, zm1n, if_true, if_false]
    · unfold p_X8_takes
      rw [M_isSort hw h1, if_pos c1]
      simp only [bnd_some, zm0t, zm1n, if_true, if_false]
      rw [M_isRung hw h2 h5, if_pos c2]
      simp only [bnd_some, zm0t, zm1n, if_true, if_false]
      rw [M_isWhen h3 h4, if_neg c3]
      simp only [bnd_some, zm0t, zm1n, if_true, if_false]
  obtain ⟨τ', e, o, w, hI', cs, ch, _⟩ := M_wk hI c1 c2.1 (Or.inl rfl) c3.1
  obtain ⟨σ', x, fr, hI2, hc, n, n1, n2, kn⟩ := X_planOf hI' cs ch (Y := a3) (by omega)
  have t1 : τ' 1 a2 = τ 1 a2 := by rw [o.1 1 (by decide) (by decide) (by decide)]
  have h10 := hw.rg c2.1.1.1 c2.1.1.2
  have q4 := hw.1
  have g2 := c2.2
  have g3 := c3
  have hs := hc.2.2.2.1
  have hh := hc.2.2.2.2.1
  have ba := inM_bd (p := 0) (ru := -1) (r := a5) hs hh (Or.inl rfl) (by omega) (cst_b (ru := -1) hs hh (n := a3 - a4 - 1) (by omega)) 12 0 (by decide) (by decide)
  have bb := fun q => inM_bd (p := 1) (ru := -1) (r := a5) hs hh (Or.inr ⟨rfl, q⟩) (by omega) (cst_b (ru := -1) hs hh (n := a3 - a4 - 1) (by omega)) 12 0 (by decide) (by decide)
  have wa := w.2.2.2.2.2 a4 a5 0 0 0 (by omega) (by omega) (by omega) (by omega) (Or.inl rfl) (by decide) (by decide) (by decide) (by decide)
  have wb := fun q => w.2.2.2.2.2 a4 a5 1 0 0 (by omega) (by omega) (by omega) (by omega) (Or.inr ⟨rfl, q⟩) (by decide) (by decide) (by decide) (by decide)
  have hp := kn.2 (a3 - a4) a5 (by omega) (by omega) (by omega) (by omega)
  have i12 : ((12 : Int) - 0).toNat = 12 := by decide
  rw [i12] at wa
  simp only [i12] at wb
  unfold pnd at hp
  obtain ⟨I0, e0⟩ : ∃ I0, inM τ' a1 a2 (-1) 0 a5 (cst τ' a1 a2 (-1) (a3 - a4 - 1).toNat) 12 0 = I0 := ⟨_, rfl⟩
  obtain ⟨I1, e1⟩ : ∃ I1, inM τ' a1 a2 (-1) 1 a5 (cst τ' a1 a2 (-1) (a3 - a4 - 1).toNat) 12 0 = I1 := ⟨_, rfl⟩
  rw [e0] at wa hp ba
  rw [e1] at hp
  simp only [e1] at wb bb
  have mp := M_isPained (a := I0) (b := I1) w.1 (by omega : 0 ≤ a4 ∧ a4 < 30) (by omega : 0 ≤ a5 ∧ a5 < τ' 1 a2) wa (by omega) (fun q => ⟨wb q, (bb q.2).1, by have := (bb q.2).2; omega⟩)
  refine st_eq (a := if hasb (σ' (pO a1 a2 + 2) (a3 - a4)) a5 then 1 else 0) ?_ ?_ hI2
  · unfold p_X7_takes
    rw [X_isSort hw h1, if_pos c1]
    simp only [bnd_some, zm0t, zm1n, if_true, if_false]
    rw [X_isRung hw h2 h5, if_pos c2]
    simp only [bnd_some, zm0t, zm1n, if_true, if_false]
    rw [X_isNoYear h3 h4, if_pos c3]
    simp only [bnd_some, zm0t, zm1n, if_true, if_false]
    rw [x]
    simp only [bnd_some]
    rw [gd_pos hc.1]
    unfold p_X3_isPained
    rw [zm_eq (a := a3 - a4) (by omega) (by omega), gd_pos (by omega)]
    by_cases q : hasb (σ' (pO a1 a2 + 2) (a3 - a4)) a5
    · rw [if_pos q, if_neg q]
      simp only [bnd_some, zm1n, if_false]
    · rw [if_neg q, if_pos (Classical.not_not.1 q)]
      simp only [bnd_some, zm0t, if_true]
  · unfold p_X8_takes
    rw [M_isSort hw h1, if_pos c1]
    simp only [bnd_some, zm0t, zm1n, if_true, if_false]
    rw [M_isRung hw h2 h5, if_pos c2]
    simp only [bnd_some, zm0t, zm1n, if_true, if_false]
    rw [M_isWhen h3 h4, if_pos c3]
    simp only [bnd_some, zm0t, zm1n, if_true, if_false]
    rw [e]
    simp only [bnd_some]
    rw [mp]
    by_cases q : hasb (σ' (pO a1 a2 + 2) (a3 - a4)) a5
    · have q1 := hp.1 q
      rw [if_pos q, if_pos ⟨⟨q1.1, q1.2.1⟩, q1.2.2⟩]
      simp only [bnd_some, zm1n, if_false]
    · rw [if_neg q, if_neg (fun z => q (hp.2 ⟨z.1.1, z.1.2, z.2⟩))]
      simp only [bnd_some, zm0t, if_true]
