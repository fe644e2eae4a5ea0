theorem set_outer {Y least : Int} (hY : 1 ≤ Y ∧ Y ≤ 30) : ∀ (d f n i : Nat) (σ τ : St) (v4 v5 w4 w5 : Int), i + d = 36 → d < f → d < n → Inv σ τ → HR σ 7 τ 2 → HOK τ 2 → ((v4 = -1 ∧ v5 = -1 ∧ w4 = -1) ∨ (v4 = w5 ∧ v5 = w4 ∧ (0 ≤ w5 ∧ w5 ≤ 40) ∧ 0 ≤ w4 ∧ w4 ≤ 1000)) → ∃ (a : Int) (σ' τ' : St), p_X7_setting_59 f Y least v4 v5 i σ = some (a, σ') ∧ p_X8_setting_55 n Y least w4 w5 i τ = some (a, τ') ∧ Inv σ' τ' := by
  intro d
  induction d with
  | zero =>
    intro f n i σ τ v4 v5 w4 w5 hi hf hn hI hr hh hR
    obtain ⟨f, rfl⟩ := Nat.exists_eq_succ_of_ne_zero (by omega : f ≠ 0)
    obtain ⟨n, rfl⟩ := Nat.exists_eq_succ_of_ne_zero (by omega : n ≠ 0)
    refine ⟨v5, σ, τ, ?_, ?_, hI⟩
    · show p_X7_setting_59b (p_X7_setting_59 f) Y least v4 v5 i σ = _
      unfold p_X7_setting_59b
      rw [zm_eq (a := (i : Int)) (by omega) (by omega), if_pos (by omega)]
    · show p_X8_setting_55b (p_X8_setting_55 n) Y least w4 w5 i τ = _
      unfold p_X8_setting_55b
      rw [zm_eq (a := (i : Int)) (by omega) (by omega), if_pos (by omega), show v5 = w4 by omega]
  | succ d ih =>
    intro f n i σ τ v4 v5 w4 w5 hi hf hn hI hr hh hR
    obtain ⟨f, rfl⟩ := Nat.exists_eq_succ_of_ne_zero (by omega : f ≠ 0)
    obtain ⟨n, rfl⟩ := Nat.exists_eq_succ_of_ne_zero (by omega : n ≠ 0)
    obtain ⟨U, hU⟩ : ∃ U, 1 + (zm (i : Int)).tdiv 12 = U := ⟨_, rfl⟩
    obtain ⟨Dn, hD⟩ : ∃ D, 1 + (zm ((zm (i : Int)).tdiv 3)).tmod 4 = D := ⟨_, rfl⟩
    obtain ⟨F, hF⟩ : ∃ F, (zm (i : Int)).tmod 3 = F := ⟨_, rfl⟩
    have bU : 1 ≤ U ∧ U ≤ 3 := by
      rw [← hU, zm_eq (a := (i : Int)) (by omega) (by omega), Int.tdiv_eq_ediv_of_nonneg (by omega)]
      omega
    have bD : 1 ≤ Dn ∧ Dn ≤ 4 := by
      rw [← hD, zm_eq (a := (i : Int)) (by omega) (by omega), Int.tdiv_eq_ediv_of_nonneg (by omega), zm_eq (a := (i : Int) / 3) (by omega) (by omega), Int.tmod_eq_emod_of_nonneg (by omega)]
      omega
    have bF : 0 ≤ F ∧ F ≤ 2 := by
      rw [← hF, zm_eq (a := (i : Int)) (by omega) (by omega), Int.tmod_eq_emod_of_nonneg (by omega)]
      omega
    obtain ⟨σ1, e1, a1, b1, c1⟩ := su_ex σ 7 3 U
    obtain ⟨σ2, e2, a2, b2, c2⟩ := su_ex σ1 7 4 Dn
    obtain ⟨σ3, e3, a3, b3, c3⟩ := su_ex σ2 7 5 (F * 10)
    obtain ⟨τ1, m1, p1, q1, r1⟩ := su_ex τ 5 2 U
    obtain ⟨τ2, m2, p2, q2, r2⟩ := su_ex τ1 4 2 Dn
    obtain ⟨τ3, m3, p3, q3, r3⟩ := su_ex τ2 6 2 (10 * F)
    have fx : ∀ k : Int, k ≠ 7 → σ3 k = σ k := fun k hk => by rw [a3 k hk, a2 k hk, a1 k hk]
    have t1 : τ3 1 = τ 1 := by rw [p3 1 (by decide), p2 1 (by decide), p1 1 (by decide)]
    have t2 : τ3 2 = τ 2 := by rw [p3 2 (by decide), p2 2 (by decide), p1 2 (by decide)]
    have t3 : τ3 3 = τ 3 := by rw [p3 3 (by decide), p2 3 (by decide), p1 3 (by decide)]
    have t7 : τ3 7 = τ 7 := by rw [p3 7 (by decide), p2 7 (by decide), p1 7 (by decide)]
    have t4 : τ3 4 2 = Dn := by rw [p3 4 (by decide), q2]
    have t5 : τ3 5 2 = U := by rw [p3 5 (by decide), p2 5 (by decide), q1]
    have t6 : τ3 6 2 = 10 * F := q3
    have f3 : h2O τ τ3 := by
      refine ⟨fun q hq => by rw [p3 q (by omega), p2 q (by omega), p1 q (by omega)], fun q h1 h7 h2 j hj => ?_, fun j _ => by rw [t2]⟩
      rcases (by omega : q = 1 ∨ q = 3 ∨ q = 4 ∨ q = 5 ∨ q = 6 ∨ q = 7) with rfl | rfl | rfl | rfl | rfl | rfl
      · rw [t1]
      · rw [t3]
      · rw [p3 4 (by decide), r2 j hj, p1 4 (by decide)]
      · rw [p3 5 (by decide), p2 5 (by decide), r1 j hj]
      · rw [r3 j hj, p2 6 (by decide), p1 6 (by decide)]
      · rw [t7]
    have hI3 : Inv σ3 τ3 := (hI.tr (fun k hk => fx k (by omega)) (fun r _ _ => by rw [fx 108 (by decide)])).h2 f3
    have hh3 : HOK τ3 2 := by
      obtain ⟨u1, u2, u3, u4, u5, u6, u7⟩ := hh
      unfold HOK
      rw [t1, t2, t4, t5, t6, t7]
      exact ⟨u1, u2, u3, by omega, by omega, by omega, u7⟩
    have hr3 : HR σ3 7 τ3 2 := by
      obtain ⟨u1, u2, u3, u4, u5, u6, u7, u8⟩ := hr
      refine ⟨u1, ?_, ?_, ?_, ?_, ?_, ?_, fun r r0 r1 => ?_⟩
      · rw [c3 1 (by decide), c2 1 (by decide), c1 1 (by decide), t1]; exact u2
      · rw [c3 2 (by decide), c2 2 (by decide), c1 2 (by decide), t3]; exact u3
      · rw [c3 3 (by decide), c2 3 (by decide), b1, t5]
      · rw [c3 4 (by decide), b2, t4]
      · rw [b3, t6]; omega
      · rw [c3 6 (by decide), c2 6 (by decide), c1 6 (by decide), t7]; exact u7
      · rw [fx _ (by decide), t2]
        rw [t1] at r1
        exact u8 r r0 r1
    have q4 := hI3.2.1.1
    obtain ⟨σ', τ', p, v7, v8, y1, y2, y3, hI', hr', hh', s7, eT⟩ := set_loop (least := least) hY (v4 := w4) (v5 := w5) (v6 := (i : Int)) (p_X8_setting_55 n) (τ3 0 7).toNat FU FU 0 σ3 τ3 0 (by omega) (FU_gt (by omega)) (FU_gt (by omega)) hI3 hr3 hh3 (by decide)
    have z0 : ((0 : Nat) : Int) = 0 := rfl
    rw [z0] at y1 y2
    have k3 : σ' 7 3 = U := by rw [s7, c3 3 (by decide), c2 3 (by decide), b1]
    have k4 : σ' 7 4 = Dn := by rw [s7, c3 4 (by decide), b2]
    have k5 : σ' 7 5 = F * 10 := by rw [s7, b3]
    have l4 : τ' 4 2 = Dn := by rw [eT 4 (by decide) (by decide) (by decide), t4]
    have l5 : τ' 5 2 = U := by rw [eT 5 (by decide) (by decide) (by decide), t5]
    have xx : p_X7_setting_59 (f + 1) Y least v4 v5 i σ = if zm p ≤ zm v4 then p_X7_setting_59 f Y least v4 v5 (i + 1) σ' else p_X7_setting_59 f Y least p (100 * U + 10 * Dn + F) (i + 1) σ' := by
      show p_X7_setting_59b (p_X7_setting_59 f) Y least v4 v5 i σ = _
      unfold p_X7_setting_59b p_X7_setting_162 p_X7_painedTrial
      rw [if_neg (by rw [zm_eq (a := (i : Int)) (by omega) (by omega)]; omega), hU, hD, hF, nx_eq, e1, nx_eq, e2, nx_eq, e3, y1]
      simp only [bnd_some, nz_eq]
      rw [k3, k4, k5, zm_eq (a := F * 10) (by omega) (by omega), show (F * 10).tdiv 10 = F by rw [Int.tdiv_eq_ediv_of_nonneg (by omega)]; omega]
    have mm : p_X8_setting_55 (n + 1) Y least w4 w5 i τ = if zm v7 = 0 then p_X8_setting_55 n Y least w4 w5 (i + 1) τ' else if zm w4 < 0 then p_X8_setting_55 n Y least (100 * U + 10 * Dn + F) v8 (i + 1) τ' else if zm v8 ≤ zm w5 then p_X8_setting_55 n Y least w4 w5 (i + 1) τ' else p_X8_setting_55 n Y least (100 * U + 10 * Dn + F) v8 (i + 1) τ' := by
      show p_X8_setting_55b (p_X8_setting_55 n) Y least w4 w5 i τ = _
      unfold p_X8_setting_55b
      rw [if_neg (by rw [zm_eq (a := (i : Int)) (by omega) (by omega)]; omega), hU, hD, hF, nx_eq, m1, nx_eq, m2, nx_eq, m3, y2]
      unfold p_X8_setting_152 p_X8_setting_169 p_X8_setting_199
      simp only [nz_eq]
      rw [l4, l5, hF]
    rw [xx, mm]
    have go : ∀ x4 x5 u4 u5 : Int, ((x4 = -1 ∧ x5 = -1 ∧ u4 = -1) ∨ (x4 = u5 ∧ x5 = u4 ∧ (0 ≤ u5 ∧ u5 ≤ 40) ∧ 0 ≤ u4 ∧ u4 ≤ 1000)) → ∃ (a : Int) (σ'' τ'' : St), p_X7_setting_59 f Y least x4 x5 (i + 1) σ' = some (a, σ'') ∧ p_X8_setting_55 n Y least u4 u5 (i + 1) τ' = some (a, τ'') ∧ Inv σ'' τ'' := fun x4 x5 u4 u5 hR' => ih f n (i + 1) σ' τ' x4 x5 u4 u5 (by omega) (by omega) (by omega) hI' hr' hh' hR'
    rcases y3 with ⟨rfl, rfl⟩ | ⟨rfl, rfl, pb⟩
    · have q : zm (-1) ≤ zm v4 := by
        rw [zm_eq (a := -1) (by decide) (by decide), zm_eq (a := v4) (by omega) (by omega)]
        omega
      simp only [if_pos q, zm0t, if_true]
      exact go v4 v5 w4 w5 hR
    · have zp : zm p = p := zm_eq (by omega) (by omega)
      have z4 : zm v4 = v4 := zm_eq (by omega) (by omega)
      have zw : zm w4 = w4 := zm_eq (by omega) (by omega)
      simp only [zm1n, if_false, zp, z4, zw]
      rcases hR with ⟨r4, r5, r6⟩ | ⟨r4, r5, r6, r7⟩
      · have q1 : ¬ p ≤ v4 := by omega
        have q2 : w4 < 0 := by omega
        simp only [if_neg q1, if_pos q2]
        exact go _ _ _ _ (Or.inr ⟨rfl, rfl, by omega, by omega, by omega⟩)
      · have q2 : ¬ w4 < 0 := by omega
        have z5 : zm w5 = w5 := zm_eq (by omega) (by omega)
        simp only [if_neg q2, z5]
        by_cases q1 : p ≤ v4
        · have q3 : p ≤ w5 := by omega
          simp only [if_pos q1, if_pos q3]
          exact go _ _ _ _ (Or.inr ⟨r4, r5, r6, r7⟩)
        · have q3 : ¬ p ≤ w5 := by omega
          simp only [if_neg q1, if_neg q3]
          exact go _ _ _ _ (Or.inr ⟨rfl, rfl, by omega, by omega, by omega⟩)
theorem ok_setting {a1 a2 a3 : Int} (h1 : i32 a1) (h2 : i32 a2) (h3 : i32 a3) : StepOK Inv (p_X7_setting a1 a2 a3) (p_X8_setting a1 a2 a3) := fun σ τ hI => by
  have hw := hI.2.1
  by_cases c1 : cH τ a1
  rotate_left
  · refine st_eq (a := -1000000001) ?_ ?_ hI
    · unfold p_X7_setting
      rw [X_isHouse hw h1, if_neg c1]
      simp only [bnd_some, zm0t, zm1n, if_true, if_false]
    · unfold p_X8_setting
      rw [M_isHouse hw h1, if_neg c1]
      simp only [bnd_some, zm0t, zm1n, if_true, if_false]
  by_cases c2 : 1 ≤ a2 ∧ a2 ≤ 12
  rotate_left
  · refine st_eq (a := -1000000002) ?_ ?_ hI
    · unfold p_X7_setting
      rw [X_isHouse hw h1, if_pos c1]
      simp only [bnd_some, zm0t, zm1n, if_true, if_false]
      rw [X_isOut h2 ⟨by decide, by decide⟩ ⟨by decide, by decide⟩, if_neg c2]
      simp only [bnd_some, zm0t, zm1n, if_true, if_false]
    · unfold p_X8_setting
      rw [M_isHouse hw h1, if_pos c1]
      simp only [bnd_some, zm0t, zm1n, if_true, if_false]
      rw [M_wi h2 ⟨by decide, by decide⟩ ⟨by decide, by decide⟩, if_neg c2]
      simp only [bnd_some, zm0t, zm1n, if_true, if_false]
  by_cases c3 : -9999999 ≤ a3 ∧ a3 ≤ 9999999
  rotate_left
  · refine st_eq (a := -1000000002) ?_ ?_ hI
    · unfold p_X7_setting
      rw [X_isHouse hw h1, if_pos c1]
      simp only [bnd_some, zm0t, zm1n, if_true, if_false]
      rw [X_isOut h2 ⟨by decide, by decide⟩ ⟨by decide, by decide⟩, if_pos c2]
      simp only [bnd_some, zm0t, zm1n, if_true, if_false]
      rw [X_isOut h3 ⟨by decide, by decide⟩ ⟨by decide, by decide⟩, if_neg c3]
      simp only [bnd_some, zm0t, zm1n, if_true, if_false]
    · unfold p_X8_setting
      rw [M_isHouse hw h1, if_pos c1]
      simp only [bnd_some, zm0t, zm1n, if_true, if_false]
      rw [M_wi h2 ⟨by decide, by decide⟩ ⟨by decide, by decide⟩, if_pos c2]
      simp only [bnd_some, zm0t, zm1n, if_true, if_false]
      rw [M_wi h3 ⟨by decide, by decide⟩ ⟨by decide, by decide⟩, if_neg c3]
      simp only [bnd_some, zm0t, zm1n, if_true, if_false]
  have g1 := c1.1
  obtain ⟨hhr, hh⟩ := hw.hr c1
  have h10 := hh.2.1
  obtain ⟨τ2, e2, C2⟩ := M_copyHouse (v1 := a1) (v2 := 2) (by omega) (by decide) (by omega) τ
  obtain ⟨σ1, x1, f1, j1, p1⟩ := X_copyFrom (o := 7) (o1 := 23 + 2 * a1) (by omega) σ
  have hI2 : Inv σ1 τ2 := (hI.tr (fun k hk => f1 k (by omega) (by omega)) (fun r _ _ => by rw [f1 108 (by decide) (by decide)])).h2 C2.h2
  have hh2 : HOK τ2 2 := HOK_C C2 (by decide) hh
  have y := fun q hq => (C2.2.1 q hq).1
  have hr2 : HR σ1 7 τ2 2 := by
    refine ⟨by decide, ?_, ?_, ?_, ?_, ?_, ?_, fun r r0 r1 => ?_⟩
    · rw [j1 1 (by decide) (by decide), hhr.2.1, y 1 (by omega)]
    · rw [j1 2 (by decide) (by decide), hhr.2.2.1, y 3 (by omega)]
    · rw [j1 3 (by decide) (by decide), hhr.2.2.2.1, y 5 (by omega)]
    · rw [j1 4 (by decide) (by decide), hhr.2.2.2.2.1, y 4 (by omega)]
    · rw [j1 5 (by decide) (by decide), hhr.2.2.2.2.2.1, y 6 (by omega)]
    · rw [j1 6 (by decide) (by decide), hhr.2.2.2.2.2.2.1, y 7 (by omega)]
    · have z := y 1 (by omega)
      rw [p1 r r0 (by omega), C2.2.2.1 r r0 (by omega)]
      exact hhr.2.2.2.2.2.2.2 r r0 (by omega)
  obtain ⟨a, σ', τ', xx, mm, hI3⟩ := set_outer (Y := a2) (least := a3) (by omega) 36 FU FU 0 σ1 τ2 (-1) (-1) (-1) 0 (by omega) (FU_gt (by omega)) (FU_gt (by omega)) hI2 hr2 hh2 (Or.inl ⟨rfl, rfl, rfl⟩)
  refine st_eq (a := a) ?_ ?_ hI3
  · unfold p_X7_setting
    rw [X_isHouse hw h1, if_pos c1]
    simp only [bnd_some, zm0t, zm1n, if_true, if_false]
    rw [X_isOut h2 ⟨by decide, by decide⟩ ⟨by decide, by decide⟩, if_pos c2]
    simp only [bnd_some, zm0t, zm1n, if_true, if_false]
    rw [X_isOut h3 ⟨by decide, by decide⟩ ⟨by decide, by decide⟩, if_pos c3]
    simp only [bnd_some, zm0t, zm1n, if_true, if_false]
    rw [zm_i h1, gd_pos (by omega), x1]
    simp only [bnd_some]
    exact xx
  · unfold p_X8_setting
    rw [M_isHouse hw h1, if_pos c1]
    simp only [bnd_some, zm0t, zm1n, if_true, if_false]
    rw [M_wi h2 ⟨by decide, by decide⟩ ⟨by decide, by decide⟩, if_pos c2]
    simp only [bnd_some, zm0t, zm1n, if_true, if_false]
    rw [M_wi h3 ⟨by decide, by decide⟩ ⟨by decide, by decide⟩, if_pos c3]
    simp only [bnd_some, zm0t, zm1n, if_true, if_false]
    rw [e2]
    simp only [bnd_some]
    exact mm
