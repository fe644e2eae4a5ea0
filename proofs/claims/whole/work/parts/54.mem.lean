/-! the memory -/
theorem Inv.mem {σ τ σ' τ' : St} (hI : Inv σ τ) (a : ∀ k : Int, (k < 16 ∨ (21 < k ∧ k < 139)) → σ' k = σ k) (b : ∀ k : Int, (1 ≤ k ∧ k ≤ 17) → τ' k = τ k) (b0 : ∀ j : Int, j ≠ 33 → j ≠ 42 → j ≠ 47 → τ' 0 j = τ 0 j) (hM : IM σ' τ') : Inv σ' τ' := by
  obtain ⟨h1, h2, h3, h4, _⟩ := hI
  have e : eW τ τ' := eW.of (fun q q0 q1 _ => b q (by omega)) (b0 7 (by decide) (by decide) (by decide)) (b0 23 (by decide) (by decide) (by decide))
  refine ⟨h1.fr (by rw [a 0 (by omega)]) (by rw [a 1 (by omega)]) (a 2 (by omega)) (b0 15 (by decide) (by decide) (by decide)) (b0 14 (by decide) (by decide) (by decide)) (b 13 (by omega)), h2.fr (by rw [a 0 (by omega)]) (by rw [a 0 (by omega)]) (fun k k0 k1 => a k (by omega)) (fun k k0 k1 => a k (by omega)) e, IP.fr h2 h3 (fun k k0 k1 => a k (by omega)) (a 108 (by omega)) e, IC.fr h2 h4 (fun j j0 j1 => b0 j (by omega) (by omega) (by omega)) (b 16 (by omega)) (b 17 (by omega)) e, hM⟩
theorem zm_fix {a : Int} (h : 0 ≤ a ∧ a ≤ 2147483647) : zm a = a := zm_eq (by omega) (by omega)
theorem ok_clear : StepOK Inv (p_X7_clear ) (p_X8_clear ) := fun σ τ hI => by
  obtain ⟨m1, m2⟩ := hI.2.2.2.2
  obtain ⟨c1, c2, c3, c4, c5, c6⟩ := id m1
  obtain ⟨σ1, e1, f1, g1, k1⟩ := su_ex σ 16 3 0
  obtain ⟨σ2, e2, f2, g2, k2⟩ := su_ex σ1 16 6 0
  obtain ⟨τ1, e3, f3, g3, k3⟩ := su_ex τ 0 42 0
  obtain ⟨τ2, e4, f4, g4, k4⟩ := su_ex τ1 0 33 0
  refine ⟨(σ 16 3 + σ 16 6, σ2), (τ 0 42 + τ 0 33, τ2), ?_, ?_, ?_, ?_⟩
  · unfold p_X7_clear
    simp only [nx, e1, e2]
  · unfold p_X8_clear
    simp only [nx, e3, e4]
  · rw [c1.1, c4.1, Int.add_comm]
  · have w : ∀ k : Int, k ≠ 16 → σ2 k = σ k := fun k hk => (f2 k hk).trans (f1 k hk)
    have x : ∀ k : Int, k ≠ 0 → τ2 k = τ k := fun k hk => (f4 k hk).trans (f3 k hk)
    refine hI.mem (fun k hk => w k (by omega)) (fun k hk => x k (by omega)) (fun j j1 j2 j3 => (k4 j j1).trans (k3 j j2)) ?_
    show IM σ2 τ2
    have y3 : σ2 16 3 = 0 := by rw [k2 3 (by decide), g1]
    have y7 : σ2 16 7 = τ2 0 47 := by rw [k2 7 (by decide), k1 7 (by decide), k4 47 (by decide), k3 47 (by decide)]; exact c6.1
    have z47 : τ2 0 47 = τ 0 47 := by rw [k4 47 (by decide), k3 47 (by decide)]
    have z42 : τ2 0 42 = 0 := by rw [k4 42 (by decide), g3]
    refine ⟨⟨⟨by rw [y3, g4], by rw [g4]; decide, by rw [g4]; decide⟩, fun i i0 i1 => by rw [g4] at i1; omega, ?_, ⟨by rw [g2, z42], by rw [z42]; decide, by rw [z42]; decide⟩, fun i i0 i1 => by rw [z42] at i1; omega, y7, by rw [z47]; exact c6.2.1, by rw [z47]; exact c6.2.2⟩, fun v v0 v1 => ?_⟩
    · rw [w _ (by decide)]; exact c3
    · rw [x 29 (by decide), x 30 (by decide), w (139 + 6 * v) (by omega)]
      obtain ⟨d1, d2⟩ := m2 v v0 v1
      refine ⟨d1, d2.imp id (fun d => ⟨d.1, d.2.fr (fun k k0 k1 => w k (by omega))⟩)⟩
theorem ok_seed {a1 : Int} (h1 : i32 a1) : StepOK Inv (p_X7_seed a1) (p_X8_seed a1) := fun σ τ hI => by
  obtain ⟨m1, m2⟩ := hI.2.2.2.2
  obtain ⟨c1, c2, c3, c4, c5, c6⟩ := id m1
  by_cases c : 0 ≤ a1
  · obtain ⟨σ1, e1, f1, g1, k1⟩ := su_ex σ 16 7 a1
    obtain ⟨τ1, e3, f3, g3, k3⟩ := su_ex τ 0 47 a1
    refine ⟨(σ 16 7, σ1), (τ 0 47, τ1), ?_, ?_, ?_, ?_⟩
    · unfold p_X7_seed
      rw [zm_i h1, if_pos c]
      simp only [nx, e1]
    · unfold p_X8_seed
      rw [zm_i h1, if_pos c]
      simp only [nx, e3]
    · rw [c6.1]
    · refine hI.mem (fun k hk => f1 k (by omega)) (fun k hk => f3 k (by omega)) (fun j j1 j2 j3 => k3 j j3) ?_
      show IM σ1 τ1
      have h2 := h1.2
      have n33 := k3 33 (by decide)
      have n42 := k3 42 (by decide)
      refine ⟨⟨by rw [k1 3 (by decide), n33]; exact c1, by rw [n33, f1 (16 + 1) (by decide), f1 (16 + 2) (by decide), f1 (16 + 3) (by decide), f3 18 (by decide), f3 19 (by decide), f3 20 (by decide)]; exact c2, by rw [f1 (16 + 3) (by decide)]; exact c3, by rw [k1 6 (by decide), n42]; exact c4, by rw [n42, f1 (16 + 4) (by decide), f1 (16 + 5) (by decide), f3 25 (by decide), f3 26 (by decide)]; exact c5, by rw [g1, g3], by rw [g3]; exact c, by rw [g3]; omega⟩, fun v v0 v1 => ?_⟩
      rw [f3 29 (by decide), f3 30 (by decide), f1 (139 + 6 * v) (by omega)]
      obtain ⟨d1, d2⟩ := m2 v v0 v1
      refine ⟨d1, d2.imp id (fun d => ⟨d.1, d.2.fr (fun k k0 k1 => f1 k (by omega))⟩)⟩
  · refine st_eq (a := -1000000002) ?_ ?_ hI
    · unfold p_X7_seed
      rw [zm_i h1, if_neg c]
    · unfold p_X8_seed
      rw [zm_i h1, if_neg c]
/-! a scrape, a year told -/
theorem X_rises {σ : St} {v n : Int} (hv : 0 ≤ v ∧ v ≤ 11) (h3 : σ 16 3 = n) (hn : 0 ≤ n ∧ n ≤ 12) (hA : 0 < n → 0 ≤ σ 17 (n - 1) ∧ σ 17 (n - 1) ≤ 11 ∧ n - 1 ≤ σ 17 (n - 1)) : p_X2_rises 16 v σ = some (if n = 0 ∨ σ 17 (n - 1) < v then 1 else 0, σ) := by
  unfold p_X2_rises p_X2_rises_31
  rw [h3, zm_eq (a := n) (by omega) (by omega)]
  by_cases c0 : n = 0
  · rw [if_pos c0, if_pos (Or.inl c0)]
  · rw [if_neg c0]
    have q := hA (by omega)
    by_cases c1 : 12 ≤ n
    · rw [if_pos c1, if_neg (by have : n = 12 := by omega
                                subst this
                                omega)]
    · rw [if_neg c1, zm_eq (a := n - 1) (by omega) (by omega), gd_pos (by omega), zm_eq (a := v) (by omega) (by omega)]
      show (if v ≤ zm (σ 17 (n - 1)) then _ else _) = _
      rw [zm_eq (a := σ 17 (n - 1)) (by omega) (by omega)]
      by_cases c2 : v ≤ σ 17 (n - 1)
      · rw [if_pos c2, if_neg (by omega)]
      · rw [if_neg c2, if_pos (by omega)]
theorem ok_scrape {a1 a2 a3 : Int} (h1 : i32 a1) (h2 : i32 a2) (h3 : a3 = 0 ∨ a3 = 1) : StepOK Inv (p_X7_scrape a1 a2 a3) (p_X8_scrape a1 a2 a3) := fun σ τ hI => by
  obtain ⟨m1, m2⟩ := hI.2.2.2.2
  obtain ⟨c1, c2, c3, c4, c5, c6⟩ := id m1
  by_cases d1 : 0 ≤ a1 ∧ a1 ≤ 11
  · by_cases d2 : 1 ≤ a2 ∧ a2 ≤ 999
    · have hA : 0 < τ 0 33 → σ 17 (τ 0 33 - 1) = τ 18 (τ 0 33 - 1) ∧ τ 0 33 - 1 ≤ τ 18 (τ 0 33 - 1) ∧ τ 18 (τ 0 33 - 1) ≤ 11 := fun q => by
        obtain ⟨x1, _, _, x4, x5, _⟩ := c2 (τ 0 33 - 1) (by omega) (by omega)
        exact ⟨x1, x4, x5⟩
      have er := X_rises (v := a1) d1 c1.1 c1.2 (fun q => by have := hA q; omega)
      have ex : p_X7_scrape a1 a2 a3 σ = (if τ 0 33 = 0 ∨ σ 17 (τ 0 33 - 1) < a1 then Option.bind (p_X2_addScrape 16 a1 a2 a3 σ) (fun x45 => some ((x45.2 16 3), x45.2)) else some (-1000000003, σ)) := by
        unfold p_X7_scrape
        rw [X_isOut h1 ⟨by decide, by decide⟩ ⟨by decide, by decide⟩, if_pos d1]
        simp only [bnd_some, zm0t, if_true]
        rw [X_isOut h2 ⟨by decide, by decide⟩ ⟨by decide, by decide⟩, if_pos d2]
        simp only [bnd_some, zm0t, if_true]
        rw [er]
        by_cases q : τ 0 33 = 0 ∨ σ 17 (τ 0 33 - 1) < a1
        · rw [if_pos q, if_pos q]
          simp only [bnd_some, zm1n, if_false]
        · rw [if_neg q, if_neg q]
          simp only [bnd_some, zm0t, if_true]
      have em : p_X8_scrape a1 a2 a3 τ = (if τ 0 33 = 0 ∨ σ 17 (τ 0 33 - 1) < a1 then p_X8_scrape_52 a1 a2 a3 τ else some (-1000000003, τ)) := by
        unfold p_X8_scrape
        rw [M_wi h1 ⟨by decide, by decide⟩ ⟨by decide, by decide⟩, if_pos d1]
        simp only [bnd_some, zm1n, if_false]
        rw [M_wi h2 ⟨by decide, by decide⟩ ⟨by decide, by decide⟩, if_pos d2]
        simp only [bnd_some, zm1n, if_false]
        rw [zm_eq (a := τ 0 33) (by omega) (by omega)]
        by_cases q0 : τ 0 33 ≤ 0
        · rw [if_pos q0, if_pos (Or.inl (by omega))]
        · have hA := hA (by omega)
          rw [if_neg q0, zm_eq (a := τ 0 33 - 1) (by omega) (by omega), gd_pos (by omega), zm_eq (a := τ 18 (τ 0 33 - 1)) (by omega) (by omega), zm_i h1]
          by_cases q : τ 18 (τ 0 33 - 1) < a1
          · rw [if_pos q, if_pos (by omega)]
          · rw [if_neg q, if_neg (by omega)]
      by_cases q : τ 0 33 = 0 ∨ σ 17 (τ 0 33 - 1) < a1
      · rw [if_pos q] at ex em
        have hn : τ 0 33 ≤ 11 ∧ τ 0 33 ≤ a1 := by
          rcases q with q | q
          · omega
          · by_cases q0 : 0 < τ 0 33
            · have := hA q0; omega
            · omega
        obtain ⟨σ1, e1, f1, g1, k1⟩ := su_ex σ 17 (τ 0 33) a1
        obtain ⟨σ2, e2, f2, g2, k2⟩ := su_ex σ1 18 (τ 0 33) a2
        obtain ⟨σ3, e3, f3, g3, k3⟩ := su_ex σ2 19 (τ 0 33) a3
        obtain ⟨σ4, e4, f4, g4, k4⟩ := su_ex σ3 16 3 (τ 0 33 + 1)
        obtain ⟨τ1, e5, f5, g5, k5⟩ := su_ex τ 18 (τ 0 33) a1
        obtain ⟨τ2, e6, f6, g6, k6⟩ := su_ex τ1 19 (τ 0 33) a2
        obtain ⟨τ3, e7, f7, g7, k7⟩ := su_ex τ2 20 (τ 0 33) a3
        obtain ⟨τ4, e8, f8, g8, k8⟩ := su_ex τ3 0 33 (τ 0 33 + 1)
        have x1 : σ1 16 3 = τ 0 33 := by rw [f1 16 (by decide), c1.1]
        have x2 : σ2 16 3 = τ 0 33 := by rw [f2 16 (by decide), x1]
        have x3 : σ3 16 3 = τ 0 33 := by rw [f3 16 (by decide), x2]
        have y1 : τ1 0 33 = τ 0 33 := by rw [f5 0 (by decide)]
        have y2 : τ2 0 33 = τ 0 33 := by rw [f6 0 (by decide), y1]
        have y3 : τ3 0 33 = τ 0 33 := by rw [f7 0 (by decide), y2]
        have e1' : su σ (16 + 1) (τ 0 33) a1 = σ1 := e1
        have e2' : su σ1 (16 + 2) (τ 0 33) a2 = σ2 := e2
        have e3' : su σ2 (16 + 3) (τ 0 33) a3 = σ3 := e3
        have zn : zm (τ 0 33) = τ 0 33 := zm_eq (by omega) (by omega)
        have exx : p_X7_scrape a1 a2 a3 σ = some (σ4 16 3, σ4) := by
          rw [ex]
          unfold p_X2_addScrape
          rw [c1.1, zn, if_neg (by omega), gd_pos (by omega), e1']
          simp only [nx]
          rw [x1, zn, gd_pos (by omega), e2', x2, zn, gd_pos (by omega), gd_pos h3, e3', x3, e4, bnd_some]
        have emm : p_X8_scrape a1 a2 a3 τ = some (τ4 0 33, τ4) := by
          rw [em]
          unfold p_X8_scrape_52
          rw [zn, if_neg (by omega), gd_pos (by omega), e5]
          simp only [nx]
          rw [y1, zn, gd_pos (by omega), e6, y2, zn, gd_pos (by omega), gd_pos h3, e7, y3, e8]
        refine ⟨_, _, exx, emm, by show zm (σ4 16 3) = zm (τ4 0 33); rw [g4, g8], ?_⟩
        have wA : ∀ k : Int, k < 16 ∨ 19 < k → σ4 k = σ k := fun k hk => by rw [f4 k (by omega), f3 k (by omega), f2 k (by omega), f1 k (by omega)]
        have wB : ∀ k : Int, k ≠ 0 → k < 18 ∨ 20 < k → τ4 k = τ k := fun k k0 hk => by rw [f8 k (by omega), f7 k (by omega), f6 k (by omega), f5 k (by omega)]
        have wC : ∀ j : Int, j ≠ 33 → τ4 0 j = τ 0 j := fun j hj => by rw [k8 j hj, f7 0 (by decide), f6 0 (by decide), f5 0 (by decide)]
        have wD : ∀ j : Int, j ≠ 3 → σ4 16 j = σ 16 j := fun j hj => by rw [k4 j hj, f3 16 (by decide), f2 16 (by decide), f1 16 (by decide)]
        have p17 : σ4 17 = σ1 17 := by rw [f4 17 (by decide), f3 17 (by decide), f2 17 (by decide)]
        have p18 : σ4 18 = σ2 18 := by rw [f4 18 (by decide), f3 18 (by decide)]
        have p19 : σ4 19 = σ3 19 := by rw [f4 19 (by decide)]
        have r18 : τ4 18 = τ1 18 := by rw [f8 18 (by decide), f7 18 (by decide), f6 18 (by decide)]
        have r19 : τ4 19 = τ2 19 := by rw [f8 19 (by decide), f7 19 (by decide)]
        have r20 : τ4 20 = τ3 20 := by rw [f8 20 (by decide)]
        have h2_18 : σ1 18 = σ 18 := f1 18 (by decide)
        have h3_19 : σ2 19 = σ 19 := by rw [f2 19 (by decide), f1 19 (by decide)]
        have t1_19 : τ1 19 = τ 19 := f5 19 (by decide)
        have t2_20 : τ2 20 = τ 20 := by rw [f6 20 (by decide), f5 20 (by decide)]
        refine hI.mem (fun k hk => wA k (by omega)) (fun k hk => wB k (by omega) (by omega)) (fun j j1 j2 j3 => wC j j1) ?_
        show IM σ4 τ4
        refine ⟨⟨⟨by rw [g4, g8], by rw [g8]; omega, by rw [g8]; omega⟩, fun i i0 i1 => ?_, fun i i0 i1 => ?_, ?_, ?_, ?_⟩, fun v v0 v1 => ?_⟩
        · rw [g8] at i1
          show σ4 17 i = τ4 18 i ∧ σ4 18 i = τ4 19 i ∧ σ4 19 i = τ4 20 i ∧ i ≤ τ4 18 i ∧ τ4 18 i ≤ 11 ∧ 1 ≤ τ4 19 i ∧ τ4 19 i ≤ 999
          rw [p17, p18, p19, r18, r19, r20]
          by_cases ei : i = τ 0 33
          · rw [ei, g1, g2, g3, g5, g6, g7]
            omega
          · rw [k1 i ei, k2 i ei, k3 i ei, k5 i ei, k6 i ei, k7 i ei, h2_18, h3_19, t1_19, t2_20]
            exact c2 i i0 (by omega)
        · show σ4 19 i = 0 ∨ σ4 19 i = 1
          rw [p19]
          by_cases ei : i = τ 0 33
          · rw [ei, g3]; exact h3
          · rw [k3 i ei, h3_19]
            exact c3 i i0 i1
        · rw [wD 6 (by decide), wC 42 (by decide)]; exact c4
        · rw [wC 42 (by decide), wA (16 + 4) (by decide), wA (16 + 5) (by decide), wB 25 (by decide) (by decide), wB 26 (by decide) (by decide)]; exact c5
        · rw [wD 7 (by decide), wC 47 (by decide)]; exact c6
        · rw [wB 29 (by decide) (by decide), wB 30 (by decide) (by decide), wA (139 + 6 * v) (by omega)]
          obtain ⟨q1, q2⟩ := m2 v v0 v1
          exact ⟨q1, q2.imp id (fun d => ⟨d.1, d.2.fr (fun k k0 k1 => wA k (by omega))⟩)⟩
      · rw [if_neg q] at ex em
        exact st_eq ex em hI
    · refine st_eq (a := -1000000002) ?_ ?_ hI
      · unfold p_X7_scrape
        rw [X_isOut h1 ⟨by decide, by decide⟩ ⟨by decide, by decide⟩, if_pos d1]
        simp only [bnd_some, zm0t, if_true]
        rw [X_isOut h2 ⟨by decide, by decide⟩ ⟨by decide, by decide⟩, if_neg d2]
        simp only [bnd_some, zm1n, if_false]
      · unfold p_X8_scrape
        rw [M_wi h1 ⟨by decide, by decide⟩ ⟨by decide, by decide⟩, if_pos d1]
        simp only [bnd_some, zm1n, if_false]
        rw [M_wi h2 ⟨by decide, by decide⟩ ⟨by decide, by decide⟩, if_neg d2]
        simp only [bnd_some, zm0t, if_true]
  · refine st_eq (a := -1000000002) ?_ ?_ hI
    · unfold p_X7_scrape
      rw [X_isOut h1 ⟨by decide, by decide⟩ ⟨by decide, by decide⟩, if_neg d1]
      simp only [bnd_some, zm1n, if_false]
    · unfold p_X8_scrape
      rw [M_wi h1 ⟨by decide, by decide⟩ ⟨by decide, by decide⟩, if_neg d1]
      simp only [bnd_some, zm0t, if_true]
