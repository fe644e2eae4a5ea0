theorem ok_year {a1 a2 : Int} (h1 : i32 a1) (h2 : i32 a2) : StepOK Inv (p_X7_year a1 a2) (p_X8_year a1 a2) := fun σ τ hI => by
  obtain ⟨m1, m2⟩ := hI.2.2.2.2
  obtain ⟨c1, c2, c3, c4, c5, c6⟩ := id m1
  by_cases d1 : 0 ≤ a1 ∧ a1 ≤ 9
  · by_cases d2 : 0 ≤ a2 ∧ a2 ≤ 3
    · have zn : zm (τ 0 42) = τ 0 42 := zm_eq (by omega) (by omega)
      by_cases q : τ 0 42 < 8
      · obtain ⟨σ1, e1, f1, g1, k1⟩ := su_ex σ 20 (τ 0 42) a1
        obtain ⟨σ2, e2, f2, g2, k2⟩ := su_ex σ1 21 (τ 0 42) a2
        obtain ⟨σ3, e3, f3, g3, k3⟩ := su_ex σ2 16 6 (τ 0 42 + 1)
        obtain ⟨τ1, e5, f5, g5, k5⟩ := su_ex τ 25 (τ 0 42) a1
        obtain ⟨τ2, e6, f6, g6, k6⟩ := su_ex τ1 26 (τ 0 42) a2
        obtain ⟨τ3, e7, f7, g7, k7⟩ := su_ex τ2 0 42 (τ 0 42 + 1)
        have x1 : σ1 16 6 = τ 0 42 := by rw [f1 16 (by decide), c4.1]
        have x2 : σ2 16 6 = τ 0 42 := by rw [f2 16 (by decide), x1]
        have y1 : τ1 0 42 = τ 0 42 := by rw [f5 0 (by decide)]
        have y2 : τ2 0 42 = τ 0 42 := by rw [f6 0 (by decide), y1]
        have e1' : su σ (16 + 4) (τ 0 42) a1 = σ1 := e1
        have e2' : su σ1 (16 + 5) (τ 0 42) a2 = σ2 := e2
        have ex : p_X7_year a1 a2 σ = some (σ3 16 6, σ3) := by
          unfold p_X7_year
          rw [X_isOut h1 ⟨by decide, by decide⟩ ⟨by decide, by decide⟩, if_pos d1]
          simp only [bnd_some, zm0t, if_true]
          rw [X_isOut h2 ⟨by decide, by decide⟩ ⟨by decide, by decide⟩, if_pos d2]
          simp only [bnd_some, zm0t, if_true]
          rw [c4.1, zn, if_pos q]
          unfold p_X2_addYear
          rw [c4.1, zn, if_neg (by omega), gd_pos (by omega), e1']
          simp only [nx]
          rw [x1, zn, gd_pos (by omega), e2', x2, e3, bnd_some]
        have em : p_X8_year a1 a2 τ = some (τ3 0 42, τ3) := by
          unfold p_X8_year
          rw [M_wi h1 ⟨by decide, by decide⟩ ⟨by decide, by decide⟩, if_pos d1]
          simp only [bnd_some, zm1n, if_false]
          rw [M_wi h2 ⟨by decide, by decide⟩ ⟨by decide, by decide⟩, if_pos d2]
          simp only [bnd_some, zm1n, if_false]
          rw [zn, if_neg (by omega), gd_pos (by omega), e5]
          simp only [nx]
          rw [y1, zn, gd_pos (by omega), e6, y2, e7]
        refine ⟨_, _, ex, em, by show zm (σ3 16 6) = zm (τ3 0 42); rw [g3, g7], ?_⟩
        have wA : ∀ k : Int, k ≠ 16 → k ≠ 20 → k ≠ 21 → σ3 k = σ k := fun k q1 q2 q3 => by rw [f3 k q1, f2 k q3, f1 k q2]
        have wB : ∀ k : Int, k ≠ 0 → k ≠ 25 → k ≠ 26 → τ3 k = τ k := fun k q1 q2 q3 => by rw [f7 k q1, f6 k q3, f5 k q2]
        have wC : ∀ j : Int, j ≠ 42 → τ3 0 j = τ 0 j := fun j hj => by rw [k7 j hj, f6 0 (by decide), f5 0 (by decide)]
        have wD : ∀ j : Int, j ≠ 6 → σ3 16 j = σ 16 j := fun j hj => by rw [k3 j hj, f2 16 (by decide), f1 16 (by decide)]
        have p20 : σ3 20 = σ1 20 := by rw [f3 20 (by decide), f2 20 (by decide)]
        have p21 : σ3 21 = σ2 21 := by rw [f3 21 (by decide)]
        have r25 : τ3 25 = τ1 25 := by rw [f7 25 (by decide), f6 25 (by decide)]
        have r26 : τ3 26 = τ2 26 := by rw [f7 26 (by decide)]
        have h21 : σ1 21 = σ 21 := f1 21 (by decide)
        have t26 : τ1 26 = τ 26 := f5 26 (by decide)
        refine hI.mem (fun k hk => wA k (by omega) (by omega) (by omega)) (fun k hk => wB k (by omega) (by omega) (by omega)) (fun j j1 j2 j3 => wC j j2) ?_
        show IM σ3 τ3
        refine ⟨⟨?_, ?_, ?_, ⟨by rw [g3, g7], by rw [g7]; omega, by rw [g7]; omega⟩, fun i i0 i1 => ?_, ?_⟩, fun v v0 v1 => ?_⟩
        · rw [wD 3 (by decide), wC 33 (by decide)]; exact c1
        · rw [wC 33 (by decide), wA (16 + 1) (by decide) (by decide) (by decide), wA (16 + 2) (by decide) (by decide) (by decide), wA (16 + 3) (by decide) (by decide) (by decide), wB 18 (by decide) (by decide) (by decide), wB 19 (by decide) (by decide) (by decide), wB 20 (by decide) (by decide) (by decide)]; exact c2
        · rw [wA (16 + 3) (by decide) (by decide) (by decide)]; exact c3
        · rw [g7] at i1
          show σ3 20 i = τ3 25 i ∧ σ3 21 i = τ3 26 i ∧ 0 ≤ τ3 25 i ∧ τ3 25 i ≤ 9 ∧ 0 ≤ τ3 26 i ∧ τ3 26 i ≤ 3
          rw [p20, p21, r25, r26]
          by_cases ei : i = τ 0 42
          · rw [ei, g1, g2, g5, g6]
            omega
          · rw [k1 i ei, k2 i ei, k5 i ei, k6 i ei, h21, t26]
            exact c5 i i0 (by omega)
        · rw [wD 7 (by decide), wC 47 (by decide)]; exact c6
        · rw [wB 29 (by decide) (by decide) (by decide), wB 30 (by decide) (by decide) (by decide), wA (139 + 6 * v) (by omega) (by omega) (by omega)]
          obtain ⟨q1, q2⟩ := m2 v v0 v1
          exact ⟨q1, q2.imp id (fun d => ⟨d.1, d.2.fr (fun k k0 k1 => wA k (by omega) (by omega) (by omega))⟩)⟩
      · refine st_eq (a := -1000000004) ?_ ?_ hI
        · unfold p_X7_year
          rw [X_isOut h1 ⟨by decide, by decide⟩ ⟨by decide, by decide⟩, if_pos d1]
          simp only [bnd_some, zm0t, if_true]
          rw [X_isOut h2 ⟨by decide, by decide⟩ ⟨by decide, by decide⟩, if_pos d2]
          simp only [bnd_some, zm0t, if_true]
          rw [c4.1, zn, if_neg q]
        · unfold p_X8_year
          rw [M_wi h1 ⟨by decide, by decide⟩ ⟨by decide, by decide⟩, if_pos d1]
          simp only [bnd_some, zm1n, if_false]
          rw [M_wi h2 ⟨by decide, by decide⟩ ⟨by decide, by decide⟩, if_pos d2]
          simp only [bnd_some, zm1n, if_false]
          rw [zn, if_pos (by omega)]
    · refine st_eq (a := -1000000002) ?_ ?_ hI
      · unfold p_X7_year
        rw [X_isOut h1 ⟨by decide, by decide⟩ ⟨by decide, by decide⟩, if_pos d1]
        simp only [bnd_some, zm0t, if_true]
        rw [X_isOut h2 ⟨by decide, by decide⟩ ⟨by decide, by decide⟩, if_neg d2]
        simp only [bnd_some, zm1n, if_false]
      · unfold p_X8_year
        rw [M_wi h1 ⟨by decide, by decide⟩ ⟨by decide, by decide⟩, if_pos d1]
        simp only [bnd_some, zm1n, if_false]
        rw [M_wi h2 ⟨by decide, by decide⟩ ⟨by decide, by decide⟩, if_neg d2]
        simp only [bnd_some, zm0t, if_true]
  · refine st_eq (a := -1000000002) ?_ ?_ hI
    · unfold p_X7_year
      rw [X_isOut h1 ⟨by decide, by decide⟩ ⟨by decide, by decide⟩, if_neg d1]
      simp only [bnd_some, zm1n, if_false]
    · unfold p_X8_year
      rw [M_wi h1 ⟨by decide, by decide⟩ ⟨by decide, by decide⟩, if_neg d1]
      simp only [bnd_some, zm0t, if_true]
