theorem ok_scrapes {a1 a2 : Int} (h1 : i32 a1) (h2 : i32 a2) : StepOK Inv (p_X7_scrapes a1 a2) (p_X8_scrapes a1 a2) := fun σ τ hI => by
  have hw := hI.2.1
  by_cases c : cS τ a1
  · obtain ⟨hr, hs⟩ := hw.2.2.1 a1 c.1 c.2
    have h4 := hw.1
    have h8 := hs.2.1
    have h11 := hs.2.2.2.2.2.2
    by_cases d : 0 ≤ a2 ∧ a2 ≤ 19
    · have hx : p_X7_scrapes a1 a2 σ = (if a2 = 0 then (some ((σ (27 + 4 * a1) 3), σ)) else if a2 = 1 then (some ((σ (27 + 4 * a1) 4), σ)) else if a2 = 2 then (if zm (σ (27 + 4 * a1) 5) = 0 then (some ((-1), σ)) else (some ((σ (27 + 4 * a1) 6), σ))) else if a2 = 3 then (if zm (σ (27 + 4 * a1) 5) = 0 then (some ((-1), σ)) else (some ((σ (27 + 4 * a1) 7), σ))) else (if zm ((zm (a2 - 4)).tmod 8) < zm (σ (27 + 4 * a1) 3) then (if 12 ≤ a2 then (gd (0 ≤ zm ((zm (a2 - 4)).tmod 8) ∧ zm ((zm (a2 - 4)).tmod 8) < 8) (some ((σ ((27 + 4 * a1) + 2) (zm ((zm (a2 - 4)).tmod 8))), σ))) else (gd (0 ≤ zm ((zm (a2 - 4)).tmod 8) ∧ zm ((zm (a2 - 4)).tmod 8) < 8) (some ((σ ((27 + 4 * a1) + 1) (zm ((zm (a2 - 4)).tmod 8))), σ)))) else (some ((-1), σ)))) := by
        unfold p_X7_scrapes
        rw [X_isSort hw h1, if_pos c]
        simp only [bnd_some, zm1n, if_false]
        rw [X_isOut h2 ⟨by decide, by decide⟩ ⟨by decide, by decide⟩, if_pos d]
        simp only [bnd_some, zm0t, if_true]
        rw [zm_i h1, gd_pos (by omega), zm_i h2]
      have hm : p_X8_scrapes a1 a2 τ = (if 4 ≤ a2 then (if zm ((zm (a2 - 4)).tmod 8) < zm (τ 8 a1) then (if 12 ≤ a2 then (gd (0 ≤ zm ((8 * a1) + ((zm (a2 - 4)).tmod 8)) ∧ zm ((8 * a1) + ((zm (a2 - 4)).tmod 8)) < 32) (some ((τ 10 (zm ((8 * a1) + ((zm (a2 - 4)).tmod 8)))), τ))) else (gd (0 ≤ zm ((8 * a1) + ((zm (a2 - 4)).tmod 8)) ∧ zm ((8 * a1) + ((zm (a2 - 4)).tmod 8)) < 32) (some ((τ 9 (zm ((8 * a1) + ((zm (a2 - 4)).tmod 8)))), τ)))) else (some ((-1), τ))) else (if a2 = 0 then some (τ 8 a1, τ) else (if a2 = 1 then some (sm (od τ a1 0) (τ 8 a1).toNat, τ) else (if a2 = 2 then some (τ 11 a1, τ) else some (τ 12 a1, τ))))) := by
        unfold p_X8_scrapes
        rw [M_isSort hw h1, if_pos c]
        simp only [bnd_some, zm1n, if_false]
        rw [M_wi h2 ⟨by decide, by decide⟩ ⟨by decide, by decide⟩, if_pos d]
        simp only [bnd_some, zm1n, if_false]
        have ga : 0 ≤ a1 ∧ a1 < 4 := by omega
        rw [zm_i h1, zm_i h2]
        simp only [gd_pos ga]
        rw [M_sumOdds hs (Or.inl rfl), bnd_some]
      by_cases q : 4 ≤ a2
      · obtain ⟨b, hb⟩ : ∃ b, (zm (a2 - 4)).tmod 8 = b := ⟨_, rfl⟩
        have zb : 0 ≤ b ∧ b < 8 := by
          rw [← hb, zm_eq (a := a2 - 4) (by omega) (by omega), Int.tmod_eq_emod_of_nonneg (by omega)]
          omega
        rw [hb, zm_eq (a := b) (by omega) (by omega), hr.2.1, zm_eq (a := τ 8 a1) (by omega) (by omega), if_neg (by omega), if_neg (by omega), if_neg (by omega), if_neg (by omega)] at hx
        rw [hb, zm_eq (a := b) (by omega) (by omega), zm_eq (a := τ 8 a1) (by omega) (by omega), if_pos q, zm_eq (a := 8 * a1 + b) (by omega) (by omega)] at hm
        by_cases q1 : b < τ 8 a1
        · obtain ⟨s1, s2⟩ := hr.2.2.1 b zb.1 q1
          rw [if_pos q1] at hx hm
          by_cases q2 : 12 ≤ a2
          · rw [if_pos q2, gd_pos (by omega)] at hx hm
            rw [s2] at hx
            exact st_eq hx hm hI
          · rw [if_neg q2, gd_pos (by omega)] at hx hm
            rw [s1] at hx
            exact st_eq hx hm hI
        · rw [if_neg q1] at hx hm
          exact st_eq hx hm hI
      · rw [if_neg q] at hm
        by_cases q0 : a2 = 0
        · rw [if_pos q0] at hx hm
          rw [hr.2.1] at hx
          exact st_eq hx hm hI
        · rw [if_neg q0] at hx hm
          by_cases q1 : a2 = 1
          · rw [if_pos q1] at hx hm
            rw [hr.2.2.2.1] at hx
            have e : sm (od τ a1 0) (τ 8 a1).toNat = sm (fun i => τ 10 (8 * a1 + i)) (τ 8 a1).toNat := sm_congr _ (fun i _ _ => by unfold od; rw [if_pos rfl])
            rw [e] at hm
            exact st_eq hx hm hI
          · rw [if_neg q1] at hx hm
            by_cases q2 : a2 = 2
            · rw [if_pos q2] at hx hm
              by_cases cp : 0 ≤ τ 11 a1
              · obtain ⟨s1, s2, s3, _⟩ := hr.2.2.2.2.2 cp
                rw [s1, if_neg (by decide), s2] at hx
                exact st_eq hx hm hI
              · rw [hr.2.2.2.2.1 (by omega), if_pos (by decide)] at hx
                have e : τ 11 a1 = -1 := by omega
                rw [e] at hm
                exact st_eq hx hm hI
            · rw [if_neg q2] at hx hm
              rw [if_pos (by omega)] at hx
              by_cases cp : 0 ≤ τ 11 a1
              · obtain ⟨s1, s2, s3, _⟩ := hr.2.2.2.2.2 cp
                rw [s1, if_neg (by decide), s3] at hx
                exact st_eq hx hm hI
              · rw [hr.2.2.2.2.1 (by omega), if_pos (by decide)] at hx
                have e : τ 12 a1 = -1 := by omega
                rw [e] at hm
                exact st_eq hx hm hI
    · refine st_eq (a := -1000000002) ?_ ?_ hI
      · unfold p_X7_scrapes
        rw [X_isSort hw h1, if_pos c]
        simp only [bnd_some, zm1n, if_false]
        rw [X_isOut h2 ⟨by decide, by decide⟩ ⟨by decide, by decide⟩, if_neg d]
        simp only [bnd_some, zm1n, if_false]
      · unfold p_X8_scrapes
        rw [M_isSort hw h1, if_pos c]
        simp only [bnd_some, zm1n, if_false]
        rw [M_wi h2 ⟨by decide, by decide⟩ ⟨by decide, by decide⟩, if_neg d]
        simp only [bnd_some, zm0t, if_true]
  · refine st_eq (a := -1000000001) ?_ ?_ hI
    · unfold p_X7_scrapes
      rw [X_isSort hw h1, if_neg c]
      simp only [bnd_some, zm0t, if_true]
    · unfold p_X8_scrapes
      rw [M_isSort hw h1, if_neg c]
      simp only [bnd_some, zm0t, if_true]
