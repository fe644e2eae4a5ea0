/-! the answers that change nothing -/
theorem st_eq {px pm : St → Option (Int × St)} {σ τ σ' τ' : St} {a : Int} (hx : px σ = some (a, σ')) (hm : pm τ = some (a, τ')) (hI : Inv σ' τ') : ∃ x y, px σ = some x ∧ pm τ = some y ∧ zm x.1 = zm y.1 ∧ Inv x.2 y.2 := ⟨_, _, hx, hm, rfl, hI⟩
theorem ok_fault : StepOK Inv (p_X7_fault ) (p_X8_fault ) := fun σ τ hI => st_eq (a := σ 0 13) rfl (by rw [hI.1.1]; rfl) hI
theorem ok_told {a1 a2 : Int} (h1 : i32 a1) (h2 : i32 a2) : StepOK Inv (p_X7_told a1 a2) (p_X8_told a1 a2) := fun σ τ hI => by
  have hw := hI.2.1
  by_cases c : cH τ a1
  · have hb := hw.rg c.1.1 c.1.2
    have hr : HR σ (23 + 2 * a1) τ a1 := by
      rcases hw.2.2.2.1 a1 c.1.1 c.1.2 with q | q
      · have := c.2; omega
      · exact q.1
    obtain ⟨_, q1, q2, q3, q4, q5, q6, _⟩ := hr
    have ex : p_X7_told a1 a2 σ = some (if a2 = 0 then τ 1 a1 else if a2 = 1 then τ 5 a1 else if a2 = 2 then τ 4 a1 else if a2 = 3 then τ 6 a1 else if a2 = 4 then τ 7 a1 else if a2 = 5 then τ 3 a1 else -1000000002, σ) := by
      unfold p_X7_told
      rw [X_isHouse hw h1, if_pos c]
      simp only [bnd_some, zm1n, if_false]
      rw [zm_i h1, zm_i h2, gd_pos (by omega), gd_pos (by omega), gd_pos (by omega), gd_pos (by omega), gd_pos (by omega), gd_pos (by omega), q1, q2, q3, q4, q5, q6]
      split
      · rfl
      split
      · rfl
      split
      · rfl
      split
      · rfl
      split
      · rfl
      split
      · rfl
      rfl
    have em : p_X8_told a1 a2 τ = some (if a2 = 0 then τ 1 a1 else if a2 = 1 then τ 5 a1 else if a2 = 2 then τ 4 a1 else if a2 = 3 then τ 6 a1 else if a2 = 4 then τ 7 a1 else if a2 = 5 then τ 3 a1 else -1000000002, τ) := by
      unfold p_X8_told
      rw [M_isHouse hw h1, if_pos c]
      simp only [bnd_some, zm1n, if_false]
      rw [zm_i h1, zm_i h2, gd_pos (by omega), gd_pos (by omega), gd_pos (by omega), gd_pos (by omega), gd_pos (by omega), gd_pos (by omega)]
      split
      · rfl
      split
      · rfl
      split
      · rfl
      split
      · rfl
      split
      · rfl
      split
      · rfl
      rfl
    exact st_eq ex em hI
  · refine st_eq (a := -1000000001) ?_ ?_ hI
    · unfold p_X7_told
      rw [X_isHouse hw h1, if_neg c]
      simp only [bnd_some, zm0t, if_true]
    · unfold p_X8_told
      rw [M_isHouse hw h1, if_neg c]
      simp only [bnd_some, zm0t, if_true]
theorem IW.hr {σ τ : St} (hw : IW σ τ) {v : Int} (c : cH τ v) : HR σ (23 + 2 * v) τ v ∧ HOK τ v := by
  rcases hw.2.2.2.1 v c.1.1 c.1.2 with q | q
  · have := c.2; omega
  · exact q
theorem ok_pays {a1 a2 : Int} (h1 : i32 a1) (h2 : i32 a2) : StepOK Inv (p_X7_pays a1 a2) (p_X8_pays a1 a2) := fun σ τ hI => by
  have hw := hI.2.1
  by_cases c : cG τ a1 a2
  · have hb := hw.rg c.1.1.1 c.1.1.2
    obtain ⟨hr, hh⟩ := hw.hr c.1
    refine st_eq (a := τ 2 (10 * a1 + a2)) ?_ ?_ hI
    · unfold p_X7_pays
      rw [X_isRung hw h1 h2, if_pos c]
      simp only [bnd_some, zm1n, if_false]
      rw [zm_i h1, zm_i h2, gd_pos (by omega), gd_pos (by omega), hr.2.2.2.2.2.2.2 a2 c.2.1 c.2.2]
    · unfold p_X8_pays
      rw [M_isRung hw h1 h2, if_pos c]
      simp only [bnd_some, zm1n, if_false]
      rw [zm_eq (a := 10 * a1 + a2) (by omega) (by omega), gd_pos (by omega)]
  · refine st_eq (a := -1000000001) ?_ ?_ hI
    · unfold p_X7_pays
      rw [X_isRung hw h1 h2, if_neg c]
      simp only [bnd_some, zm0t, if_true]
    · unfold p_X8_pays
      rw [M_isRung hw h1 h2, if_neg c]
      simp only [bnd_some, zm0t, if_true]
theorem ok_next {a1 a2 a3 : Int} (h1 : i32 a1) (h2 : i32 a2) (h3 : i32 a3) : StepOK Inv (p_X7_next a1 a2 a3) (p_X8_next a1 a2 a3) := fun σ τ hI => by
  have hw := hI.2.1
  by_cases c : cG τ a1 a2
  · have hb := hw.rg c.1.1.1 c.1.1.2
    obtain ⟨hr, hh⟩ := hw.hr c.1
    by_cases d : 0 ≤ a3 ∧ a3 ≤ 3
    · refine st_eq (a := nxt τ a1 a2 a3) ?_ ?_ hI
      · unfold p_X7_next
        rw [X_isRung hw h1 h2, if_pos c]
        simp only [bnd_some, zm1n, if_false]
        rw [X_isOut h3 ⟨by decide, by decide⟩ ⟨by decide, by decide⟩, if_pos d]
        simp only [bnd_some, zm0t, if_true]
        rw [zm_i h1, gd_pos (by omega), X_rungAfter hr hh c.2 d]
        simp only [bnd_some]
      · unfold p_X8_next
        rw [M_isRung hw h1 h2, if_pos c]
        simp only [bnd_some, zm1n, if_false]
        rw [M_wi h3 ⟨by decide, by decide⟩ ⟨by decide, by decide⟩, if_pos d]
        simp only [bnd_some, zm1n, if_false]
        rw [M_nextOf hh c.2 d]
        simp only [bnd_some]
    · refine st_eq (a := -1000000002) ?_ ?_ hI
      · unfold p_X7_next
        rw [X_isRung hw h1 h2, if_pos c]
        simp only [bnd_some, zm1n, if_false]
        rw [X_isOut h3 ⟨by decide, by decide⟩ ⟨by decide, by decide⟩, if_neg d]
        simp only [bnd_some, zm1n, if_false]
      · unfold p_X8_next
        rw [M_isRung hw h1 h2, if_pos c]
        simp only [bnd_some, zm1n, if_false]
        rw [M_wi h3 ⟨by decide, by decide⟩ ⟨by decide, by decide⟩, if_neg d]
        simp only [bnd_some, zm0t, if_true]
  · refine st_eq (a := -1000000001) ?_ ?_ hI
    · unfold p_X7_next
      rw [X_isRung hw h1 h2, if_neg c]
      simp only [bnd_some, zm0t, if_true]
    · unfold p_X8_next
      rw [M_isRung hw h1 h2, if_neg c]
      simp only [bnd_some, zm0t, if_true]
theorem ok_count {a1 : Int} (h1 : i32 a1) : StepOK Inv (p_X7_count a1) (p_X8_count a1) := fun σ τ hI => by
  refine st_eq (a := if a1 = 0 then τ 0 7 else if a1 = 1 then τ 0 23 else if a1 = 2 then τ 0 33 else if a1 = 3 then τ 0 42 else if a1 = 4 then τ 0 14 else -1000000002) ?_ ?_ hI
  · unfold p_X7_count
    rw [zm_i h1, hI.2.1.1.1, hI.2.1.2.1.1, hI.2.2.2.2.1.1.1, hI.2.2.2.2.1.2.2.2.1.1, hI.1.2.1]
    split
    · rfl
    split
    · rfl
    split
    · rfl
    split
    · rfl
    split
    · rfl
    rfl
  · unfold p_X8_count
    rw [zm_i h1]
    split
    · rfl
    split
    · rfl
    split
    · rfl
    split
    · rfl
    split
    · rfl
    rfl
