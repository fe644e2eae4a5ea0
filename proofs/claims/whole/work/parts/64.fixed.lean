theorem kx107 : kX 107 = (3, 0) := by decide
theorem X_begin (σ : St) (o a b c : Int) : ∃ σ', p_X3_begin o a b c σ = some (0, σ') ∧ (∀ k : Int, k ≠ o → σ' k = σ k) ∧ σ' o 0 = a ∧ σ' o 1 = b ∧ σ' o 2 = c ∧ σ' o 5 = 0 := by
  obtain ⟨σ1, e1, a1, b1, c1⟩ := su_ex σ o 0 a
  obtain ⟨σ2, e2, a2, b2, c2⟩ := su_ex σ1 o 1 b
  obtain ⟨σ3, e3, a3, b3, c3⟩ := su_ex σ2 o 2 c
  obtain ⟨σ4, e4, a4, b4, c4⟩ := su_ex σ3 o 5 0
  refine ⟨σ4, ?_, fun k hk => by rw [a4 k hk, a3 k hk, a2 k hk, a1 k hk], ?_, ?_, ?_, b4⟩
  · unfold p_X3_begin
    simp only [nx]
    rw [e1, e2, e3, e4]
  · rw [c4 0 (by decide), c3 0 (by decide), c2 0 (by decide), b1]
  · rw [c4 1 (by decide), c3 1 (by decide), b2]
  · rw [c4 2 (by decide), b3]
/-- the trial plan begun -/
theorem X_trial {σ t : St} {os oh n3 s h ru : Int} (hsr : SR σ os t s) (hs : SOK t s) (hhr : HR σ oh t h) (hh : HOK t h) (hu : (n3 < 0 ∧ ru = -1) ∨ (RR σ n3 t ru ∧ ROK t ru)) (z : ∀ r : Int, 0 ≤ r → r < 10 → σ 108 r = 0) : ∃ σ', p_X3_begin 107 os oh n3 σ = some (0, σ') ∧ (∀ k : Int, k ≠ 107 → σ' k = σ k) ∧ PC σ' 107 t s h ru ∧ σ' 107 5 = 0 ∧ σ' 107 2 = n3 ∧ KN σ' 107 t s h ru 0 0 := by
  obtain ⟨σ', e, a, b0, b1, b2, b5⟩ := X_begin σ 107 os oh n3
  have k6 := kx6 hsr.1
  have k0 := kx0 hhr.1
  have h10 := hh.2.1
  refine ⟨σ', e, a, ⟨kx107, ?_, ?_, hs, hh, ?_⟩, b5, b2, fun n' r' q0 q1 q2 q3 => ?_, fun n' r' q0 q1 q2 q3 => by omega⟩
  · rw [b0]
    exact hsr.to (a _ (by omega)) (a _ (by omega)) (a _ (by omega)) (a _ (by omega))
  · rw [b1]
    exact hhr.to (a _ (by omega)) (a _ (by omega))
  · rw [b2]
    rcases hu with q | ⟨q, q'⟩
    · exact Or.inl q
    · have k5 := kx5 q.1
      exact Or.inr ⟨q.to (a _ (by omega)) (a _ (by omega)) (a _ (by omega)) (a _ (by omega)) (a _ (by omega)) (a _ (by omega)), q'⟩
  · have n0 : n' = 0 := by omega
    subst n0
    show σ' 108 (10 * 0 + r') = _
    rw [a 108 (by decide), show (10 : Int) * 0 + r' = r' by omega, z r' q1 (by omega)]
    unfold cst
    rfl
theorem ok_fixed {a1 a2 a3 a4 a5 a6 : Int} (h1 : i32 a1) (h2 : i32 a2) (h3 : i32 a3) (h4 : i32 a4) (h5 : i32 a5) (h6 : i32 a6) : StepOK Inv (p_X7_fixed a1 a2 a3 a4 a5 a6) (p_X8_fixed a1 a2 a3 a4 a5 a6) := fun σ τ hI => by
  have hw := hI.2.1
  by_cases c1 : cU τ a1
  rotate_left
  · refine st_eq (a := -1000000001) ?_ ?_ hI
    · unfold p_X7_fixed
      rw [X_isRule hw h1, if_neg c1]
      simp only [bnd_some, zm0t, zm1n, if_true, if_false]
    · unfold p_X8_fixed
      rw [M_isRule hw h1, if_neg c1]
      simp only [bnd_some, zm0t, zm1n, if_true, if_false]
  by_cases c2 : cS τ a2
  rotate_left
  · refine st_eq (a := -1000000001) ?_ ?_ hI
    · unfold p_X7_fixed
      rw [X_isRule hw h1, if_pos c1]
      simp only [bnd_some, zm0t, zm1n, if_true, if_false]
      rw [X_isSort hw h2, if_neg c2]
      simp only [bnd_some, zm0t, zm1n, if_true, if_false]
    · unfold p_X8_fixed
      rw [M_isRule hw h1, if_pos c1]
      simp only [bnd_some, zm0t, zm1n, if_true, if_false]
      rw [M_isSort hw h2, if_neg c2]
      simp only [bnd_some, zm0t, zm1n, if_true, if_false]
  by_cases c3 : cG τ a3 a6
  rotate_left
  · refine st_eq (a := -1000000001) ?_ ?_ hI
    · unfold p_X7_fixed
      rw [X_isRule hw h1, if_pos c1]
      simp only [bnd_some, zm0t, zm1n, if_true, if_false]
      rw [X_isSort hw h2, if_pos c2]
      simp only [bnd_some, zm0t, zm1n, if_true, if_false]
      rw [X_isRung hw h3 h6, if_neg c3]
      simp only [bnd_some, zm0t, zm1n, if_true, if_false]
    · unfold p_X8_fixed
      rw [M_isRule hw h1, if_pos c1]
      simp only [bnd_some, zm0t, zm1n, if_true, if_false]
      rw [M_isSort hw h2, if_pos c2]
      simp only [bnd_some, zm0t, zm1n, if_true, if_false]
      rw [M_isRung hw h3 h6, if_neg c3]
      simp only [bnd_some, zm0t, zm1n, if_true, if_false]
  by_cases c4 : 1 ≤ a4 ∧ a4 ≤ 30
  rotate_left
  · refine st_eq (a := -1000000002) ?_ ?_ hI
    · unfold p_X7_fixed
      rw [X_isRule hw h1, if_pos c1]
      simp only [bnd_some, zm0t, zm1n, if_true, if_false]
      rw [X_isSort hw h2, if_pos c2]
      simp only [bnd_some, zm0t, zm1n, if_true, if_false]
      rw [X_isRung hw h3 h6, if_pos c3]
      simp only [bnd_some, zm0t, zm1n, if_true, if_false]
      rw [X_isOut h4 ⟨by decide, by decide⟩ ⟨by decide, by decide⟩, if_neg c4]
      simp only [bnd_some, zm0t, zm1n, if_true, if_false]
    · unfold p_X8_fixed
      rw [M_isRule hw h1, if_pos c1]
      simp only [bnd_some, zm0t, zm1n, if_true, if_false]
      rw [M_isSort hw h2, if_pos c2]
      simp only [bnd_some, zm0t, zm1n, if_true, if_false]
      rw [M_isRung hw h3 h6, if_pos c3]
      simp only [bnd_some, zm0t, zm1n, if_true, if_false]
      rw [M_isTime h4, if_neg c4]
      simp only [bnd_some, zm0t, zm1n, if_true, if_false]
  by_cases c5 : 0 ≤ a5 ∧ a5 ≤ a4
  rotate_left
  · refine st_eq (a := -1000000002) ?_ ?_ hI
    · unfold p_X7_fixed
      rw [X_isRule hw h1, if_pos c1]
      simp only [bnd_some, zm0t, zm1n, if_true, if_false]
      rw [X_isSort hw h2, if_pos c2]
      simp only [bnd_some, zm0t, zm1n, if_true, if_false]
      rw [X_isRung hw h3 h6, if_pos c3]
      simp only [bnd_some, zm0t, zm1n, if_true, if_false]
      rw [X_isOut h4 ⟨by decide, by decide⟩ ⟨by decide, by decide⟩, if_pos c4]
      simp only [bnd_some, zm0t, zm1n, if_true, if_false]
      rw [X_isOut h5 ⟨by decide, by decide⟩ h4, if_neg c5]
      simp only [bnd_some, zm0t, zm1n, if_true, if_false]
    · unfold p_X8_fixed
      rw [M_isRule hw h1, if_pos c1]
      simp only [bnd_some, zm0t, zm1n, if_true, if_false]
      rw [M_isSort hw h2, if_pos c2]
      simp only [bnd_some, zm0t, zm1n, if_true, if_false]
      rw [M_isRung hw h3 h6, if_pos c3]
      simp only [bnd_some, zm0t, zm1n, if_true, if_false]
      rw [M_isTime h4, if_pos c4]
      simp only [bnd_some, zm0t, zm1n, if_true, if_false]
      rw [zm_i h4, M_wi h5 ⟨by decide, by decide⟩ (i32_64 h4), if_neg c5]
      simp only [bnd_some, zm0t, zm1n, if_true, if_false]
  obtain ⟨τ', e, o, w, hI', cs, ch, cu⟩ := M_wk hI c2 c3.1 (Or.inr c1) c4
  have cu' : cU τ' a1 := by
    rcases cu with q | q
    · exact absurd q (by omega)
    · exact q
  have t1 : τ' 1 a3 = τ 1 a3 := by rw [o.1 1 (by decide) (by decide) (by decide)]
  have h10 := hw.rg c3.1.1.1 c3.1.1.2
  have hr4 := hw.2.1
  have q4 := hw.1
  have g2 := c3.2
  obtain ⟨hsr, hs⟩ := hI'.2.1.2.2.1 a2 cs.1 cs.2
  obtain ⟨hhr, hh⟩ := hI'.2.1.hr ch
  obtain ⟨hrr, hr⟩ := hI'.2.1.2.2.2.2 a1 cu'.1 cu'.2
  obtain ⟨σ1, x1, f1, hc, z5, _, kn⟩ := X_trial (n3 := 115 + 6 * a1) (ru := a1) hsr hs hhr hh (Or.inr ⟨hrr, hr⟩) hI'.2.2.1.2
  obtain ⟨σ2, x2, k1, ⟨n, n1, n2, n3, n4, n5⟩, k0⟩ := X_know (left := a4 - a5) hc (by omega) z5 (by omega) kn
  have hI2 : Inv σ2 τ' := hI'.tr (fun k hk => by rw [k1.1.1 k (by omega), f1 k (by omega)]) (fun r r0 r1 => (k0 r r1).trans (by rw [f1 _ (by decide)]; rfl))
  refine st_eq (a := cst τ' a2 a3 a1 (a4 - a5).toNat a6) ?_ ?_ hI2
  · unfold p_X7_fixed
    rw [X_isRule hw h1, if_pos c1]
    simp only [bnd_some, zm0t, zm1n, if_true, if_false]
    rw [X_isSort hw h2, if_pos c2]
    simp only [bnd_some, zm0t, zm1n, if_true, if_false]
    rw [X_isRung hw h3 h6, if_pos c3]
    simp only [bnd_some, zm0t, zm1n, if_true, if_false]
    rw [X_isOut h4 ⟨by decide, by decide⟩ ⟨by decide, by decide⟩, if_pos c4]
    simp only [bnd_some, zm0t, zm1n, if_true, if_false]
    rw [X_isOut h5 ⟨by decide, by decide⟩ h4, if_pos c5]
    simp only [bnd_some, zm0t, zm1n, if_true, if_false]
    rw [zm_i h1, zm_i h2, zm_i h3, gd_pos (by omega), gd_pos (by omega), gd_pos (by omega), x1]
    simp only [bnd_some]
    rw [x2]
    simp only [bnd_some]
    rw [X_cw n5 n3 (by omega) (by omega) (by omega)]
    simp only [bnd_some]
  · unfold p_X8_fixed
    rw [M_isRule hw h1, if_pos c1]
    simp only [bnd_some, zm0t, zm1n, if_true, if_false]
    rw [M_isSort hw h2, if_pos c2]
    simp only [bnd_some, zm0t, zm1n, if_true, if_false]
    rw [M_isRung hw h3 h6, if_pos c3]
    simp only [bnd_some, zm0t, zm1n, if_true, if_false]
    rw [M_isTime h4, if_pos c4]
    simp only [bnd_some, zm0t, zm1n, if_true, if_false]
    rw [zm_i h4, M_wi h5 ⟨by decide, by decide⟩ (i32_64 h4), if_pos c5]
    simp only [bnd_some, zm0t, zm1n, if_true, if_false]
    rw [e]
    simp only [bnd_some]
    rw [zm_eq (a := 10 * a5 + a6) (by omega) (by omega), gd_pos (by omega), w.2.2.2.2.1 a5 a6 (by omega) (by omega) (by omega) (by omega)]
theorem ok_buy {a1 a2 a3 a4 a5 a6 : Int} (h1 : i32 a1) (h2 : i32 a2) (h3 : i32 a3) (h4 : i32 a4) (h5 : i32 a5) (h6 : i32 a6) : StepOK Inv (p_X7_buy a1 a2 a3 a4 a5 a6) (p_X8_buy a1 a2 a3 a4 a5 a6) := fun σ τ hI => by
  have hw := hI.2.1
  by_cases c1 : cS τ a1
  rotate_left
  · refine st_eq (a := -1000000001) ?_ ?_ hI
    · unfold p_X7_buy
      rw [X_isSort hw h1, if_neg c1]
      simp only [bnd_some, zm0t, zm1n, if_true, if_false]
    · unfold p_X8_buy
      rw [M_isSort hw h1, if_neg c1]
      simp only [bnd_some, zm0t, zm1n, if_true, if_false]
  by_cases c2 : cG τ a2 a5
  rotate_left
  · refine st_eq (a := -1000000001) ?_ ?_ hI
    · unfold p_X7_buy
      rw [X_isSort hw h1, if_pos c1]
      simp only [bnd_some, zm0t, zm1n, if_true, if_false]
      rw [X_isRung hw h2 h5, if_neg c2]
      simp only [bnd_some, zm0t, zm1n, if_true, if_false]
    · unfold p_X8_buy
      rw [M_isSort hw h1, if_pos c1]
      simp only [bnd_some, zm0t, zm1n, if_true, if_false]
      rw [M_isRung hw h2 h5, if_neg c2]
      simp only [bnd_some, zm0t, zm1n, if_true, if_false]
  by_cases c3 : cY a3 a4
  rotate_left
  · refine st_eq (a := -1000000002) ?_ ?_ hI
    · unfold p_X7_buy
      rw [X_isSort hw h1, if_pos c1]
      simp only [bnd_some, zm0t, zm1n, if_true, if_false]
      rw [X_isRung hw h2 h5, if_pos c2]
      simp only [bnd_some, zm0t, zm1n, if_true, if_false]
      rw [X_isNoYear h3 h4, if_neg c3]
      simp only [bnd_some, zm0t, zm1n, if_true, if_false]
    · unfold p_X8_buy
      rw [M_isSort hw h1, if_pos c1]
      simp only [bnd_some, zm0t, zm1n, if_true, if_false]
      rw [M_isRung hw h2 h5, if_pos c2]
      simp only [bnd_some, zm0t, zm1n, if_true, if_false]
      rw [M_isWhen h3 h4, if_neg c3]
      simp only [bnd_some, zm0t, zm1n, if_true, if_false]
  by_cases c4 : 1 ≤ a6 ∧ a6 ≤ 3
  rotate_left
  · refine st_eq (a := -1000000002) ?_ ?_ hI
    · unfold p_X7_buy
      rw [X_isSort hw h1, if_pos c1]
      simp only [bnd_some, zm0t, zm1n, if_true, if_false]
      rw [X_isRung hw h2 h5, if_pos c2]
      simp only [bnd_some, zm0t, zm1n, if_true, if_false]
      rw [X_isNoYear h3 h4, if_pos c3]
      simp only [bnd_some, zm0t, zm1n, if_true, if_false]
      rw [X_isOut h6 ⟨by decide, by decide⟩ ⟨by decide, by decide⟩, if_neg c4]
      simp only [bnd_some, zm0t, zm1n, if_true, if_false]
    · unfold p_X8_buy
      rw [M_isSort hw h1, if_pos c1]
      simp only [bnd_some, zm0t, zm1n, if_true, if_false]
      rw [M_isRung hw h2 h5, if_pos c2]
      simp only [bnd_some, zm0t, zm1n, if_true, if_false]
      rw [M_isWhen h3 h4, if_pos c3]
      simp only [bnd_some, zm0t, zm1n, if_true, if_false]
      rw [M_wi h6 ⟨by decide, by decide⟩ ⟨by decide, by decide⟩, if_neg c4]
      simp only [bnd_some, zm0t, zm1n, if_true, if_false]
  obtain ⟨τ', e, o, w, hI', cs, ch, _⟩ := M_wk hI c1 c2.1 (Or.inl rfl) c3.1
  obtain ⟨σ', x, fr, hI2, hc, n, n1, n2, kn⟩ := X_planOf hI' cs ch (Y := a3) (by omega)
  have t1 : τ' 1 a2 = τ 1 a2 := by rw [o.1 1 (by decide) (by decide) (by decide)]
  have h10 := hw.rg c2.1.1.1 c2.1.1.2
  have q4 := hw.1
  have g2 := c2.2
  have g3 := c3
  have hs := hc.2.2.2.1
  have hh := hc.2.2.2.2.1
  obtain ⟨hhr, _⟩ := hI2.2.1.hr ch
  have nb := nxt_bd (k := a6) hh (by omega : 0 ≤ a5 ∧ a5 < τ' 1 a2) (by omega)
  have nb' := nxt_bd (k := a6 - 1) hh (by omega : 0 ≤ a5 ∧ a5 < τ' 1 a2) (by omega)
  have hq : (a3 - (a4 + 1)).toNat = ((a3 - a4) - 1).toNat := by omega
  refine st_eq (a := cst τ' a1 a2 (-1) ((a3 - a4) - 1).toNat (nxt τ' a2 a5 a6) - cst τ' a1 a2 (-1) ((a3 - a4) - 1).toNat (nxt τ' a2 a5 (a6 - 1))) ?_ ?_ hI2
  · unfold p_X7_buy
    rw [X_isSort hw h1, if_pos c1]
    simp only [bnd_some, zm0t, zm1n, if_true, if_false]
    rw [X_isRung hw h2 h5, if_pos c2]
    simp only [bnd_some, zm0t, zm1n, if_true, if_false]
    rw [X_isNoYear h3 h4, if_pos c3]
    simp only [bnd_some, zm0t, zm1n, if_true, if_false]
    rw [X_isOut h6 ⟨by decide, by decide⟩ ⟨by decide, by decide⟩, if_pos c4]
    simp only [bnd_some, zm0t, zm1n, if_true, if_false]
    rw [x]
    simp only [bnd_some]
    rw [gd_pos hc.1, zm_i h2, gd_pos (by omega), X_rungAfter hhr hh (by omega) (by omega)]
    simp only [bnd_some]
    rw [X_cw kn n2 (by omega) nb (by omega)]
    simp only [bnd_some]
    rw [X_rungAfter hhr hh (by omega) (by omega)]
    simp only [bnd_some]
    rw [X_cw kn n2 (by omega) nb' (by omega)]
    simp only [bnd_some]
  · unfold p_X8_buy
    rw [M_isSort hw h1, if_pos c1]
    simp only [bnd_some, zm0t, zm1n, if_true, if_false]
    rw [M_isRung hw h2 h5, if_pos c2]
    simp only [bnd_some, zm0t, zm1n, if_true, if_false]
    rw [M_isWhen h3 h4, if_pos c3]
    simp only [bnd_some, zm0t, zm1n, if_true, if_false]
    rw [M_wi h6 ⟨by decide, by decide⟩ ⟨by decide, by decide⟩, if_pos c4]
    simp only [bnd_some, zm0t, zm1n, if_true, if_false]
    rw [e]
    simp only [bnd_some]
    rw [M_nextOf hh (by omega) (by omega)]
    simp only [bnd_some]
    rw [M_nextOf hh (by omega) (by omega)]
    simp only [bnd_some]
    rw [zm_eq (a := 10 * (a4 + 1) + nxt τ' a2 a5 a6) (by omega) (by omega), gd_pos (by omega), zm_eq (a := 10 * (a4 + 1) + nxt τ' a2 a5 (a6 - 1)) (by omega) (by omega), gd_pos (by omega), w.2.2.2.2.1 (a4 + 1) _ nb.1 nb.2 (by omega) (by omega), w.2.2.2.2.1 (a4 + 1) _ nb'.1 nb'.2 (by omega) (by omega), hq]
theorem ok_leave {a1 a2 a3 a4 : Int} (h1 : i32 a1) (h2 : i32 a2) (h3 : i32 a3) (h4 : i32 a4) : StepOK Inv (p_X7_leave a1 a2 a3 a4) (p_X8_leave a1 a2 a3 a4) := fun σ τ hI => by
  have hw := hI.2.1
  have h4' := h4
  by_cases hq0 : i32 (1 - a2)
  rotate_left
  · have nc : ¬ cG τ a2 a4 := fun q => hq0 ⟨by have := q.1.1; omega, by have := q.1.1; omega⟩
    by_cases c1 : cS τ a1
    · refine st_eq (a := -1000000001) ?_ ?_ hI
      · unfold p_X7_leave
        rw [X_isSort hw h1, if_pos c1]
        simp only [bnd_some, zm0t, zm1n, if_true, if_false]
        rw [X_isRung hw h2 h4, if_neg nc]
        simp only [bnd_some, zm0t, zm1n, if_true, if_false]
      · unfold p_X8_leave
        rw [M_isSort hw h1, if_pos c1]
        simp only [bnd_some, zm0t, zm1n, if_true, if_false]
        rw [M_isRung hw h2 h4, if_neg nc]
        simp only [bnd_some, zm0t, zm1n, if_true, if_false]
    · refine st_eq (a := -1000000001) ?_ ?_ hI
      · unfold p_X7_leave
        rw [X_isSort hw h1, if_neg c1]
        simp only [bnd_some, zm0t, zm1n, if_true, if_false]
      · unfold p_X8_leave
        rw [M_isSort hw h1, if_neg c1]
        simp only [bnd_some, zm0t, zm1n, if_true, if_false]
  have hq := hq0
  by_cases c1 : cS τ a1
  rotate_left
  · refine st_eq (a := -1000000001) ?_ ?_ hI
    · unfold p_X7_leave
      rw [X_isSort hw h1, if_neg c1]
      simp only [bnd_some, zm0t, zm1n, if_true, if_false]
    · unfold p_X8_leave
      rw [M_isSort hw h1, if_neg c1]
      simp only [bnd_some, zm0t, zm1n, if_true, if_false]
  by_cases c2 : cG τ a2 a4
  rotate_left
  · refine st_eq (a := -1000000001) ?_ ?_ hI
    · unfold p_X7_leave
      rw [X_isSort hw h1, if_pos c1]
      simp only [bnd_some, zm0t, zm1n, if_true, if_false]
      rw [X_isRung hw h2 h4, if_neg c2]
      simp only [bnd_some, zm0t, zm1n, if_true, if_false]
    · unfold p_X8_leave
      rw [M_isSort hw h1, if_pos c1]
      simp only [bnd_some, zm0t, zm1n, if_true, if_false]
      rw [M_isRung hw h2 h4, if_neg c2]
      simp only [bnd_some, zm0t, zm1n, if_true, if_false]
  by_cases c3 : cH τ (1 - a2)
  rotate_left
  · refine st_eq (a := -1000000001) ?_ ?_ hI
    · unfold p_X7_leave
      rw [X_isSort hw h1, if_pos c1]
      simp only [bnd_some, zm0t, zm1n, if_true, if_false]
      rw [X_isRung hw h2 h4, if_pos c2]
      simp only [bnd_some, zm0t, zm1n, if_true, if_false]
      rw [X_isHouse hw hq, if_neg c3]
      simp only [bnd_some, zm0t, zm1n, if_true, if_false]
    · unfold p_X8_leave
      rw [M_isSort hw h1, if_pos c1]
      simp only [bnd_some, zm0t, zm1n, if_true, if_false]
      rw [M_isRung hw h2 h4, if_pos c2]
      simp only [bnd_some, zm0t, zm1n, if_true, if_false]
      rw [M_isHouse hw hq, if_neg c3]
      simp only [bnd_some, zm0t, zm1n, if_true, if_false]
  by_cases c4 : 1 ≤ a3 ∧ a3 ≤ 30
  rotate_left
  · refine st_eq (a := -1000000002) ?_ ?_ hI
    · unfold p_X7_leave
      rw [X_isSort hw h1, if_pos c1]
      simp only [bnd_some, zm0t, zm1n, if_true, if_false]
      rw [X_isRung hw h2 h4, if_pos c2]
      simp only [bnd_some, zm0t, zm1n, if_true, if_false]
      rw [X_isHouse hw hq, if_pos c3]
      simp only [bnd_some, zm0t, zm1n, if_true, if_false]
      rw [X_isOut h3 ⟨by decide, by decide⟩ ⟨by decide, by decide⟩, if_neg c4]
      simp only [bnd_some, zm0t, zm1n, if_true, if_false]
    · unfold p_X8_leave
      rw [M_isSort hw h1, if_pos c1]
      simp only [bnd_some, zm0t, zm1n, if_true, if_false]
      rw [M_isRung hw h2 h4, if_pos c2]
      simp only [bnd_some, zm0t, zm1n, if_true, if_false]
      rw [M_isHouse hw hq, if_pos c3]
      simp only [bnd_some, zm0t, zm1n, if_true, if_false]
      rw [M_isTime h3, if_neg c4]
      simp only [bnd_some, zm0t, zm1n, if_true, if_false]
  obtain ⟨τ1, e1, o1, w1, hI1, cs1, ch1, _⟩ := M_wk hI c1 c2.1 (Or.inl rfl) c4
  have c3' : cH τ1 (1 - a2) := by unfold cH; rw [o1.1 1 (by decide) (by decide) (by decide)]; exact c3
  obtain ⟨τ', e, o, w, hI', cs, chj, _⟩ := M_wk hI1 cs1 c3' (Or.inl rfl) c4
  have t1 : τ' 1 = τ 1 := by rw [o.1 1 (by decide) (by decide) (by decide), o1.1 1 (by decide) (by decide) (by decide)]
  have ch : cH τ' a2 := by unfold cH; rw [t1]; exact c2.1
  obtain ⟨σ1, x1, f1, hI2, hc1, n, n1, n2, kn⟩ := X_planOf hI' cs chj (Y := a3) (by omega)
  obtain ⟨σ2, x2, f2, hI3, hc2, n', n1', n2', kn'⟩ := X_planOf hI2 cs ch (Y := a3) (by omega)
  have ta : τ' 1 a2 = τ 1 a2 := by rw [t1]
  have tb : τ' 1 (1 - a2) = τ 1 (1 - a2) := by rw [t1]
  have h10 := hw.rg c2.1.1.1 c2.1.1.2
  have g3 := c3.1
  have g3' := c3.2
  have h10' := hw.rg g3.1 g3.2
  have q4 := hw.1
  have g2 := c2.2
  have g1 := c2.1.1
  have t7 : τ' 7 = τ 7 := by rw [o.1 7 (by decide) (by decide) (by decide), o1.1 7 (by decide) (by decide) (by decide)]
  obtain ⟨hhr, hh⟩ := hw.hr c3
  have he := hh.2.2.2.2.2.2
  have hhr6 := hhr.2.2.2.2.2.2.1
  have ta1 : τ1 1 a2 = τ 1 a2 := by rw [o1.1 1 (by decide) (by decide) (by decide)]
  have v1 : τ1 16 a4 = cst τ' a1 a2 (-1) a3.toNat a4 := by
    have q := w1.2.2.2.2.1 0 a4 (by omega) (by omega) (by omega) (by omega)
    rw [show (10 : Int) * 0 + a4 = a4 by omega, show a3 - 0 = a3 by omega] at q
    rw [q, cst_c o.T]
  have b1 := cst_b (ru := -1) (n := a3) hc2.2.2.2.1 hc2.2.2.2.2.1 (by omega) a4 (by omega) (by omega)
  have b2 := cst_b (ru := -1) (n := a3) hc1.2.2.2.1 hc1.2.2.2.2.1 (by omega)
  obtain ⟨z, hz⟩ : ∃ z, z = (if τ 7 (1 - a2) < a4 then τ 7 (1 - a2) else a4) := ⟨_, rfl⟩
  have zb : 0 ≤ z ∧ z < τ' 1 (1 - a2) := by
    rw [hz]
    by_cases q : τ 7 (1 - a2) < a4
    · rw [if_pos q]; omega
    · rw [if_neg q]; omega
  have b3 := b2 z zb.1 zb.2
  have v2 : τ' 16 z = cst τ' a1 (1 - a2) (-1) a3.toNat z := by
    have q := w.2.2.2.2.1 0 z (by omega) (by omega) (by omega) (by omega)
    rw [show (10 : Int) * 0 + z = z by omega, show a3 - 0 = a3 by omega] at q
    exact q
  refine st_eq (a := if cst τ' a1 a2 (-1) a3.toNat a4 ≤ cst τ' a1 (1 - a2) (-1) a3.toNat z then 0 else 1) ?_ ?_ hI3
  · unfold p_X7_leave
    rw [X_isSort hw h1, if_pos c1]
    simp only [bnd_some, zm0t, zm1n, if_true, if_false]
    rw [X_isRung hw h2 h4, if_pos c2]
    simp only [bnd_some, zm0t, zm1n, if_true, if_false]
    rw [X_isHouse hw hq, if_pos c3]
    simp only [bnd_some, zm0t, zm1n, if_true, if_false]
    rw [X_isOut h3 ⟨by decide, by decide⟩ ⟨by decide, by decide⟩, if_pos c4]
    simp only [bnd_some, zm0t, zm1n, if_true, if_false]
    rw [zm_eq (a := 1 - a2) (by omega) (by omega), gd_pos (by omega), hhr6, zm_eq (a := τ 7 (1 - a2)) (by omega) (by omega), zm_i h4', ← hz]
    simp only [nz]
    rw [x1]
    simp only [bnd_some]
    rw [gd_pos hc1.1, X_cw kn n2 (by omega) zb (by omega)]
    simp only [bnd_some]
    rw [x2]
    simp only [bnd_some]
    rw [gd_pos hc2.1, X_cw kn' n2' (by omega) (by omega) (by omega)]
    simp only [bnd_some]
    rw [zm_eq (a := cst τ' a1 a2 (-1) a3.toNat a4) (by omega) (by omega), zm_eq (a := cst τ' a1 (1 - a2) (-1) a3.toNat z) (by omega) (by omega)]
    by_cases q : cst τ' a1 a2 (-1) a3.toNat a4 ≤ cst τ' a1 (1 - a2) (-1) a3.toNat z
    · rw [if_pos q, if_pos q]
    · rw [if_neg q, if_neg q]
  · unfold p_X8_leave
    rw [M_isSort hw h1, if_pos c1]
    simp only [bnd_some, zm0t, zm1n, if_true, if_false]
    rw [M_isRung hw h2 h4, if_pos c2]
    simp only [bnd_some, zm0t, zm1n, if_true, if_false]
    rw [M_isHouse hw hq, if_pos c3]
    simp only [bnd_some, zm0t, zm1n, if_true, if_false]
    rw [M_isTime h3, if_pos c4]
    simp only [bnd_some, zm0t, zm1n, if_true, if_false]
    rw [e1]
    simp only [bnd_some]
    rw [e]
    simp only [bnd_some]
    have em : ∀ u : Int, u = z → p_X8_leave_98 (τ1 16 a4) 16 u τ' = some ((if cst τ' a1 a2 (-1) a3.toNat a4 ≤ cst τ' a1 (1 - a2) (-1) a3.toNat z then 0 else 1), τ') := fun u hu => by
      unfold p_X8_leave_98
      rw [hu, zm_eq (a := z) (by omega) (by omega), gd_pos (by omega), v1, v2, zm_eq (a := cst τ' a1 a2 (-1) a3.toNat a4) (by omega) (by omega), zm_eq (a := cst τ' a1 (1 - a2) (-1) a3.toNat z) (by omega) (by omega)]
      by_cases q : cst τ' a1 a2 (-1) a3.toNat a4 ≤ cst τ' a1 (1 - a2) (-1) a3.toNat z
      · rw [if_pos q, if_pos q]
      · rw [if_neg q, if_neg q]
    rw [zm_i h4', gd_pos (by omega), zm_eq (a := 1 - a2) (by omega) (by omega), gd_pos (by omega), t7, zm_eq (a := τ 7 (1 - a2)) (by omega) (by omega)]
    by_cases q : τ 7 (1 - a2) ≤ a4
    · rw [if_pos q]
      refine em _ ?_
      rw [hz]
      by_cases q' : τ 7 (1 - a2) < a4
      · rw [if_pos q']
      · rw [if_neg q']; omega
    · rw [if_neg q]
      exact em _ (by rw [hz, if_neg (by omega)])
theorem ok_pad {a1 a2 a3 a4 a5 a6 a7 a8 a9 : Int} (h1 : i32 a1) (h2 : i32 a2) (h3 : i32 a3) (h4 : i32 a4) (h5 : i32 a5) (h6 : i32 a6) (h7 : i32 a7) (h8 : i32 a8) (h9 : i32 a9) : StepOK Inv (p_X7_pad a1 a2 a3 a4 a5 a6 a7 a8 a9) (p_X8_pad a1 a2 a3 a4 a5 a6 a7 a8 a9) := fun σ τ hI => by
  have hw := hI.2.1
  by_cases c1 : cS τ a1
  rotate_left
  · refine st_eq (a := -1000000001) ?_ ?_ hI
    · unfold p_X7_pad
      rw [X_isSort hw h1, if_neg c1]
      simp only [bnd_some, zm0t, zm1n, if_true, if_false]
    · unfold p_X8_pad
      rw [M_isSort hw h1, if_neg c1]
      simp only [bnd_some, zm0t, zm1n, if_true, if_false]
  by_cases c2 : cG τ a2 a4
  rotate_left
  · refine st_eq (a := -1000000001) ?_ ?_ hI
    · unfold p_X7_pad
      rw [X_isSort hw h1, if_pos c1]
      simp only [bnd_some, zm0t, zm1n, if_true, if_false]
      rw [X_isRung hw h2 h4, if_neg c2]
      simp only [bnd_some, zm0t, zm1n, if_true, if_false]
    · unfold p_X8_pad
      rw [M_isSort hw h1, if_pos c1]
      simp only [bnd_some, zm0t, zm1n, if_true, if_false]
      rw [M_isRung hw h2 h4, if_neg c2]
      simp only [bnd_some, zm0t, zm1n, if_true, if_false]
  by_cases c3 : 1 ≤ a3 ∧ a3 ≤ 30
  rotate_left
  · refine st_eq (a := -1000000002) ?_ ?_ hI
    · unfold p_X7_pad
      rw [X_isSort hw h1, if_pos c1]
      simp only [bnd_some, zm0t, zm1n, if_true, if_false]
      rw [X_isRung hw h2 h4, if_pos c2]
      simp only [bnd_some, zm0t, zm1n, if_true, if_false]
      rw [X_isOut h3 ⟨by decide, by decide⟩ ⟨by decide, by decide⟩, if_neg c3]
      simp only [bnd_some, zm0t, zm1n, if_true, if_false]
    · unfold p_X8_pad
      rw [M_isSort hw h1, if_pos c1]
      simp only [bnd_some, zm0t, zm1n, if_true, if_false]
      rw [M_isRung hw h2 h4, if_pos c2]
      simp only [bnd_some, zm0t, zm1n, if_true, if_false]
      rw [M_isTime h3, if_neg c3]
      simp only [bnd_some, zm0t, zm1n, if_true, if_false]
  by_cases c4 : 0 ≤ a5 ∧ a5 ≤ 11
  rotate_left
  · refine st_eq (a := -1000000002) ?_ ?_ hI
    · unfold p_X7_pad
      rw [X_isSort hw h1, if_pos c1]
      simp only [bnd_some, zm0t, zm1n, if_true, if_false]
      rw [X_isRung hw h2 h4, if_pos c2]
      simp only [bnd_some, zm0t, zm1n, if_true, if_false]
      rw [X_isOut h3 ⟨by decide, by decide⟩ ⟨by decide, by decide⟩, if_pos c3]
      simp only [bnd_some, zm0t, zm1n, if_true, if_false]
      rw [X_isOut h5 ⟨by decide, by decide⟩ ⟨by decide, by decide⟩, if_neg c4]
      simp only [bnd_some, zm0t, zm1n, if_true, if_false]
    · unfold p_X8_pad
      rw [M_isSort hw h1, if_pos c1]
      simp only [bnd_some, zm0t, zm1n, if_true, if_false]
      rw [M_isRung hw h2 h4, if_pos c2]
      simp only [bnd_some, zm0t, zm1n, if_true, if_false]
      rw [M_isTime h3, if_pos c3]
      simp only [bnd_some, zm0t, zm1n, if_true, if_false]
      rw [M_wi h5 ⟨by decide, by decide⟩ ⟨by decide, by decide⟩, if_neg c4]
      simp only [bnd_some, zm0t, zm1n, if_true, if_false]
  by_cases c5 : 0 ≤ a6 ∧ a6 ≤ 3
  rotate_left
  · refine st_eq (a := -1000000002) ?_ ?_ hI
    · unfold p_X7_pad
      rw [X_isSort hw h1, if_pos c1]
      simp only [bnd_some, zm0t, zm1n, if_true, if_false]
      rw [X_isRung hw h2 h4, if_pos c2]
      simp only [bnd_some, zm0t, zm1n, if_true, if_false]
      rw [X_isOut h3 ⟨by decide, by decide⟩ ⟨by decide, by decide⟩, if_pos c3]
      simp only [bnd_some, zm0t, zm1n, if_true, if_false]
      rw [X_isOut h5 ⟨by decide, by decide⟩ ⟨by decide, by decide⟩, if_pos c4]
      simp only [bnd_some, zm0t, zm1n, if_true, if_false]
      rw [X_isOut h6 ⟨by decide, by decide⟩ ⟨by decide, by decide⟩, if_neg c5]
      simp only [bnd_some, zm0t, zm1n, if_true, if_false]
    · unfold p_X8_pad
      rw [M_isSort hw h1, if_pos c1]
      simp only [bnd_some, zm0t, zm1n, if_true, if_false]
      rw [M_isRung hw h2 h4, if_pos c2]
      simp only [bnd_some, zm0t, zm1n, if_true, if_false]
      rw [M_isTime h3, if_pos c3]
      simp only [bnd_some, zm0t, zm1n, if_true, if_false]
      rw [M_wi h5 ⟨by decide, by decide⟩ ⟨by decide, by decide⟩, if_pos c4]
      simp only [bnd_some, zm0t, zm1n, if_true, if_false]
      rw [M_wi h6 ⟨by decide, by decide⟩ ⟨by decide, by decide⟩, if_neg c5]
      simp only [bnd_some, zm0t, zm1n, if_true, if_false]
  by_cases c6 : 1 ≤ a7 ∧ a7 ≤ 999
  rotate_left
  · refine st_eq (a := -1000000002) ?_ ?_ hI
    · unfold p_X7_pad
      rw [X_isSort hw h1, if_pos c1]
      simp only [bnd_some, zm0t, zm1n, if_true, if_false]
      rw [X_isRung hw h2 h4, if_pos c2]
      simp only [bnd_some, zm0t, zm1n, if_true, if_false]
      rw [X_isOut h3 ⟨by decide, by decide⟩ ⟨by decide, by decide⟩, if_pos c3]
      simp only [bnd_some, zm0t, zm1n, if_true, if_false]
      rw [X_isOut h5 ⟨by decide, by decide⟩ ⟨by decide, by decide⟩, if_pos c4]
      simp only [bnd_some, zm0t, zm1n, if_true, if_false]
      rw [X_isOut h6 ⟨by decide, by decide⟩ ⟨by decide, by decide⟩, if_pos c5]
      simp only [bnd_some, zm0t, zm1n, if_true, if_false]
      rw [X_isOut h7 ⟨by decide, by decide⟩ ⟨by decide, by decide⟩, if_neg c6]
      simp only [bnd_some, zm0t, zm1n, if_true, if_false]
    · unfold p_X8_pad
      rw [M_isSort hw h1, if_pos c1]
      simp only [bnd_some, zm0t, zm1n, if_true, if_false]
      rw [M_isRung hw h2 h4, if_pos c2]
      simp only [bnd_some, zm0t, zm1n, if_true, if_false]
      rw [M_isTime h3, if_pos c3]
      simp only [bnd_some, zm0t, zm1n, if_true, if_false]
      rw [M_wi h5 ⟨by decide, by decide⟩ ⟨by decide, by decide⟩, if_pos c4]
      simp only [bnd_some, zm0t, zm1n, if_true, if_false]
      rw [M_wi h6 ⟨by decide, by decide⟩ ⟨by decide, by decide⟩, if_pos c5]
      simp only [bnd_some, zm0t, zm1n, if_true, if_false]
      rw [M_wi h7 ⟨by decide, by decide⟩ ⟨by decide, by decide⟩, if_neg c6]
      simp only [bnd_some, zm0t, zm1n, if_true, if_false]
  by_cases c7 : 0 ≤ a8 ∧ a8 ≤ 999
  rotate_left
  · refine st_eq (a := -1000000002) ?_ ?_ hI
    · unfold p_X7_pad
      rw [X_isSort hw h1, if_pos c1]
      simp only [bnd_some, zm0t, zm1n, if_true, if_false]
      rw [X_isRung hw h2 h4, if_pos c2]
      simp only [bnd_some, zm0t, zm1n, if_true, if_false]
      rw [X_isOut h3 ⟨by decide, by decide⟩ ⟨by decide, by decide⟩, if_pos c3]
      simp only [bnd_some, zm0t, zm1n, if_true, if_false]
      rw [X_isOut h5 ⟨by decide, by decide⟩ ⟨by decide, by decide⟩, if_pos c4]
      simp only [bnd_some, zm0t, zm1n, if_true, if_false]
      rw [X_isOut h6 ⟨by decide, by decide⟩ ⟨by decide, by decide⟩, if_pos c5]
      simp only [bnd_some, zm0t, zm1n, if_true, if_false]
      rw [X_isOut h7 ⟨by decide, by decide⟩ ⟨by decide, by decide⟩, if_pos c6]
      simp only [bnd_some, zm0t, zm1n, if_true, if_false]
      rw [X_isOut h8 ⟨by decide, by decide⟩ ⟨by decide, by decide⟩, if_neg c7]
      simp only [bnd_some, zm0t, zm1n, if_true, if_false]
    · unfold p_X8_pad
      rw [M_isSort hw h1, if_pos c1]
      simp only [bnd_some, zm0t, zm1n, if_true, if_false]
      rw [M_isRung hw h2 h4, if_pos c2]
      simp only [bnd_some, zm0t, zm1n, if_true, if_false]
      rw [M_isTime h3, if_pos c3]
      simp only [bnd_some, zm0t, zm1n, if_true, if_false]
      rw [M_wi h5 ⟨by decide, by decide⟩ ⟨by decide, by decide⟩, if_pos c4]
      simp only [bnd_some, zm0t, zm1n, if_true, if_false]
      rw [M_wi h6 ⟨by decide, by decide⟩ ⟨by decide, by decide⟩, if_pos c5]
      simp only [bnd_some, zm0t, zm1n, if_true, if_false]
      rw [M_wi h7 ⟨by decide, by decide⟩ ⟨by decide, by decide⟩, if_pos c6]
      simp only [bnd_some, zm0t, zm1n, if_true, if_false]
      rw [M_wi h8 ⟨by decide, by decide⟩ ⟨by decide, by decide⟩, if_neg c7]
      simp only [bnd_some, zm0t, zm1n, if_true, if_false]
  by_cases c8 : 0 ≤ a9 ∧ a9 ≤ 100
  rotate_left
  · refine st_eq (a := -1000000002) ?_ ?_ hI
    · unfold p_X7_pad
      rw [X_isSort hw h1, if_pos c1]
      simp only [bnd_some, zm0t, zm1n, if_true, if_false]
      rw [X_isRung hw h2 h4, if_pos c2]
      simp only [bnd_some, zm0t, zm1n, if_true, if_false]
      rw [X_isOut h3 ⟨by decide, by decide⟩ ⟨by decide, by decide⟩, if_pos c3]
      simp only [bnd_some, zm0t, zm1n, if_true, if_false]
      rw [X_isOut h5 ⟨by decide, by decide⟩ ⟨by decide, by decide⟩, if_pos c4]
      simp only [bnd_some, zm0t, zm1n, if_true, if_false]
      rw [X_isOut h6 ⟨by decide, by decide⟩ ⟨by decide, by decide⟩, if_pos c5]
      simp only [bnd_some, zm0t, zm1n, if_true, if_false]
      rw [X_isOut h7 ⟨by decide, by decide⟩ ⟨by decide, by decide⟩, if_pos c6]
      simp only [bnd_some, zm0t, zm1n, if_true, if_false]
      rw [X_isOut h8 ⟨by decide, by decide⟩ ⟨by decide, by decide⟩, if_pos c7]
      simp only [bnd_some, zm0t, zm1n, if_true, if_false]
      rw [X_isOut h9 ⟨by decide, by decide⟩ ⟨by decide, by decide⟩, if_neg c8]
      simp only [bnd_some, zm0t, zm1n, if_true, if_false]
    · unfold p_X8_pad
      rw [M_isSort hw h1, if_pos c1]
      simp only [bnd_some, zm0t, zm1n, if_true, if_false]
      rw [M_isRung hw h2 h4, if_pos c2]
      simp only [bnd_some, zm0t, zm1n, if_true, if_false]
      rw [M_isTime h3, if_pos c3]
      simp only [bnd_some, zm0t, zm1n, if_true, if_false]
      rw [M_wi h5 ⟨by decide, by decide⟩ ⟨by decide, by decide⟩, if_pos c4]
      simp only [bnd_some, zm0t, zm1n, if_true, if_false]
      rw [M_wi h6 ⟨by decide, by decide⟩ ⟨by decide, by decide⟩, if_pos c5]
      simp only [bnd_some, zm0t, zm1n, if_true, if_false]
      rw [M_wi h7 ⟨by decide, by decide⟩ ⟨by decide, by decide⟩, if_pos c6]
      simp only [bnd_some, zm0t, zm1n, if_true, if_false]
      rw [M_wi h8 ⟨by decide, by decide⟩ ⟨by decide, by decide⟩, if_pos c7]
      simp only [bnd_some, zm0t, zm1n, if_true, if_false]
      rw [M_wi h9 ⟨by decide, by decide⟩ ⟨by decide, by decide⟩, if_neg c8]
      simp only [bnd_some, zm0t, zm1n, if_true, if_false]
  obtain ⟨τ', e, o, w, hI', cs, ch, _⟩ := M_wk hI c1 c2.1 (Or.inl rfl) c3
  obtain ⟨σ', x, fr, hI2, hc, n, n1, n2, kn⟩ := X_planOf hI' cs ch (Y := a3) (by omega)
  have t1 : τ' 1 a2 = τ 1 a2 := by rw [o.1 1 (by decide) (by decide) (by decide)]
  have h10 := hw.rg c2.1.1.1 c2.1.1.2
  have g2 := c2.2
  have g1 := c2.1.1
  have hs := hc.2.2.2.1
  have hh := hc.2.2.2.2.1
  have h44 := hs.1
  obtain ⟨σ2, y, oy⟩ := X_openYear (left := a3) (c := cst τ' a1 a2 (-1) (a3 - 1).toNat) hc (Or.inl rfl : (0 : Int) = 0 ∨ (0 : Int) = 1) (by omega : 0 ≤ a4 ∧ a4 < τ' 1 a2) (Int.le_refl 400000000) (cst_b hs hh (by omega)) (by omega) (fun r r0 r1 => kn.1 (a3 - 1) r (by omega) r0 r1 (by omega))
  have hI3 := hI2.oy (by omega) ch.1 oy
  have e3 : pEf τ' a1 0 = 0 := by unfold pEf; rw [if_pos rfl]
  rw [e3] at oy
  have mk := mo_bd c5
  have hin : ∀ k, 0 ≤ k → k ≤ 3 → ∃ I, gX σ2 (pO a1 a2) (a5 + 1) k = I ∧ τ' 17 (pl 0 0 a4 (a5 + 1) k) = I ∧ 0 ≤ I ∧ I ≤ 420000000 := fun k k0 k3 => by
    have q := inM_bd (p := 0) (ru := -1) (r := a4) hs hh (Or.inl rfl) (by omega) (cst_b (ru := -1) hs hh (n := a3 - 1) (by omega)) (12 - (a5 + 1)).toNat k k0 k3
    have e1 := oy.2.2.2.2.2.1 (a5 + 1) k (by omega) (by omega) k0 k3
    have e2 := w.2.2.2.2.2 0 a4 0 (a5 + 1) k (by omega) (by omega) (by omega) (by omega) (Or.inl rfl) (by omega) (by omega) k0 k3
    rw [show a3 - 0 - 1 = a3 - 1 by omega] at e2
    exact ⟨_, e1, e2, by omega, by omega⟩
  obtain ⟨I1, xe1, me1, ib1, ib1'⟩ := hin (mo a6) mk.1 mk.2
  obtain ⟨I2, xe2, me2, ib2, ib2'⟩ := hin 3 (by decide) (by decide)
  have hhr := (hI3.2.1.hr ch).1
  have bb := bea_bd (S := a7) hh (by omega)
  have pb1 := pl_bd (p := 0) (y := 0) (r := a4) (m := a5 + 1) (k := mo a6) (by decide) (by decide) (by omega) (by omega) mk
  have pb2 := pl_bd (p := 0) (y := 0) (r := a4) (m := a5 + 1) (k := 3) (by decide) (by decide) (by omega) (by omega) (by decide)
  refine st_eq (a := (zl ((((100 - a9) * a8) * 1000) - (a9 * ((a7 * 1000 + I2) - (bea τ' a2 a7 * 1000 + I1))))).tdiv 100) ?_ ?_ hI3
  · unfold p_X7_pad
    rw [X_isSort hw h1, if_pos c1]
    simp only [bnd_some, zm0t, zm1n, if_true, if_false]
    rw [X_isRung hw h2 h4, if_pos c2]
    simp only [bnd_some, zm0t, zm1n, if_true, if_false]
    rw [X_isOut h3 ⟨by decide, by decide⟩ ⟨by decide, by decide⟩, if_pos c3]
    simp only [bnd_some, zm0t, zm1n, if_true, if_false]
    rw [X_isOut h5 ⟨by decide, by decide⟩ ⟨by decide, by decide⟩, if_pos c4]
    simp only [bnd_some, zm0t, zm1n, if_true, if_false]
    rw [X_isOut h6 ⟨by decide, by decide⟩ ⟨by decide, by decide⟩, if_pos c5]
    simp only [bnd_some, zm0t, zm1n, if_true, if_false]
    rw [X_isOut h7 ⟨by decide, by decide⟩ ⟨by decide, by decide⟩, if_pos c6]
    simp only [bnd_some, zm0t, zm1n, if_true, if_false]
    rw [X_isOut h8 ⟨by decide, by decide⟩ ⟨by decide, by decide⟩, if_pos c7]
    simp only [bnd_some, zm0t, zm1n, if_true, if_false]
    rw [X_isOut h9 ⟨by decide, by decide⟩ ⟨by decide, by decide⟩, if_pos c8]
    simp only [bnd_some, zm0t, zm1n, if_true, if_false]
    rw [x]
    simp only [bnd_some]
    rw [gd_pos hc.1, y]
    simp only [bnd_some]
    rw [zm_i h2, gd_pos (by omega), X_bears hhr hh (by omega)]
    simp only [bnd_some]
    rw [X_oneMore c5]
    simp only [bnd_some]
    rw [X_inside (by omega) mk, xe1]
    simp only [bnd_some]
    rw [X_inside (by omega) (by decide), xe2]
    simp only [bnd_some]
    rw [zm_i h8, zm_i h9, zm_eq (a := a7 * 1000 + I2) (by omega) (by omega), zm_eq (a := bea τ' a2 a7 * 1000 + I1) (by omega) (by omega)]
  · unfold p_X8_pad
    rw [M_isSort hw h1, if_pos c1]
    simp only [bnd_some, zm0t, zm1n, if_true, if_false]
    rw [M_isRung hw h2 h4, if_pos c2]
    simp only [bnd_some, zm0t, zm1n, if_true, if_false]
    rw [M_isTime h3, if_pos c3]
    simp only [bnd_some, zm0t, zm1n, if_true, if_false]
    rw [M_wi h5 ⟨by decide, by decide⟩ ⟨by decide, by decide⟩, if_pos c4]
    simp only [bnd_some, zm0t, zm1n, if_true, if_false]
    rw [M_wi h6 ⟨by decide, by decide⟩ ⟨by decide, by decide⟩, if_pos c5]
    simp only [bnd_some, zm0t, zm1n, if_true, if_false]
    rw [M_wi h7 ⟨by decide, by decide⟩ ⟨by decide, by decide⟩, if_pos c6]
    simp only [bnd_some, zm0t, zm1n, if_true, if_false]
    rw [M_wi h8 ⟨by decide, by decide⟩ ⟨by decide, by decide⟩, if_pos c7]
    simp only [bnd_some, zm0t, zm1n, if_true, if_false]
    rw [M_wi h9 ⟨by decide, by decide⟩ ⟨by decide, by decide⟩, if_pos c8]
    simp only [bnd_some, zm0t, zm1n, if_true, if_false]
    rw [e]
    simp only [bnd_some]
    rw [M_bears w.1.2.1 hh (by omega)]
    simp only [bnd_some]
    rw [M_more c5]
    simp only [bnd_some]
    rw [M_place]
    simp only [bnd_some]
    rw [zm_eq (a := pl 0 0 a4 (a5 + 1) (mo a6)) (by omega) (by omega), gd_pos pb1, me1, M_place]
    simp only [nz]
    simp only [bnd_some]
    rw [zm_eq (a := pl 0 0 a4 (a5 + 1) 3) (by omega) (by omega), gd_pos pb2, me2, zm_i h7, zm_i h8, zm_i h9, zm_eq (a := I1) (by omega) (by omega), zm_eq (a := I2) (by omega) (by omega), zm_eq (a := bea τ' a2 a7) (by omega) (by omega), show (100 - a9) * (1000 * a8) = ((100 - a9) * a8) * 1000 by rw [Int.mul_comm 1000 a8, Int.mul_assoc], Int.mul_comm 1000 a7, Int.mul_comm 1000 (bea τ' a2 a7)]
