def GB (τ τ' : St) (b a c : Int) : Prop := (∀ k : Int, k ≠ 0 → k ≠ 18 → k ≠ 19 → k ≠ 20 → k ≠ 25 → k ≠ 26 → τ' k = τ k) ∧ (τ' 0 33 = τ 29 b ∧ τ' 0 42 = τ 29 (b + 1) ∧ τ' 0 47 = τ 29 (b + 2) ∧ ∀ j : Int, j ≠ 33 → j ≠ 42 → j ≠ 47 → τ' 0 j = τ 0 j) ∧ (∀ i, 0 ≤ i → i < a → τ' 18 i = τ 29 (b + 3 + i) ∧ τ' 19 i = τ 29 (b + 27 + i) ∧ τ' 20 i = if zm (τ 29 (b + 51 + i)) = 1 then 1 else 0) ∧ (∀ i, 0 ≤ i → i < c → τ' 25 i = τ 29 (b + 75 + i) ∧ τ' 26 i = τ 29 (b + 83 + i))
theorem M_gb139 {τ : St} {v : Int} (hv : 0 ≤ v ∧ v < 2) : ∀ (d f : Nat) (i : Int) (τ' : St), i + d = 8 → 0 ≤ i → d < f → GB τ τ' (100 * v) 24 i → ∃ τ'', p_X8_goBack_139 f (100 * v) i τ' = some (1, τ'') ∧ GB τ τ'' (100 * v) 24 8 := by
  intro d
  induction d with
  | zero =>
    intro f i τ' hi i0 hf hc
    obtain ⟨f, rfl⟩ := Nat.exists_eq_succ_of_ne_zero (by omega : f ≠ 0)
    have e8 : i = 8 := by omega
    subst e8
    refine ⟨τ', ?_, hc⟩
    show p_X8_goBack_139b (p_X8_goBack_139 f) (100 * v) 8 τ' = _
    unfold p_X8_goBack_139b
    rw [zm_eq (a := 8) (by omega) (by omega), if_pos (by omega)]
  | succ d ih =>
    intro f i τ' hi i0 hf hc
    obtain ⟨f, rfl⟩ := Nat.exists_eq_succ_of_ne_zero (by omega : f ≠ 0)
    obtain ⟨τ1, e1, f1, g1, k1⟩ := su_ex τ' 25 i (τ' 29 (100 * v + 75 + i))
    obtain ⟨τ2, e2, f2, g2, k2⟩ := su_ex τ1 26 i (τ1 29 (100 * v + 83 + i))
    have w1 : τ' 29 = τ 29 := hc.1 29 (by decide) (by decide) (by decide) (by decide) (by decide) (by decide)
    have w2 : τ1 29 = τ 29 := (f1 29 (by decide)).trans w1
    have w : ∀ k : Int, k ≠ 25 → k ≠ 26 → τ2 k = τ' k := fun k h1 h2 => (f2 k h2).trans (f1 k h1)
    obtain ⟨τ3, q1, q2⟩ := ih f (i + 1) τ2 (by omega) (by omega) (by omega) ⟨fun k h1 h2 h3 h4 h5 h6 => by rw [w k h5 h6]; exact hc.1 k h1 h2 h3 h4 h5 h6, by rw [w 0 (by decide) (by decide)]; exact hc.2.1, by rw [w 18 (by decide) (by decide), w 19 (by decide) (by decide), w 20 (by decide) (by decide)]; exact hc.2.2.1, fun i' i0 i1 => by
      by_cases e : i' = i
      · subst e
        rw [f2 25 (by decide), g1, g2, w1, w2]; exact ⟨rfl, rfl⟩
      · rw [f2 25 (by decide), k1 i' e, k2 i' e, f1 26 (by decide)]
        exact hc.2.2.2 i' i0 (by omega)⟩
    refine ⟨τ3, ?_, q2⟩
    show p_X8_goBack_139b (p_X8_goBack_139 f) (100 * v) i τ' = _
    unfold p_X8_goBack_139b
    rw [zm_eq (a := i) (by omega) (by omega), if_neg (by omega), zm_eq (a := 100 * v + 75 + i) (by omega) (by omega), gd_pos (by omega), gd_pos (by omega), zm_eq (a := 100 * v + 83 + i) (by omega) (by omega)]
    simp only [nx, e1]
    rw [gd_pos (by omega), e2]
    exact q1
theorem M_gb66 {τ : St} {v : Int} (hv : 0 ≤ v ∧ v < 2) : ∀ (d f : Nat) (i : Int) (τ' : St), i + d = 24 → 0 ≤ i → d < f → GB τ τ' (100 * v) i 0 → ∃ τ'', p_X8_goBack_66 f (100 * v) i τ' = some (1, τ'') ∧ GB τ τ'' (100 * v) 24 8 := by
  intro d
  induction d with
  | zero =>
    intro f i τ' hi i0 hf hc
    obtain ⟨f, rfl⟩ := Nat.exists_eq_succ_of_ne_zero (by omega : f ≠ 0)
    have e8 : i = 24 := by omega
    subst e8
    obtain ⟨τ3, q1, q2⟩ := M_gb139 (τ := τ) hv 8 FU 0 τ' (by omega) (by omega) (FU_gt (by omega)) hc
    refine ⟨τ3, ?_, q2⟩
    show p_X8_goBack_66b (p_X8_goBack_66 f) (100 * v) 24 τ' = _
    unfold p_X8_goBack_66b
    rw [zm_eq (a := 24) (by omega) (by omega), if_pos (by omega)]
    exact q1
  | succ d ih =>
    intro f i τ' hi i0 hf hc
    obtain ⟨f, rfl⟩ := Nat.exists_eq_succ_of_ne_zero (by omega : f ≠ 0)
    obtain ⟨τ1, e1, f1, g1, k1⟩ := su_ex τ' 18 i (τ' 29 (100 * v + 3 + i))
    obtain ⟨τ2, e2, f2, g2, k2⟩ := su_ex τ1 19 i (τ1 29 (100 * v + 27 + i))
    obtain ⟨τ3, e3, f3, g3, k3⟩ := su_ex τ2 20 i (if zm (τ 29 (100 * v + 51 + i)) = 1 then 1 else 0)
    have w1 : τ' 29 = τ 29 := hc.1 29 (by decide) (by decide) (by decide) (by decide) (by decide) (by decide)
    have w2 : τ1 29 = τ 29 := (f1 29 (by decide)).trans w1
    have w3 : τ2 29 = τ 29 := (f2 29 (by decide)).trans w2
    have w : ∀ k : Int, k ≠ 18 → k ≠ 19 → k ≠ 20 → τ3 k = τ' k := fun k h1 h2 h3 => (f3 k h3).trans ((f2 k h2).trans (f1 k h1))
    obtain ⟨τ4, q1, q2⟩ := ih f (i + 1) τ3 (by omega) (by omega) (by omega) ⟨fun k h1 h2 h3 h4 h5 h6 => by rw [w k h2 h3 h4]; exact hc.1 k h1 h2 h3 h4 h5 h6, by rw [w 0 (by decide) (by decide) (by decide)]; exact hc.2.1, fun i' i0 i1 => by
      by_cases e : i' = i
      · subst e
        rw [f3 18 (by decide), f3 19 (by decide), f2 18 (by decide), g1, g2, g3, w1, w2]; exact ⟨rfl, rfl, rfl⟩
      · rw [f3 18 (by decide), f3 19 (by decide), f2 18 (by decide), k1 i' e, k2 i' e, k3 i' e, f1 19 (by decide), f2 20 (by decide), f1 20 (by decide)]
        exact hc.2.2.1 i' i0 (by omega), fun i' i0 i1 => by omega⟩
    refine ⟨τ4, ?_, q2⟩
    show p_X8_goBack_66b (p_X8_goBack_66 f) (100 * v) i τ' = _
    unfold p_X8_goBack_66b
    rw [zm_eq (a := i) (by omega) (by omega), if_neg (by omega), zm_eq (a := 100 * v + 3 + i) (by omega) (by omega), gd_pos (by omega), gd_pos (by omega), zm_eq (a := 100 * v + 27 + i) (by omega) (by omega)]
    simp only [nx, e1]
    rw [gd_pos (by omega), e2, zm_eq (a := 100 * v + 51 + i) (by omega) (by omega), gd_pos (by omega), w3]
    unfold p_X8_goBack_130
    rw [zm_eq (a := i) (by omega) (by omega), gd_pos (by omega), gd_pos (by omega), gd_pos (by omega), gd_pos (by omega)]
    simp only [nx]
    by_cases cz : zm (τ 29 (100 * v + 51 + i)) = 1
    · rw [if_pos cz] at e3 ⊢
      rw [e3]
      exact q1
    · rw [if_neg cz] at e3 ⊢
      rw [e3]
      exact q1
theorem ok_goBack {a1 : Int} (h1 : i32 a1) : StepOK Inv (p_X7_goBack a1) (p_X8_goBack a1) := fun σ τ hI => by
  obtain ⟨m1, m2⟩ := hI.2.2.2.2
  by_cases d1 : 0 ≤ a1 ∧ a1 ≤ 1
  · obtain ⟨c1, c2⟩ := m2 a1 d1.1 (by omega)
    rcases c2 with c2 | ⟨c2, c3⟩
    · refine st_eq (a := -1000000003) ?_ ?_ hI
      · unfold p_X7_goBack
        rw [X_isOut h1 ⟨by decide, by decide⟩ ⟨by decide, by decide⟩, if_pos d1]
        simp only [bnd_some, zm0t, if_true]
        rw [zm_i h1, gd_pos (by omega), c1, c2, if_pos (by decide)]
      · unfold p_X8_goBack
        rw [M_wi h1 ⟨by decide, by decide⟩ ⟨by decide, by decide⟩, if_pos d1]
        simp only [bnd_some, zm1n, if_false]
        rw [zm_i h1, gd_pos (by omega), c2, if_pos (by decide)]
    · obtain ⟨σ1, x1, x2, x3, x4, x5, x6⟩ := X_memCopy (σ := σ) (o0 := 16) (o1 := 139 + 6 * a1) (by omega) c3.2.2.1
      have ex : p_X7_goBack a1 σ = some (1, σ1) := by
        unfold p_X7_goBack
        rw [X_isOut h1 ⟨by decide, by decide⟩ ⟨by decide, by decide⟩, if_pos d1]
        simp only [bnd_some, zm0t, if_true]
        rw [zm_i h1, gd_pos (by omega), c1, c2, if_neg (by decide), x1]
        simp only [bnd_some]
      obtain ⟨τ1, y1, z1, w1, k4⟩ := su_ex τ 0 33 (τ 29 (100 * a1))
      obtain ⟨τ2, y2, z2, w2, k5⟩ := su_ex τ1 0 42 (τ1 29 (100 * a1 + 1))
      obtain ⟨τ3, y3, z3, w3, k6⟩ := su_ex τ2 0 47 (τ2 29 (100 * a1 + 2))
      have hk : GB τ τ3 (100 * a1) 0 0 := by
        refine ⟨fun k hk _ _ _ _ _ => by rw [z3 k hk, z2 k hk, z1 k hk], ⟨by rw [k6 _ (by decide), k5 _ (by decide), w1], by rw [k6 _ (by decide), w2, z1 29 (by decide)], by rw [w3, z2 29 (by decide), z1 29 (by decide)], fun j j1 j2 j3 => by rw [k6 j j3, k5 j j2, k4 j j1]⟩, fun i i0 i1 => by omega, fun i i0 i1 => by omega⟩
      obtain ⟨τ4, q1, q2⟩ := M_gb66 (τ := τ) (v := a1) (by omega) 24 FU 0 τ3 (by omega) (by omega) (FU_gt (by omega)) hk
      have em : p_X8_goBack a1 τ = some (1, τ4) := by
        unfold p_X8_goBack
        rw [M_wi h1 ⟨by decide, by decide⟩ ⟨by decide, by decide⟩, if_pos d1]
        simp only [bnd_some, zm1n, if_false]
        rw [zm_i h1, gd_pos (by omega), c2, if_neg (by decide), zm_eq (a := 100 * a1) (by omega) (by omega), gd_pos (by omega), y1]
        simp only [nx]
        rw [zm_eq (a := 100 * a1 + 1) (by omega) (by omega), gd_pos (by omega), y2, zm_eq (a := 100 * a1 + 2) (by omega) (by omega), gd_pos (by omega), y3]
        exact q1
      refine st_eq ex em ?_
      obtain ⟨r1, ⟨r2, r3, r4, r5⟩, r6, r7⟩ := q2
      refine hI.mem (fun k hk => x2.1 k (by omega)) (fun k hk => r1 k (by omega) (by omega) (by omega) (by omega) (by omega) (by omega)) r5 ?_
      have n1 := c3.1
      have n4 := c3.2.2.2.1
      refine ⟨?_, fun v v0 v1 => ?_⟩
      · refine (c3.cp x2 x3 x4 x5).ab r2 r3 r4 (fun i i0 i1 => ?_) (fun i i0 i1 => r7 i i0 (by omega))
        obtain ⟨s1, s2, s3⟩ := r6 i i0 (by omega)
        refine ⟨s1, s2, ?_⟩
        show τ4 20 i = τ 29 (100 * a1 + 51 + i)
        rw [s3]
        have b1 : σ (139 + 6 * a1 + 3) i = τ 29 (100 * a1 + 51 + i) := (c3.2.1 i i0 i1).2.2.1
        have b2 := c3.2.2.1 i i0 (by omega)
        rw [b1] at b2
        rcases b2 with b2 | b2 <;> rw [b2]
        · rw [if_neg (by decide)]
        · rw [if_pos (by decide)]
      · rw [r1 29 (by decide) (by decide) (by decide) (by decide) (by decide) (by decide), r1 30 (by decide) (by decide) (by decide) (by decide) (by decide) (by decide), x2.1 (139 + 6 * v) (by omega)]
        obtain ⟨c1, c2⟩ := m2 v v0 v1
        exact ⟨c1, c2.imp id (fun c => ⟨c.1, c.2.fr (fun k k0 k1 => x2.1 k (by omega))⟩)⟩
  · refine st_eq (a := -1000000001) ?_ ?_ hI
    · unfold p_X7_goBack
      rw [X_isOut h1 ⟨by decide, by decide⟩ ⟨by decide, by decide⟩, if_neg d1]
      simp only [bnd_some, zm1n, if_false]
    · unfold p_X8_goBack
      rw [M_wi h1 ⟨by decide, by decide⟩ ⟨by decide, by decide⟩, if_neg d1]
      simp only [bnd_some, zm0t, if_true]
