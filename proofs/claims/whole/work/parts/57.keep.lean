theorem ok_keep {a1 : Int} (h1 : i32 a1) : StepOK Inv (p_X7_keep a1) (p_X8_keep a1) := fun σ τ hI => by
  obtain ⟨m1, m2⟩ := hI.2.2.2.2
  by_cases d1 : 0 ≤ a1 ∧ a1 ≤ 1
  · obtain ⟨σ1, x1, x2, x3, x4, x5, x6⟩ := X_memCopy (σ := σ) (o0 := 139 + 6 * a1) (o1 := 16) (by omega) m1.2.2.1
    obtain ⟨σ2, e2, f2, g2, k2⟩ := su_ex σ1 (139 + 6 * a1) 8 1
    have ex : p_X7_keep a1 σ = some (1, σ2) := by
      unfold p_X7_keep
      rw [X_isOut h1 ⟨by decide, by decide⟩ ⟨by decide, by decide⟩, if_pos d1]
      simp only [bnd_some, zm0t, if_true]
      rw [zm_i h1, gd_pos (by omega), x1]
      simp only [bnd_some, nx, e2]
    obtain ⟨τ1, y1, z1, w1, k4⟩ := su_ex τ 29 (100 * a1) (τ 0 33)
    obtain ⟨τ2, y2, z2, w2, k5⟩ := su_ex τ1 29 (100 * a1 + 1) (τ1 0 42)
    obtain ⟨τ3, y3, z3, w3, k6⟩ := su_ex τ2 29 (100 * a1 + 2) (τ2 0 47)
    have hk : KP τ τ3 (100 * a1) 0 0 := by
      refine ⟨fun k hk => by rw [z3 k hk, z2 k hk, z1 k hk], fun j hj => by rw [k6 j (by omega), k5 j (by omega), k4 j (by omega)], ⟨by rw [k6 _ (by omega), k5 _ (by omega), w1], by rw [k6 _ (by omega), w2, z1 0 (by decide)], by rw [w3, z2 0 (by decide), z1 0 (by decide)]⟩, fun i i0 i1 => by omega, fun i i0 i1 => by omega⟩
    obtain ⟨τ4, q1, q2⟩ := M_kp54 (τ := τ) (v := a1) (by omega) 24 FU 0 τ3 (by omega) (by omega) (FU_gt (by omega)) hk
    obtain ⟨τ5, y5, z5, w5, k7⟩ := su_ex τ4 30 a1 1
    rw [y5] at q1
    have em : p_X8_keep a1 τ = some (1, τ5) := by
      unfold p_X8_keep
      rw [M_wi h1 ⟨by decide, by decide⟩ ⟨by decide, by decide⟩, if_pos d1]
      simp only [bnd_some, zm1n, if_false]
      rw [zm_eq (a := 100 * a1) (by omega) (by omega), gd_pos (by omega), y1]
      simp only [nx]
      rw [zm_eq (a := 100 * a1 + 1) (by omega) (by omega), gd_pos (by omega), y2, zm_eq (a := 100 * a1 + 2) (by omega) (by omega), gd_pos (by omega), y3]
      exact q1
    refine st_eq ex em ?_
    have wσ : ∀ k : Int, (k < 139 + 6 * a1 ∨ 139 + 6 * a1 + 5 < k) → σ2 k = σ k := fun k hk => by rw [f2 k (by omega), x2.1 k hk]
    have wτ : ∀ k : Int, k ≠ 29 → k ≠ 30 → τ5 k = τ k := fun k k0 k1 => by rw [z5 k k1, q2.1 k k0]
    have u29 : τ5 29 = τ4 29 := z5 29 (by decide)
    have t30 : τ4 30 = τ 30 := q2.1 30 (by decide)
    refine hI.mem (fun k hk => wσ k (by omega)) (fun k hk => wτ k (by omega) (by omega)) (fun j _ _ _ => by rw [wτ 0 (by decide) (by decide)]) ?_
    refine ⟨?_, fun v v0 v1 => ?_⟩
    · rw [wτ 0 (by decide) (by decide), wτ 18 (by decide) (by decide), wτ 19 (by decide) (by decide), wτ 20 (by decide) (by decide), wτ 25 (by decide) (by decide), wτ 26 (by decide) (by decide)]
      exact m1.fr (fun k k0 k1 => wσ k (by omega))
    · by_cases ev : v = a1
      · subst ev
        rw [g2, w5]
        refine ⟨rfl, Or.inr ⟨rfl, ?_⟩⟩
        have hm : MR σ1 (139 + 6 * v) (τ 0 33) (τ 0 42) (τ 0 47) (τ 18) (τ 19) (τ 20) (τ 25) (τ 26) := m1.cp x2 x3 x4 x5
        have hm2 : MR σ2 (139 + 6 * v) (τ 0 33) (τ 0 42) (τ 0 47) (τ 18) (τ 19) (τ 20) (τ 25) (τ 26) := by
          unfold MR
          rw [k2 3 (by decide), k2 6 (by decide), k2 7 (by decide), f2 (139 + 6 * v + 1) (by omega), f2 (139 + 6 * v + 2) (by omega), f2 (139 + 6 * v + 3) (by omega), f2 (139 + 6 * v + 4) (by omega), f2 (139 + 6 * v + 5) (by omega)]
          exact hm
        obtain ⟨_, _, ⟨r1, r2, r3⟩, r4, r5⟩ := q2
        rw [u29]
        have c1 := m1.1
        have c4 := m1.2.2.2.1
        refine hm2.ab r1 r2 r3 (fun i i0 i1 => ?_) (fun i i0 i1 => r5 i i0 (by omega))
        obtain ⟨s1, s2, s3⟩ := r4 i i0 (by omega)
        refine ⟨s1, s2, ?_⟩
        show τ4 29 (100 * v + 51 + i) = τ 20 i
        rw [s3]
        have b1 := (m1.2.1 i i0 i1).2.2.1
        have b2 := m1.2.2.1 i i0 (by omega)
        rw [b1] at b2
        rcases b2 with b2 | b2 <;> rw [b2]
        · rw [if_pos (by decide)]
        · rw [if_neg (by decide)]
      · obtain ⟨c1, c2⟩ := m2 v v0 v1
        have h30 : τ5 30 v = τ 30 v := by rw [k7 v ev, t30]
        rw [wσ (139 + 6 * v) (by omega), h30]
        refine ⟨c1, c2.imp id (fun c => ⟨c.1, ?_⟩)⟩
        have hj : ∀ j : Int, 100 * v ≤ j → j ≤ 100 * v + 99 → τ5 29 j = τ 29 j := fun j j0 j1 => by rw [u29, q2.2.1 j (by omega)]
        have b := c.2
        have b1 := b.1
        have b4 := b.2.2.2.1
        refine (b.fr (fun k k0 k1 => wσ k (by omega))).ab (hj _ (by omega) (by omega)) (hj _ (by omega) (by omega)) (hj _ (by omega) (by omega)) (fun i i0 i1 => ⟨hj _ (by omega) (by omega), hj _ (by omega) (by omega), hj _ (by omega) (by omega)⟩) (fun i i0 i1 => ⟨hj _ (by omega) (by omega), hj _ (by omega) (by omega)⟩)
  · refine st_eq (a := -1000000001) ?_ ?_ hI
    · unfold p_X7_keep
      rw [X_isOut h1 ⟨by decide, by decide⟩ ⟨by decide, by decide⟩, if_neg d1]
      simp only [bnd_some, zm1n, if_false]
    · unfold p_X8_keep
      rw [M_wi h1 ⟨by decide, by decide⟩ ⟨by decide, by decide⟩, if_neg d1]
      simp only [bnd_some, zm0t, if_true]
