/-! the long run: the program -/
theorem c95 : (9 : Int) + 5 = 14 := rfl
theorem c94 : (9 : Int) + 4 = 13 := rfl
theorem c93 : (9 : Int) + 3 = 12 := rfl
theorem c92 : (9 : Int) + 2 = 11 := rfl
theorem c91 : (9 : Int) + 1 = 10 := rfl
/-- what a plan in hand tells of a month -/
def RP (σ : St) (o m : Int) (ca hb : Int → Int) : Prop := ∀ k, 0 ≤ k → k ≤ 3 → ∃ fa, σ (o + 4) (4 * m + k) = fa ∧ (0 ≤ fa ∧ fa ≤ 8) ∧ σ (o + 6) fa = ca k ∧ σ (o + 7) fa = hb k ∧ (0 ≤ ca k ∧ ca k ≤ 1000) ∧ (0 ≤ hb k ∧ hb k ≤ 1000000)
theorem RP.to {σ σ' : St} {o m : Int} {ca hb : Int → Int} (h : RP σ o m ca hb) (a4 : σ' (o + 4) = σ (o + 4)) (a6 : σ' (o + 6) = σ (o + 6)) (a7 : σ' (o + 7) = σ (o + 7)) : RP σ' o m ca hb := by
  unfold RP
  rw [a4, a6, a7]
  exact h
theorem X_pm_step {σ : St} {o m k v : Int} {ca hb : Int → Int} (h : RP σ o m ca hb) (hm : 0 ≤ m ∧ m ≤ 11) (hk : 0 ≤ k ∧ k ≤ 3) (n : Nat) : ∃ σ', p_X1_passMonth_5 (n + 1) 9 o m v k σ = p_X1_passMonth_5 n 9 o m (v + boX (σ 14) hb k) (k + (-1)) σ' ∧ (∀ q : Int, q ≠ 14 → σ' q = σ q) ∧ (k < 3 → σ' 14 k = σ 14 k - goX (σ 14) ca k ∧ σ' 14 (k + 1) = σ 14 (k + 1) + goX (σ 14) ca k) ∧ (∀ j : Int, j ≠ k → j ≠ k + 1 → σ' 14 j = σ 14 j) ∧ (k = 3 → σ' 14 3 = σ 14 3) := by
  obtain ⟨fa, hfa, fb, h6, h7, b6, b7⟩ := h k hk.1 hk.2
  have hmk := mo_bd hk
  obtain ⟨σ1, e1, a1, b1, c1⟩ := su_ex σ 14 k (σ 14 k - goX (σ 14) ca k)
  obtain ⟨σ2, e2, a2, b2, c2⟩ := su_ex σ1 14 (mo k) (σ1 14 (mo k) + goX (σ 14) ca k)
  refine ⟨σ2, ?_, fun q hq => by rw [a2 q hq, a1 q hq], fun q3 => ?_, fun j j1 j2 => ?_, fun q3 => ?_⟩
  · show p_X1_passMonth_5b (p_X1_passMonth_5 n) 9 o m v k σ = _
    unfold p_X1_passMonth_5b
    simp only [c95]
    rw [zm_eq (a := k) (by omega) (by omega), if_neg (by omega), gd_pos (by omega)]
    have e7 : p_X3_houseBears o m k σ = some (hb k, σ) := by
      unfold p_X3_houseBears
      rw [zm_eq (a := m * 4 + k) (by omega) (by omega), gd_pos (by omega), show m * 4 + k = 4 * m + k by omega, hfa, zm_eq (a := fa) (by omega) (by omega), gd_pos (by omega), h7]
    have e6 : p_X3_chanceAsked o m k σ = some (ca k, σ) := by
      unfold p_X3_chanceAsked
      rw [zm_eq (a := m * 4 + k) (by omega) (by omega), gd_pos (by omega), show m * 4 + k = 4 * m + k by omega, hfa, zm_eq (a := fa) (by omega) (by omega), gd_pos (by omega), h6]
    rw [e7]
    simp only [bnd_some]
    rw [e6]
    simp only [bnd_some]
    simp only [nz_eq, nx_eq]
    rw [zm_eq (a := hb k) (by omega) (by omega), zm_eq (a := ca k) (by omega) (by omega), show (zl (zm (σ 14 k) * ca k)).tdiv 1000 = goX (σ 14) ca k from rfl, show (zl (zm (σ 14 k) * hb k)).tdiv 1000000 = boX (σ 14) hb k from rfl, e1]
    rw [X_oneMore hk]
    simp only [bnd_some]
    rw [zm_eq (a := mo k) (by omega) (by omega), gd_pos (by omega), e2]
  · have hm1 : mo k = k + 1 := by unfold mo; rw [if_neg (by omega)]
    rw [hm1] at b2 c2
    exact ⟨(c2 k (by omega)).trans b1, by rw [b2, c1 _ (by omega)]⟩
  · by_cases q : k = 3
    · have hm1 : mo k = 3 := by unfold mo; rw [if_pos q]
      rw [hm1] at c2
      rw [c2 j (by omega), c1 j j1]
    · have hm1 : mo k = k + 1 := by unfold mo; rw [if_neg q]
      rw [hm1] at c2
      rw [c2 j j2, c1 j j1]
  · have hm1 : mo k = 3 := by unfold mo; rw [if_pos q3]
    rw [hm1] at b2
    subst q3
    rw [b2, b1]
    omega
theorem X_passMonth {σ : St} {o m : Int} {ca hb : Int → Int} (ho : 43 ≤ o) (h : RP σ o m ca hb) (hm : 0 ≤ m ∧ m ≤ 11) : ∃ σ', p_X1_passMonth 9 o m σ = some (mb (σ 14) hb, σ') ∧ (∀ q : Int, q ≠ 14 → σ' q = σ q) ∧ ∀ k, 0 ≤ k → k ≤ 3 → σ' 14 k = mq (σ 14) ca k := by
  obtain ⟨n, hn⟩ : ∃ n, FU = n + 5 := ⟨99995, rfl⟩
  obtain ⟨σ1, e1, a1, b1, c1, d1⟩ := X_pm_step (k := 3) (v := 0) h hm (by decide) (n + 4)
  have h1 : RP σ1 o m ca hb := h.to (a1 _ (by omega)) (a1 _ (by omega)) (a1 _ (by omega))
  obtain ⟨σ2, e2, a2, b2, c2, d2⟩ := X_pm_step (k := 2) (v := 0 + boX (σ 14) hb 3) h1 hm (by decide) (n + 3)
  have h2 : RP σ2 o m ca hb := h1.to (a2 _ (by omega)) (a2 _ (by omega)) (a2 _ (by omega))
  obtain ⟨σ3, e3, a3, b3, c3, d3⟩ := X_pm_step (k := 1) (v := 0 + boX (σ 14) hb 3 + boX (σ1 14) hb 2) h2 hm (by decide) (n + 2)
  have h3 : RP σ3 o m ca hb := h2.to (a3 _ (by omega)) (a3 _ (by omega)) (a3 _ (by omega))
  obtain ⟨σ4, e4, a4, b4, c4, d4⟩ := X_pm_step (k := 0) (v := 0 + boX (σ 14) hb 3 + boX (σ1 14) hb 2 + boX (σ2 14) hb 1) h3 hm (by decide) (n + 1)
  have s3 := d1 rfl
  have s2 : σ1 14 2 = σ 14 2 := c1 2 (by decide) (by decide)
  have s1 : σ2 14 1 = σ 14 1 := (c2 1 (by decide) (by decide)).trans (c1 1 (by decide) (by decide))
  have s0 : σ3 14 0 = σ 14 0 := (c3 0 (by decide) (by decide)).trans ((c2 0 (by decide) (by decide)).trans (c1 0 (by decide) (by decide)))
  have g2 : goX (σ1 14) ca 2 = goX (σ 14) ca 2 := goX_c s2 rfl
  have g1 : goX (σ2 14) ca 1 = goX (σ 14) ca 1 := goX_c s1 rfl
  have g0 : goX (σ3 14) ca 0 = goX (σ 14) ca 0 := goX_c s0 rfl
  have o2 : boX (σ1 14) hb 2 = boX (σ 14) hb 2 := boX_c s2 rfl
  have o1 : boX (σ2 14) hb 1 = boX (σ 14) hb 1 := boX_c s1 rfl
  have o0 : boX (σ3 14) hb 0 = boX (σ 14) hb 0 := boX_c s0 rfl
  obtain ⟨p2, p3⟩ := b2 (by decide)
  obtain ⟨p1, p2'⟩ := b3 (by decide)
  obtain ⟨p0, p1'⟩ := b4 (by decide)
  have u3 : σ2 14 3 = σ1 14 3 + goX (σ1 14) ca 2 := p3
  have u2 : σ3 14 2 = σ2 14 2 + goX (σ2 14) ca 1 := p2'
  have u1 : σ4 14 1 = σ3 14 1 + goX (σ3 14) ca 0 := p1'
  have w3 : σ4 14 3 = σ2 14 3 := (c4 3 (by decide) (by decide)).trans (c3 3 (by decide) (by decide))
  have w2 : σ4 14 2 = σ3 14 2 := c4 2 (by decide) (by decide)
  refine ⟨σ4, ?_, fun q hq => by rw [a4 q hq, a3 q hq, a2 q hq, a1 q hq], fun k k0 k3 => ?_⟩
  · unfold p_X1_passMonth
    rw [hn]
    refine e1.trans ?_
    refine e2.trans ?_
    refine e3.trans ?_
    refine e4.trans ?_
    show p_X1_passMonth_5b (p_X1_passMonth_5 n) 9 o m _ (0 + (-1)) σ4 = _
    unfold p_X1_passMonth_5b
    rw [zm_eq (a := 0 + (-1)) (by decide) (by decide), if_pos (by decide), o2, o1, o0]
    unfold mb
    rw [show 0 + boX (σ 14) hb 3 + boX (σ 14) hb 2 + boX (σ 14) hb 1 + boX (σ 14) hb 0 = boX (σ 14) hb 0 + boX (σ 14) hb 1 + boX (σ 14) hb 2 + boX (σ 14) hb 3 by omega]
  · rcases (by omega : k = 0 ∨ k = 1 ∨ k = 2 ∨ k = 3) with rfl | rfl | rfl | rfl
    · show σ4 14 0 = σ 14 0 - goX (σ 14) ca 0
      omega
    · show σ4 14 1 = σ 14 1 - goX (σ 14) ca 1 + goX (σ 14) ca 0
      omega
    · show σ4 14 2 = σ 14 2 - goX (σ 14) ca 2 + goX (σ 14) ca 1
      omega
    · show σ4 14 3 = σ 14 3 + goX (σ 14) ca 2
      omega
/-- the year's months -/
theorem X_rr72 {o r : Int} {ca hb : Int → Int → Int} (ho : 43 ≤ o) (hr : 0 ≤ r ∧ r < 10) : ∀ (d f m : Nat) (σ : St), m + d = 12 → d < f → (∀ m, 0 ≤ m → m ≤ 11 → RP σ o m (ca m) (hb m)) → (∀ k, 0 ≤ k → k ≤ 3 → σ 14 k = yq ca m k) → σ 13 r = yb ca hb m → ∃ σ', p_X1_reckonRung_72 f 9 o r m σ = p_X1_reckonRung_104 FU 9 r 0 σ' ∧ (∀ q : Int, q ≠ 13 → q ≠ 14 → σ' q = σ q) ∧ (∀ j, j ≠ r → σ' 13 j = σ 13 j) ∧ (∀ k, 0 ≤ k → k ≤ 3 → σ' 14 k = yq ca 12 k) ∧ σ' 13 r = yb ca hb 12 := by
  intro d
  induction d with
  | zero =>
    intro f m σ hm hf hR hq hb'
    obtain ⟨f, rfl⟩ := Nat.exists_eq_succ_of_ne_zero (by omega : f ≠ 0)
    have m12 : m = 12 := by omega
    subst m12
    refine ⟨σ, ?_, fun _ _ _ => rfl, fun _ _ => rfl, hq, hb'⟩
    show p_X1_reckonRung_72b (p_X1_reckonRung_72 f) 9 o r ((12 : Nat) : Int) σ = _
    unfold p_X1_reckonRung_72b
    rw [zm_eq (a := ((12 : Nat) : Int)) (by decide) (by decide), if_pos (by decide)]
  | succ d ih =>
    intro f m σ hm hf hR hq hb'
    obtain ⟨f, rfl⟩ := Nat.exists_eq_succ_of_ne_zero (by omega : f ≠ 0)
    obtain ⟨σ1, e1, a1, b1⟩ := X_passMonth ho (hR m (by omega) (by omega)) (by omega)
    obtain ⟨σ2, e2, a2, b2, c2⟩ := su_ex σ1 13 r (σ 13 r + mb (σ 14) (hb m))
    have q1 : ∀ k, 0 ≤ k → k ≤ 3 → σ2 14 k = yq ca (m + 1) k := fun k k0 k3 => by
      rw [a2 14 (by decide), b1 k k0 k3]
      exact mq_c hq (fun _ _ _ => rfl) k
    have q2 : σ2 13 r = yb ca hb (m + 1) := by
      rw [b2, hb']
      show _ = yb ca hb m + mb (yq ca m) (hb m)
      rw [mb_c hq (fun _ _ _ => rfl)]
    obtain ⟨σ', e', a', b', c', d'⟩ := ih f (m + 1) σ2 (by omega) (by omega) (fun m' m0 m1 => (hR m' m0 m1).to (by rw [a2 _ (by omega), a1 _ (by omega)]) (by rw [a2 _ (by omega), a1 _ (by omega)]) (by rw [a2 _ (by omega), a1 _ (by omega)])) q1 q2
    refine ⟨σ', ?_, fun q q3 q4 => by rw [a' q q3 q4, a2 q q3, a1 q q4], fun j hj => by rw [b' j hj, c2 j hj, a1 13 (by decide)], c', d'⟩
    show p_X1_reckonRung_72b (p_X1_reckonRung_72 f) 9 o r m σ = _
    unfold p_X1_reckonRung_72b
    simp only [c94]
    rw [zm_eq (a := (m : Int)) (by omega) (by omega), if_neg (by omega), zm_eq (a := r) (by omega) (by omega), gd_pos (by omega), e1]
    simp only [bnd_some]
    simp only [nx_eq]
    rw [e2]
    exact e'
theorem X_rr104 {r : Int} (hr : 0 ≤ r ∧ r < 10) : ∀ (d f k : Nat) (σ : St), k + d = 4 → d < f → ∃ σ', p_X1_reckonRung_104 f 9 r k σ = some (0, σ') ∧ (∀ q : Int, q ≠ 12 → σ' q = σ q) ∧ (∀ j : Int, (j < 4 * r + k ∨ 4 * r + 3 < j) → σ' 12 j = σ 12 j) ∧ ∀ k' : Int, k ≤ k' → k' ≤ 3 → σ' 12 (4 * r + k') = σ 14 k' := by
  intro d
  induction d with
  | zero =>
    intro f k σ hk hf
    obtain ⟨f, rfl⟩ := Nat.exists_eq_succ_of_ne_zero (by omega : f ≠ 0)
    refine ⟨σ, ?_, fun _ _ => rfl, fun _ _ => rfl, fun k' q1 q2 => by omega⟩
    show p_X1_reckonRung_104b (p_X1_reckonRung_104 f) 9 r k σ = _
    unfold p_X1_reckonRung_104b
    rw [zm_eq (a := (k : Int)) (by omega) (by omega), if_pos (by omega)]
  | succ d ih =>
    intro f k σ hk hf
    obtain ⟨f, rfl⟩ := Nat.exists_eq_succ_of_ne_zero (by omega : f ≠ 0)
    obtain ⟨σ1, e1, a1, b1, c1⟩ := su_ex σ 12 (4 * r + k) (σ 14 k)
    obtain ⟨σ', e', a', b', c'⟩ := ih f (k + 1) σ1 (by omega) (by omega)
    refine ⟨σ', ?_, fun q hq => by rw [a' q hq, a1 q hq], fun j hj => by rw [b' j (by omega), c1 j (by omega)], fun k' q1 q2 => ?_⟩
    · show p_X1_reckonRung_104b (p_X1_reckonRung_104 f) 9 r k σ = _
      unfold p_X1_reckonRung_104b
      simp only [c93, c95]
      rw [zm_eq (a := (k : Int)) (by omega) (by omega), if_neg (by omega), gd_pos (by omega), zm_eq (a := r * 4 + k) (by omega) (by omega), gd_pos (by omega), show r * 4 + (k : Int) = 4 * r + k by omega]
      simp only [nx_eq]
      rw [e1]
      exact e'
    · by_cases e : k' = k
      · subst e
        rw [b' _ (by omega), b1]
      · rw [c' k' (by omega) q2, a1 14 (by decide)]
theorem X_rr32 {o r : Int} : ∀ (d f k : Nat) (σ : St), k + d = 4 → d < f → ∃ σ', p_X1_reckonRung_32 f 9 o r k σ = p_X1_reckonRung_32b (p_X1_reckonRung_32 (f - 1 - d)) 9 o r 4 σ' ∧ (∀ q : Int, q ≠ 14 → σ' q = σ q) ∧ (∀ j : Int, j < k → σ' 14 j = σ 14 j) ∧ ∀ k' : Int, k ≤ k' → k' ≤ 3 → σ' 14 k' = (if k' = 0 then 1000000 else 0) := by
  intro d
  induction d with
  | zero =>
    intro f k σ hk hf
    obtain ⟨f, rfl⟩ := Nat.exists_eq_succ_of_ne_zero (by omega : f ≠ 0)
    have k4 : k = 4 := by omega
    subst k4
    exact ⟨σ, rfl, fun _ _ => rfl, fun _ _ => rfl, fun k' q1 q2 => by omega⟩
  | succ d ih =>
    intro f k σ hk hf
    obtain ⟨f, rfl⟩ := Nat.exists_eq_succ_of_ne_zero (by omega : f ≠ 0)
    obtain ⟨σ1, e1, a1, b1, c1⟩ := su_ex σ 14 k (if (k : Int) = 0 then 1000000 else 0)
    obtain ⟨σ', e', a', b', c'⟩ := ih f (k + 1) σ1 (by omega) (by omega)
    refine ⟨σ', ?_, fun q hq => by rw [a' q hq, a1 q hq], fun j hj => by rw [b' j (by omega), c1 j (by omega)], fun k' q1 q2 => ?_⟩
    · rw [show f + 1 - 1 - (d + 1) = f - 1 - d by omega]
      refine Eq.trans ?_ e'
      show p_X1_reckonRung_32b (p_X1_reckonRung_32 f) 9 o r k σ = _
      unfold p_X1_reckonRung_32b p_X1_reckonRung_55
      simp only [c95]
      simp only [nx_eq]
      rw [zm_eq (a := (k : Int)) (by omega) (by omega), if_neg (by omega)]
      by_cases q : (k : Int) = 0
      · rw [if_pos q] at e1
        rw [if_pos q, gd_pos (by omega), e1]
        rfl
      · rw [if_neg q] at e1
        rw [if_neg q, gd_pos (by omega), e1]
        rfl
    · by_cases e : k' = k
      · subst e
        rw [b' _ (by omega), b1]
      · rw [c' k' (by omega) q2]
/-- what is left of a rung once its year is in hand -/
theorem X_rr29 {σ : St} {o r : Int} {ca hb : Int → Int → Int} (ho : 43 ≤ o) (hr : 0 ≤ r ∧ r < 10) (hR : ∀ m, 0 ≤ m → m ≤ 11 → RP σ o m (ca m) (hb m)) : ∃ σ', p_X1_reckonRung_29 9 o r σ = some (0, σ') ∧ (∀ q : Int, q ≠ 12 → q ≠ 13 → q ≠ 14 → σ' q = σ q) ∧ (∀ j : Int, (j < 4 * r ∨ 4 * r + 3 < j) → σ' 12 j = σ 12 j) ∧ (∀ j, j ≠ r → σ' 13 j = σ 13 j) ∧ (∀ k, 0 ≤ k → k ≤ 3 → σ' 12 (4 * r + k) = yq ca 12 k) ∧ σ' 13 r = yb ca hb 12 := by
  obtain ⟨σ1, e1, a1, _, c1⟩ := X_rr32 (o := o) (r := r) 4 FU 0 σ (by omega) (FU_gt (by omega))
  obtain ⟨σ2, e2, a2, b2, c2⟩ := su_ex σ1 13 r 0
  obtain ⟨σ3, e3, a3, b3, c3, d3⟩ := X_rr72 (ca := ca) (hb := hb) ho hr 12 FU 0 σ2 (by omega) (FU_gt (by omega)) (fun m m0 m1 => (hR m m0 m1).to (by rw [a2 _ (by omega), a1 _ (by omega)]) (by rw [a2 _ (by omega), a1 _ (by omega)]) (by rw [a2 _ (by omega), a1 _ (by omega)])) (fun k k0 k3 => by
    rw [a2 14 (by decide), c1 k k0 k3]
    rfl) b2
  obtain ⟨σ4, e4, a4, b4, c4⟩ := X_rr104 hr 4 FU 0 σ3 (by omega) (FU_gt (by omega))
  refine ⟨σ4, ?_, fun q q1 q2 q3 => by rw [a4 q q1, a3 q q2 q3, a2 q q2, a1 q q3], fun j hj => ?_, fun j hj => ?_, fun k k0 k3 => ?_, ?_⟩
  · unfold p_X1_reckonRung_29
    refine e1.trans ?_
    unfold p_X1_reckonRung_32b
    simp only [c94]
    simp only [nx_eq]
    rw [zm_eq (a := 4) (by decide) (by decide), if_pos (by decide), zm_eq (a := r) (by omega) (by omega), gd_pos (by omega), e2]
    exact e3.trans e4
  · rw [b4 j (by omega), a3 12 (by decide) (by decide), a2 12 (by decide), a1 12 (by decide)]
  · rw [a4 13 (by decide), b3 j hj, c2 j hj, a1 13 (by decide)]
  · rw [c4 k k0 k3, c3 k k0 k3]
  · rw [a4 13 (by decide), d3]
abbrev pOf (t : St) (s h ru Y r : Int) : Int := if pnd t s h ru (cst t s h ru (Y - 1).toNat) r then 1 else 0
def Od (t : St) (s h ru Y r k : Int) : Int := yq (caY t s h ru (pOf t s h ru Y r) r (cst t s h ru (Y - 1).toNat)) 12 k
def Bo (t : St) (s h ru Y r : Int) : Int := yb (caY t s h ru (pOf t s h ru Y r) r (cst t s h ru (Y - 1).toNat)) (hbY t s h ru (pOf t s h ru Y r) r (cst t s h ru (Y - 1).toNat)) 12
theorem OY.RP {σ σ' : St} {o : Int} {t : St} {s h ru p r : Int} {c : Int → Int} (q : OY σ σ' o t s h ru p r c) (hs : SOK t s) (hh : HOK t h) (hp : p = 0 ∨ (p = 1 ∧ 0 ≤ t 11 s)) : ∀ m, 0 ≤ m → m ≤ 11 → RP σ' o m (caY t s h ru p r c m) (hbY t s h ru p r c m) := fun m m0 m1 k k0 k3 => by
  have h8 := hs.2.1
  have hf := q.2.2.2.2.2.2 m k m0 m1 k0 k3
  have hb := q.2.2.2.2.1.2.2 (σ' (o + 4) (4 * m + k)).toNat (by have := hf.2.1; omega)
  rw [Int.toNat_of_nonneg hf.1] at hb
  refine ⟨_, rfl, ⟨hf.1, by have := hf.2.1; omega⟩, ?_, ?_, caY_bd hs hp m k, hbY_bd hs hh hp m k⟩
  · exact hb.1.trans (asm_fst (od t s p) hf).symm
  · exact hb.2.trans (asm_fst (qD t s h p) hf).symm
