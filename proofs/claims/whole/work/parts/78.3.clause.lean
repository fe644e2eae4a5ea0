/-! clauses of a house -/
theorem cw_v : cw 0 = 369988 ∧ cw 1 = 220610 ∧ cw 2 = 583 ∧ cw 3 = 90302 ∧ cw 4 = 3379448 ∧ cw 5 = 2947500 ∧ cw 6 = 274579016 ∧ cw 7 = 8529697 ∧ cw 8 = 1503 ∧ cw 9 = 9989695 ∧ cw 10 = 194797783 := by decide +kernel
theorem TO.rn {σ : St} {T : Int → Int} {L p : Int} (h : TO σ T L p) : ∃ q, RN lt_ T L p q ∧ (lt_ (T p) → p < L → σ 1 6 = q ∧ p < q) ∧ (¬ (p < L ∧ lt_ (T p)) → q = p) := by
  have he := h.e
  obtain ⟨o1, o2, o3, o4⟩ := h
  rcases o4 with ⟨a, b, c⟩ | ⟨a, b, c, d⟩ | ⟨a, b, c, d, e, f⟩ | ⟨a, b, c, d⟩ | ⟨a, b, c, d, e, f⟩
  · exact ⟨p, ⟨⟨Int.le_refl _, o2.2⟩, fun i x y => by omega, Or.inl a⟩, fun _ y => by omega, fun _ => rfl⟩
  · exact ⟨σ 1 6, d, fun _ _ => ⟨rfl, he.2.2 a⟩, fun y => absurd ⟨a, b⟩ y⟩
  · have n : ¬ lt_ (T p) := by unfold lt_; unfold fg_ at b; omega
    exact ⟨p, ⟨⟨Int.le_refl _, o2.2⟩, fun i x y => by omega, Or.inr n⟩, fun y _ => absurd y n, fun _ => rfl⟩
  · have n : ¬ lt_ (T p) := by unfold lt_; omega
    exact ⟨p, ⟨⟨Int.le_refl _, o2.2⟩, fun i x y => by omega, Or.inr n⟩, fun y _ => absurd y n, fun _ => rfl⟩
  · exact ⟨p, ⟨⟨Int.le_refl _, o2.2⟩, fun i x y => by omega, Or.inr b⟩, fun y _ => absurd y b, fun _ => rfl⟩
/-- a word that is one of the eleven is not empty -/
theorem MW.pos {T : Int → Int} {L p q : Int} {w : Nat} (hw : w < 11) (h : MW T p (q - p) w) (rn : RN lt_ T L p q) : p < q ∧ p < L ∧ lt_ (T p) := by
  obtain ⟨⟨a1, a2, a2'⟩, _⟩ := rW_all w hw
  have h1 := h.1
  have r1 := rn.1
  have pq : p < q := by omega
  exact ⟨pq, by omega, rn.2.1 p (by omega) pq⟩
/-- past a word -/
theorem word_step {σ : St} {T : Int → Int} {L p q : Int} {w : Nat} (hw : w < 11) (tx : TXx σ T L) (to : TO σ T L p) (rn : RN lt_ T L p q) (h : MW T p (q - p) w) : ∃ σ' p', p_X4_step 1 σ = some (0, σ') ∧ rF σ σ' ∧ SK T L q p' ∧ TO σ' T L p' ∧ p < p' := by
  obtain ⟨a, b, c⟩ := h.pos hw rn
  obtain ⟨q', rn', g, _⟩ := to.rn
  have e := RN.un rn rn'
  obtain ⟨g1, g2⟩ := g c b
  have o2 := to.2.1
  have r1 := rn.1
  obtain ⟨σ', p', x, r, sk, to'⟩ := X_step tx (by omega : 0 ≤ σ 1 6 ∧ σ 1 6 ≤ L)
  rw [show σ 1 6 = q by omega] at sk
  exact ⟨σ', p', x, r, sk, to', by have := sk.1; omega⟩
theorem M_fails (τ : St) (c pos : Int) : ∃ τ', p_X8_fails c pos τ = some (c, τ') ∧ mF τ τ' ∧ τ' 0 15 = pos := by
  obtain ⟨τ1, e1, a1, b1, c1⟩ := su_ex τ 0 15 pos
  refine ⟨τ1, ?_, mFs (j := 15) (by decide) e1, b1⟩
  unfold p_X8_fails
  rw [nx_eq, e1]
theorem code0 (τ : St) : p_X8_code 114 117 110 103 τ = some (cw 0, τ) := by
  unfold p_X8_code
  rw [show (((27 * (((27 * (((27 * ((zm 114) - 96)) + (zm 117)) - 96)) + (zm 110)) - 96)) + (zm 103)) - 96) = cw 0 by decide +kernel]
theorem code1 (τ : St) : p_X8_code 107 101 112 116 τ = some (cw 1, τ) := by
  unfold p_X8_code
  rw [show (((27 * (((27 * (((27 * ((zm 107) - 96)) + (zm 101)) - 96)) + (zm 112)) - 96)) + (zm 116)) - 96) = cw 1 by decide +kernel]
theorem code3 (τ : St) : p_X8_code 100 111 119 110 τ = some (cw 3, τ) := by
  unfold p_X8_code
  rw [show (((27 * (((27 * (((27 * ((zm 100) - 96)) + (zm 111)) - 96)) + (zm 119)) - 96)) + (zm 110)) - 96) = cw 3 by decide +kernel]
theorem c583 : (583 : Int) = cw 2 := by decide +kernel
theorem c1503 : (1503 : Int) = cw 8 := by decide +kernel
theorem code4 {f : Int × St → Option (Int × St)} (τ : St) : (Option.bind (p_X8_code 102 105 114 115 τ) fun x77 => Option.bind (p_X8_longer x77.1 116 x77.2) f) = f (cw 4, τ) := by
  unfold p_X8_code p_X8_longer
  simp only [bnd_some]
  rw [show (27 * (((27 * (((27 * (((27 * ((zm 102) - 96)) + (zm 105)) - 96)) + (zm 114)) - 96)) + (zm 115)) - 96) + zm 116 - 96) = cw 4 by decide +kernel]
theorem code5 {f : Int × St → Option (Int × St)} (τ : St) : (Option.bind (p_X8_code 101 110 116 101 τ) fun x77 => Option.bind (p_X8_longer x77.1 114 x77.2) f) = f (cw 5, τ) := by
  unfold p_X8_code p_X8_longer
  simp only [bnd_some]
  rw [show (27 * (((27 * (((27 * (((27 * ((zm 101) - 96)) + (zm 110)) - 96)) + (zm 116)) - 96)) + (zm 101)) - 96) + zm 114 - 96) = cw 5 by decide +kernel]
theorem code6 {f : Int × St → Option (Int × St)} (τ : St) : (Option.bind (p_X8_code 115 99 114 97 τ) fun x16 => Option.bind (p_X8_longer x16.1 112 x16.2) fun x21 => Option.bind (p_X8_longer x21.1 101 x21.2) f) = f (cw 6, τ) := by
  unfold p_X8_code p_X8_longer
  simp only [bnd_some]
  rw [show (27 * (27 * (((27 * (((27 * (((27 * ((zm 115) - 96)) + (zm 99)) - 96)) + (zm 114)) - 96)) + (zm 97)) - 96) + zm 112 - 96) + zm 101 - 96) = cw 6 by decide +kernel]
theorem code7 {f : Int × St → Option (Int × St)} (τ : St) : (Option.bind (p_X8_code 112 97 105 110 τ) fun x55 => Option.bind (p_X8_longer x55.1 115 x55.2) f) = f (cw 7, τ) := by
  unfold p_X8_code p_X8_longer
  simp only [bnd_some]
  rw [show (27 * (((27 * (((27 * (((27 * ((zm 112) - 96)) + (zm 97)) - 96)) + (zm 105)) - 96)) + (zm 110)) - 96) + zm 115 - 96) = cw 7 by decide +kernel]
theorem code9 {f : Int × St → Option (Int × St)} (τ : St) : (Option.bind (p_X8_code 114 117 110 103 τ) fun x55 => Option.bind (p_X8_longer x55.1 115 x55.2) f) = f (cw 9, τ) := by
  unfold p_X8_code p_X8_longer
  simp only [bnd_some]
  rw [show (27 * (((27 * (((27 * (((27 * ((zm 114) - 96)) + (zm 117)) - 96)) + (zm 110)) - 96)) + (zm 103)) - 96) + zm 115 - 96) = cw 9 by decide +kernel]
theorem code10 {f : Int × St → Option (Int × St)} (τ : St) : (Option.bind (p_X8_code 109 111 110 116 τ) fun x16 => Option.bind (p_X8_longer x16.1 104 x16.2) fun x21 => Option.bind (p_X8_longer x21.1 115 x21.2) f) = f (cw 10, τ) := by
  unfold p_X8_code p_X8_longer
  simp only [bnd_some]
  rw [show (27 * (27 * (((27 * (((27 * (((27 * ((zm 109) - 96)) + (zm 111)) - 96)) + (zm 110)) - 96)) + (zm 116)) - 96) + zm 104 - 96) + zm 115 - 96) = cw 10 by decide +kernel]
/-- which clause of a house -/
theorem M_houseClause {τ : St} {T : Int → Int} {L p q : Int} (rn : RN lt_ T L p q) (h17 : τ 0 17 = sd T p (q - p).toNat) : ∃ v : Int, p_X8_houseClause τ = some (v, τ) ∧ ((v = 0 ∧ MW T p (q - p) 0) ∨ (v = 1 ∧ MW T p (q - p) 2) ∨ (v = 2 ∧ MW T p (q - p) 3) ∨ (v = 3 ∧ MW T p (q - p) 4) ∨ (v = 4 ∧ MW T p (q - p) 5) ∨ (v = -1 ∧ ¬ MW T p (q - p) 0 ∧ ¬ MW T p (q - p) 2 ∧ ¬ MW T p (q - p) 3 ∧ ¬ MW T p (q - p) 4 ∧ ¬ MW T p (q - p) 5)) := by
  obtain ⟨v0, v1, v2, v3, v4, v5, _⟩ := cw_v
  have z0 := zc_MW (w := 0) (by decide) rn
  have z2 := zc_MW (w := 2) (by decide) rn
  have z3 := zc_MW (w := 3) (by decide) rn
  have z4 := zc_MW (w := 4) (by decide) rn
  have z5 := zc_MW (w := 5) (by decide) rn
  have s0 := sd_MW (w := 0) (by decide) rn
  have s2 := sd_MW (w := 2) (by decide) rn
  have s3 := sd_MW (w := 3) (by decide) rn
  have s4 := sd_MW (w := 4) (by decide) rn
  have s5 := sd_MW (w := 5) (by decide) rn
  rw [← h17] at z0 z2 z3 z4 z5 s0 s2 s3 s4 s5
  have e64 : ∀ vs0 : Int, p_X8_houseClause_64 vs0 τ = if zm (zcmp (τ 0 17) (cw 4)) = 0 then (if zm vs0 < 0 then some (3, τ) else some (vs0, τ)) else if zm (zcmp (τ 0 17) (cw 5)) = 0 then (if zm vs0 < 0 then some (4, τ) else some (vs0, τ)) else (if zm vs0 < 0 then some (-1, τ) else some (vs0, τ)) := fun vs0 => by
    unfold p_X8_houseClause_64
    rw [code4]
    simp only []
    rw [code5]
    simp only []
    unfold p_X8_houseClause_122
    rfl
  have e64p : ∀ vs0 : Int, ¬ zm vs0 < 0 → p_X8_houseClause_64 vs0 τ = some (vs0, τ) := fun vs0 h => by
    rw [e64]
    simp only [if_neg h]
    by_cases y : zm (zcmp (τ 0 17) (cw 4)) = 0
    · rw [if_pos y]
    · rw [if_neg y]
      by_cases y' : zm (zcmp (τ 0 17) (cw 5)) = 0
      · rw [if_pos y']
      · rw [if_neg y']
  have e64n : p_X8_houseClause_64 (-1) τ = if zm (zcmp (τ 0 17) (cw 4)) = 0 then some (3, τ) else if zm (zcmp (τ 0 17) (cw 5)) = 0 then some (4, τ) else some (-1, τ) := by
    rw [e64]
    simp only [if_pos (show zm (-1) < 0 by decide)]
  have ee : p_X8_houseClause τ = if zm (zcmp (τ 0 17) (cw 0)) = 0 then p_X8_houseClause_64 0 τ else if zm (zcmp (τ 0 17) (cw 2)) = 0 then p_X8_houseClause_64 1 τ else if zm (zcmp (τ 0 17) (cw 3)) = 0 then p_X8_houseClause_64 2 τ else p_X8_houseClause_64 (-1) τ := by
    unfold p_X8_houseClause
    rw [code0]
    simp only [bnd_some]
    rw [code3]
    simp only [bnd_some]
    rw [c583]
  rw [ee, e64p 0 (by decide), e64p 1 (by decide), e64p 2 (by decide), e64n]
  by_cases m0 : MW T p (q - p) 0
  · exact ⟨0, by rw [if_pos (z0.2 m0)], Or.inl ⟨rfl, m0⟩⟩
  · by_cases m2 : MW T p (q - p) 2
    · exact ⟨1, by rw [if_neg (fun y => m0 (z0.1 y)), if_pos (z2.2 m2)], Or.inr (Or.inl ⟨rfl, m2⟩)⟩
    · by_cases m3 : MW T p (q - p) 3
      · exact ⟨2, by rw [if_neg (fun y => m0 (z0.1 y)), if_neg (fun y => m2 (z2.1 y)), if_pos (z3.2 m3)], Or.inr (Or.inr (Or.inl ⟨rfl, m3⟩))⟩
      · rw [if_neg (fun y => m0 (z0.1 y)), if_neg (fun y => m2 (z2.1 y)), if_neg (fun y => m3 (z3.1 y))]
        by_cases m4 : MW T p (q - p) 4
        · exact ⟨3, by rw [if_pos (z4.2 m4)], Or.inr (Or.inr (Or.inr (Or.inl ⟨rfl, m4⟩)))⟩
        · by_cases m5 : MW T p (q - p) 5
          · exact ⟨4, by rw [if_neg (fun y => m4 (z4.1 y)), if_pos (z5.2 m5)], Or.inr (Or.inr (Or.inr (Or.inr (Or.inl ⟨rfl, m5⟩))))⟩
          · exact ⟨-1, by rw [if_neg (fun y => m4 (z4.1 y)), if_neg (fun y => m5 (z5.1 y))], Or.inr (Or.inr (Or.inr (Or.inr (Or.inr ⟨rfl, m0, m2, m3, m4, m5⟩))))⟩
/-- a word is only one of them -/
theorem MW.ne {T : Int → Int} {L p q : Int} {w w' : Nat} (hw : w < 11) (hw' : w' < 11) (rn : RN lt_ T L p q) (h : MW T p (q - p) w) (ne : cw w ≠ cw w') : ¬ MW T p (q - p) w' := fun h' => ne (((sd_MW hw rn).2 h).symm.trans ((sd_MW hw' rn).2 h'))
