/-- a year is filled behind (m, k) -/
def YI (σ0 σ : St) (o : Int) (t : St) (s h ru p r : Int) (c : Int → Int) (m k : Int) : Prop := (∀ q : Int, q ≠ o + 3 → q ≠ o + 4 → σ q = σ0 q) ∧ (∀ m' k' : Int, 0 ≤ m' → m' ≤ 12 → 0 ≤ k' → k' ≤ 3 → (m < m' ∨ (m' = m ∧ k' < k)) → gX σ o m' k' = inM t s h ru p r c (12 - m').toNat k') ∧ (∀ m' k' : Int, 0 ≤ m' → m' ≤ 11 → 0 ≤ k' → k' ≤ 3 → (m < m' ∨ (m' = m ∧ k' < k)) → fst_ t s h ru r m' k' (inM t s h ru p r c (11 - m').toNat) (σ (o + 4) (4 * m' + k')))
theorem YI.down {σ0 σ : St} {o : Int} {t : St} {s h ru p r : Int} {c : Int → Int} {m : Int} (hF : YI σ0 σ o t s h ru p r c m 4) : YI σ0 σ o t s h ru p r c (m - 1) 0 := ⟨hF.1, fun m' k' a1 a2 a3 a4 hlt => hF.2.1 m' k' a1 a2 a3 a4 (by omega), fun m' k' a1 a2 a3 a4 hlt => hF.2.2 m' k' a1 a2 a3 a4 (by omega)⟩
section OY
variable {σ0 : St} {o : Int} {t : St} {s h ru p r : Int} {c : Int → Int}
theorem X_oy87 (K79 : Int → Int → St → Option (Int × St)) (hc : PC σ0 o t s h ru) (hp : p = 0 ∨ (p = 1 ∧ 0 ≤ t 11 s)) (hSF : SF σ0 o t s h p) (hr12 : σ0 o 12 = r) (hr : 0 ≤ r ∧ r < t 1 h) {G : Int} (hG : G ≤ 400000000) (hcb : ∀ r, 0 ≤ r → r < t 1 h → 0 ≤ c r ∧ c r ≤ G) {m : Int} (hm : 0 ≤ m ∧ m ≤ 11) : ∀ (d f k : Nat) (σ : St), k + d = 4 → d < f → YI σ0 σ o t s h ru p r c m k → ∃ σ', p_X3_openYear_87 K79 f o m k σ = K79 o (m + (-1)) σ' ∧ YI σ0 σ' o t s h ru p r c m 4 := by
  intro d
  induction d with
  | zero =>
    intro f k σ hk hf hF
    obtain ⟨f, rfl⟩ := Nat.exists_eq_succ_of_ne_zero (by omega : f ≠ 0)
    refine ⟨σ, ?_, by have : (k : Int) = 4 := by omega
                      rw [this] at hF; exact hF⟩
    show p_X3_openYear_87b K79 (p_X3_openYear_87 K79 f) o m k σ = _
    unfold p_X3_openYear_87b
    rw [zm_eq (a := (k : Int)) (by omega) (by omega), if_pos (by omega)]
  | succ d ih =>
    intro f k σ hk hf hF
    obtain ⟨f, rfl⟩ := Nat.exists_eq_succ_of_ne_zero (by omega : f ≠ 0)
    have e0 := hF.1 o (by omega) (by omega)
    have hO : plO o σ0 σ := ⟨fun q hq => hF.1 q (by omega) (by omega), by rw [e0], by rw [e0], by rw [e0]⟩
    have hC := hc.to hO
    have hSF' : SF σ o t s h p := by
      refine ⟨by rw [e0]; exact hSF.1, fun i hi => ?_, fun i hi => ?_⟩
      · rw [hF.1 (o + 5) (by omega) (by omega)]; exact hSF.2.1 i hi
      · rw [hF.1 (o + 6) (by omega) (by omega), hF.1 (o + 7) (by omega) (by omega)]; exact hSF.2.2 i hi
    have hs := hc.2.2.2.1
    have hh := hc.2.2.2.2.1
    have hg : ∀ k, 0 ≤ k → k ≤ 3 → gX σ o (m + 1) k = inM t s h ru p r c (12 - (m + 1)).toNat k := fun k h0 h3 => hF.2.1 (m + 1) k (by omega) (by omega) h0 h3 (by omega)
    have hgb : ∀ k, 0 ≤ k → k ≤ 3 → 0 ≤ gX σ o (m + 1) k ∧ gX σ o (m + 1) k ≤ 420000000 := by
      intro k h0 h3
      rw [hg k h0 h3]
      have := inM_bd (ru := ru) (c := c) (G := G) hs hh hp hr hcb (12 - (m + 1)).toNat k h0 h3
      omega
    obtain ⟨fa, e1, hfa⟩ := X_reckonMonth (r := r) (m := m) (k := (k : Int)) hC hp hSF' (by rw [e0]; exact hr12) hr hm (by omega) hgb
    have hv : mon t s h ru p r m (gX σ o (m + 1)) k = inM t s h ru p r c (12 - m).toNat k := by
      rw [mon_g t s h ru p r m (by omega) hg]
      have e3 : (12 - m).toNat = (12 - (m + 1)).toNat + 1 := by omega
      rw [e3]
      show _ = mon t s h ru p r (11 - (((12 - (m + 1)).toNat : Nat) : Int)) (inM t s h ru p r c (12 - (m + 1)).toNat) k
      have e4 : 11 - (((12 - (m + 1)).toNat : Nat) : Int) = m := by omega
      rw [e4]
    have hfa' : fst_ t s h ru r m k (inM t s h ru p r c (11 - m).toNat) fa := by
      have e5 : (11 - m).toNat = (12 - (m + 1)).toNat := by omega
      rw [e5]
      exact fst_g (by omega) hg hfa
    rw [hv] at e1
    obtain ⟨σ1, f1, a1, b1, c1⟩ := su_ex σ (o + 4) (4 * m + k) fa
    obtain ⟨σ2, f2, a2, b2, c2⟩ := su_ex σ1 (o + 3) (4 * m + k) (inM t s h ru p r c (12 - m).toNat k)
    rw [f1, f2] at e1
    have hF2 : YI σ0 σ2 o t s h ru p r c m ((k : Int) + 1) := by
      refine ⟨fun q q3 q4 => by rw [a2 q q3, a1 q q4]; exact hF.1 q q3 q4, fun m' k' z1 z2 z3 z4 hlt => ?_, fun m' k' z1 z2 z3 z4 hlt => ?_⟩
      · by_cases e : m' = m ∧ k' = k
        · obtain ⟨rfl, rfl⟩ := e
          exact b2
        · show σ2 (o + 3) (4 * m' + k') = _
          rw [c2 _ (by omega), a1 _ (by omega)]
          exact hF.2.1 m' k' z1 z2 z3 z4 (by omega)
      · rw [a2 _ (by omega)]
        by_cases e : m' = m ∧ k' = k
        · obtain ⟨rfl, rfl⟩ := e
          rw [b1]
          exact hfa'
        · rw [c1 _ (by omega)]
          exact hF.2.2 m' k' z1 z2 z3 z4 (by omega)
    obtain ⟨σ', q1, q2⟩ := ih f (k + 1) σ2 (by omega) (by omega) hF2
    refine ⟨σ', ?_, q2⟩
    show p_X3_openYear_87b K79 (p_X3_openYear_87 K79 f) o m k σ = _
    unfold p_X3_openYear_87b
    rw [zm_eq (a := (k : Int)) (by omega) (by omega), if_neg (by omega), e1]
    simp only [Option.bind_some]
    exact q1
theorem X_oy79 (hc : PC σ0 o t s h ru) (hp : p = 0 ∨ (p = 1 ∧ 0 ≤ t 11 s)) (hSF : SF σ0 o t s h p) (hr12 : σ0 o 12 = r) (hr : 0 ≤ r ∧ r < t 1 h) {G : Int} (hG : G ≤ 400000000) (hcb : ∀ r, 0 ≤ r → r < t 1 h → 0 ≤ c r ∧ c r ≤ G) : ∀ (d f : Nat) (m : Int) (σ : St), m + 1 = d → m ≤ 11 → d < f → YI σ0 σ o t s h ru p r c m 0 → ∃ σ', p_X3_openYear_79 f o m σ = some (0, σ') ∧ YI σ0 σ' o t s h ru p r c (-1) 0 := by
  intro d
  induction d with
  | zero =>
    intro f m σ hm hm11 hf hF
    obtain ⟨f, rfl⟩ := Nat.exists_eq_succ_of_ne_zero (by omega : f ≠ 0)
    refine ⟨σ, ?_, by have : m = -1 := by omega
                      rw [this] at hF; exact hF⟩
    show p_X3_openYear_79b (p_X3_openYear_79 f) o m σ = _
    unfold p_X3_openYear_79b
    rw [zm_eq (a := m) (by omega) (by omega), if_pos (by omega)]
  | succ d ih =>
    intro f m σ hm hm11 hf hF
    obtain ⟨f, rfl⟩ := Nat.exists_eq_succ_of_ne_zero (by omega : f ≠ 0)
    obtain ⟨σ1, e1, F1⟩ := X_oy87 (c := c) (p_X3_openYear_79 f) hc hp hSF hr12 hr hG hcb (m := m) (by omega) 4 FU 0 σ (by omega) (FU_gt (by omega)) hF
    obtain ⟨σ2, e2, F2⟩ := ih f (m + (-1)) σ1 (by omega) (by omega) (by omega) F1.down
    refine ⟨σ2, ?_, F2⟩
    show p_X3_openYear_79b (p_X3_openYear_79 f) o m σ = _
    unfold p_X3_openYear_79b
    rw [zm_eq (a := m) (by omega) (by omega), if_neg (by omega)]
    exact e1.trans e2
theorem X_oy31 (hc : PC σ0 o t s h ru) (hp : p = 0 ∨ (p = 1 ∧ 0 ≤ t 11 s)) (hSF : SF σ0 o t s h p) (hr12 : σ0 o 12 = r) (hr : 0 ≤ r ∧ r < t 1 h) {G : Int} (hG : G ≤ 400000000) (hcb : ∀ r, 0 ≤ r → r < t 1 h → 0 ≤ c r ∧ c r ≤ G) {left : Int} (hl : 1 ≤ left ∧ left ≤ 30) (h16 : ∀ r, 0 ≤ r → r < t 1 h → σ0 (o + 1) (10 * (left - 1) + r) = c r) : ∀ (d f k : Nat) (σ : St), k + d = 4 → d < f → YI σ0 σ o t s h ru p r c 12 k → ∃ σ', p_X3_openYear_31 f o left r k σ = some (0, σ') ∧ YI σ0 σ' o t s h ru p r c (-1) 0 := by
  have hh := hc.2.2.2.2.1
  have h10 := hh.2.1
  have r3 := kx3 hc.1
  intro d
  induction d with
  | zero =>
    intro f k σ hk hf hF
    obtain ⟨f, rfl⟩ := Nat.exists_eq_succ_of_ne_zero (by omega : f ≠ 0)
    have hk4 : (k : Int) = 4 := by omega
    rw [hk4] at hF
    obtain ⟨σ', e1, F1⟩ := X_oy79 (c := c) hc hp hSF hr12 hr hG hcb 12 FU 11 σ (by omega) (by omega) (FU_gt (by omega)) hF.down
    refine ⟨σ', ?_, F1⟩
    show p_X3_openYear_31b (p_X3_openYear_31 f) o left r k σ = _
    unfold p_X3_openYear_31b
    rw [zm_eq (a := (k : Int)) (by omega) (by omega), if_pos (by omega)]
    exact e1
  | succ d ih =>
    intro f k σ hk hf hF
    obtain ⟨f, rfl⟩ := Nat.exists_eq_succ_of_ne_zero (by omega : f ≠ 0)
    have e0 := hF.1 o (by omega) (by omega)
    have hO : plO o σ0 σ := ⟨fun q hq => hF.1 q (by omega) (by omega), by rw [e0], by rw [e0], by rw [e0]⟩
    have hC := hc.to hO
    have hhr := hC.2.2.1
    have hnx := nxt_bd hh hr (k := k) (by omega)
    have hv : σ (o + 1) (10 * (left - 1) + nxt t h r k) = inM t s h ru p r c (12 - (12 : Int)).toNat k := by
      rw [hF.1 _ (by omega) (by omega)]
      exact h16 _ hnx.1 hnx.2
    obtain ⟨σ2, f2, a2, b2, c2⟩ := su_ex σ (o + 3) (48 + (k : Int)) (σ (o + 1) (10 * (left - 1) + nxt t h r k))
    have hF2 : YI σ0 σ2 o t s h ru p r c 12 ((k : Int) + 1) := by
      refine ⟨fun q q3 q4 => by rw [a2 q q3]; exact hF.1 q q3 q4, fun m' k' z1 z2 z3 z4 hlt => ?_, fun m' k' z1 z2 z3 z4 hlt => by omega⟩
      have hm12 : m' = 12 := by omega
      subst hm12
      show σ2 (o + 3) (4 * 12 + k') = _
      by_cases e : k' = k
      · subst e
        rw [show (4 * 12 + (k : Int)) = 48 + (k : Int) by omega, b2, hv]
      · rw [c2 _ (by omega)]
        exact hF.2.1 12 k' z1 z2 z3 z4 (by omega)
    obtain ⟨σ', q1, q2⟩ := ih f (k + 1) σ2 (by omega) (by omega) hF2
    refine ⟨σ', ?_, q2⟩
    show p_X3_openYear_31b (p_X3_openYear_31 f) o left r k σ = _
    unfold p_X3_openYear_31b
    rw [zm_eq (a := (k : Int)) (by omega) (by omega), if_neg (by omega), gd_pos hhr.1, X_rungAfter hhr hh hr (by omega)]
    simp only [Option.bind_some, nx]
    have i1 : (left - 1) * 10 + nxt t h r k = 10 * (left - 1) + nxt t h r k := by omega
    rw [i1, zm_eq (a := 10 * (left - 1) + nxt t h r k) (by omega) (by omega), gd_pos (by omega), zm_eq (a := 48 + (k : Int)) (by omega) (by omega), gd_pos (by omega), f2]
    exact q1
end OY
/-- a year in hand -/
def OY (σ σ' : St) (o : Int) (t : St) (s h ru p r : Int) (c : Int → Int) : Prop := plO o σ σ' ∧ (∀ j : Int, j ≠ 11 → j ≠ 12 → σ' o j = σ o j) ∧ σ' (o + 1) = σ (o + 1) ∧ σ' (o + 2) = σ (o + 2) ∧ SF σ' o t s h p ∧ (∀ m k : Int, 0 ≤ m → m ≤ 12 → 0 ≤ k → k ≤ 3 → gX σ' o m k = inM t s h ru p r c (12 - m).toNat k) ∧ (∀ m k : Int, 0 ≤ m → m ≤ 11 → 0 ≤ k → k ≤ 3 → fst_ t s h ru r m k (inM t s h ru p r c (11 - m).toNat) (σ' (o + 4) (4 * m + k)))
/-- with pains or not, as asked for and as the sort has them -/
def pEf (t : St) (s v : Int) : Int := if v = 0 then 0 else if 0 ≤ t 11 s then 1 else 0
theorem pEf_ok {t : St} {s : Int} (v : Int) : pEf t s v = 0 ∨ (pEf t s v = 1 ∧ 0 ≤ t 11 s) := by
  unfold pEf
  split
  · exact Or.inl rfl
  · split
    · exact Or.inr ⟨rfl, by assumption⟩
    · exact Or.inl rfl
theorem X_openYear {σ : St} {o : Int} {t : St} {s h ru r left v : Int} {c : Int → Int} (hc : PC σ o t s h ru) (hv : v = 0 ∨ v = 1) (hr : 0 ≤ r ∧ r < t 1 h) {G : Int} (hG : G ≤ 400000000) (hcb : ∀ r, 0 ≤ r → r < t 1 h → 0 ≤ c r ∧ c r ≤ G) (hl : 1 ≤ left ∧ left ≤ 30) (h16 : ∀ r, 0 ≤ r → r < t 1 h → σ (o + 1) (10 * (left - 1) + r) = c r) : ∃ σ', p_X3_openYear o left r v σ = some (0, σ') ∧ OY σ σ' o t s h ru (pEf t s v) r c := by
  have r3 := kx3 hc.1
  obtain ⟨σ1, e1, a1, b1, c1⟩ := su_ex σ o 12 r
  have hO1 : plO o σ σ1 := ⟨fun k hk => a1 k (by omega), c1 0 (by decide), c1 1 (by decide), c1 2 (by decide)⟩
  have hC1 := hc.to hO1
  have hp := pEf_ok (t := t) (s := s) v
  obtain ⟨σ2, e2, S2⟩ := X_sumScrapes hC1 hp
  have hC2 := hC1.to S2.O
  have h12 : σ2 o 12 = r := by rw [S2.2.1 12 (by decide)]; exact b1
  have k1 : σ2 (o + 1) = σ (o + 1) := by rw [S2.1 _ (by omega) (by omega) (by omega) (by omega), a1 _ (by omega)]
  obtain ⟨σ3, e3, F3⟩ := X_oy31 (σ0 := σ2) (c := c) (left := left) hC2 hp S2.SF h12 hr hG hcb hl (by rw [k1]; exact h16) 4 FU 0 σ2 (by omega) (FU_gt (by omega)) ⟨fun _ _ _ => rfl, fun m' k' a1 a2 a3 a4 hlt => by omega, fun m' k' a1 a2 a3 a4 hlt => by omega⟩
  have z0 := F3.1 o (by omega) (by omega)
  have hO3 : plO o σ2 σ3 := ⟨fun q hq => F3.1 q (by omega) (by omega), by rw [z0], by rw [z0], by rw [z0]⟩
  refine ⟨σ3, ?_, (hO1.tr S2.O).tr hO3, fun j j1 j2 => by rw [z0, S2.2.1 j j1, c1 j j2], by rw [F3.1 _ (by omega) (by omega)]; exact k1, by rw [F3.1 _ (by omega) (by omega), S2.1 _ (by omega) (by omega) (by omega) (by omega), a1 _ (by omega)], ?_, fun m k q1 q2 q3 q4 => F3.2.1 m k q1 q2 q3 q4 (by omega), fun m k q1 q2 q3 q4 => F3.2.2 m k q1 q2 q3 q4 (by omega)⟩
  · have e25 : p_X3_openYear_25 o left r o (pEf t s v) σ1 = some (0, σ3) := by
      unfold p_X3_openYear_25
      rw [e2]
      simp only [Option.bind_some]
      exact e3
    unfold p_X3_openYear
    simp only [nx, e1]
    rcases hv with rfl | rfl
    · rw [if_pos (by decide)]
      exact e25
    · rw [if_neg (by decide), gd_pos hC1.2.1.1]
      have hs := hc.2.2.2.1
      by_cases cp : 0 ≤ t 11 s
      · have h5 := (hC1.2.1.2.2.2.2.2 cp).1
        have ep : pEf t s 1 = 1 := by unfold pEf; rw [if_neg (by decide), if_pos cp]
        rw [h5, if_neg (by decide), ← ep]
        exact e25
      · have h5 := hC1.2.1.2.2.2.2.1 (by omega)
        have ep : pEf t s 1 = 0 := by unfold pEf; rw [if_neg (by decide), if_neg cp]
        rw [h5, if_pos (by decide)]
        unfold p_X3_openYear_24
        rw [ep] at e25
        exact e25
  · have q5 := F3.1 (o + 5) (by omega) (by omega)
    have q6 := F3.1 (o + 6) (by omega) (by omega)
    have q7 := F3.1 (o + 7) (by omega) (by omega)
    unfold SF
    rw [z0, q5, q6, q7]
    exact S2.SF
