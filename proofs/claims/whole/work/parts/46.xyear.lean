/-! a plan takes a year in hand -/
theorem su_ex (σ : St) (k j v : Int) : ∃ σ' : St, su σ k j v = σ' ∧ (∀ q, q ≠ k → σ' q = σ q) ∧ σ' k j = v ∧ ∀ i, i ≠ j → σ' k i = σ k i :=
  ⟨_, rfl, fun q hq => su_ne σ _ _ hq, by rw [su_self, up_self], fun i hi => by rw [su_self, up_ne _ _ hi]⟩
abbrev qS (t : St) (s p : Int) : Int → Int := fun i => od t s p i * t 9 (8 * s + i)
abbrev qD (t : St) (s h p : Int) : Int → Int := fun i => od t s p i * (t 9 (8 * s + i) - bea t h (t 9 (8 * s + i)))
/-- a month's scrapes are summed from place j on -/
def SI (σ0 σ : St) (o : Int) (t : St) (s h p : Int) (n j : Nat) : Prop := (∀ k : Int, k ≠ o → k ≠ o + 5 → k ≠ o + 6 → k ≠ o + 7 → σ k = σ0 k) ∧ (∀ f : Int, f ≠ 11 → σ o f = σ0 o f) ∧ σ o 11 = sx (qS t s p) n j ∧ (∀ i : Nat, j ≤ i → i < n → σ (o + 5) i = (t 9 (8 * s + i) - bea t h (t 9 (8 * s + i))) * 1000) ∧ (∀ i : Nat, j ≤ i → i ≤ n → σ (o + 6) i = sx (od t s p) n i ∧ σ (o + 7) i = sx (qD t s h p) n i)
theorem SI.O {σ0 σ : St} {o : Int} {t : St} {s h p : Int} {n j : Nat} (hS : SI σ0 σ o t s h p n j) : plO o σ0 σ := ⟨fun k hk => hS.1 k (by omega) (by omega) (by omega) (by omega), hS.2.1 0 (by decide), hS.2.1 1 (by decide), hS.2.1 2 (by decide)⟩
theorem X_ss41 {σ0 : St} {o : Int} {t : St} {s h ru p : Int} (hc : PC σ0 o t s h ru) (hp : p = 0 ∨ (p = 1 ∧ 0 ≤ t 11 s)) {n : Nat} (hn : (n : Int) = t 8 s) : ∀ (j f : Nat) (σ : St), j ≤ n → j < f → SI σ0 σ o t s h p n j → ∃ σ', p_X3_sumScrapes_41 f o p ((j : Int) - 1) σ = some (0, σ') ∧ SI σ0 σ' o t s h p n 0 := by
  intro j
  induction j with
  | zero =>
    intro f σ hj hf hS
    obtain ⟨f, rfl⟩ := Nat.exists_eq_succ_of_ne_zero (by omega : f ≠ 0)
    refine ⟨σ, ?_, hS⟩
    show p_X3_sumScrapes_41b (p_X3_sumScrapes_41 f) o p (((0 : Nat) : Int) - 1) σ = _
    unfold p_X3_sumScrapes_41b
    rw [if_pos (by decide)]
  | succ j ih =>
    intro f σ hj hf hS
    obtain ⟨f, rfl⟩ := Nat.exists_eq_succ_of_ne_zero (by omega : f ≠ 0)
    have hc1 := hc.to hS.O
    obtain ⟨hk3, hsr, hhr, hs, hh, _⟩ := hc1
    have r3 := kx3 hk3
    have r6 := kx6 hsr.1
    have r0 := kx0 hhr.1
    have h8 := hs.2.1
    have hSb := hs.2.2.1 j (by omega) (by omega)
    have hrow := (hsr.2.2.1 j (by omega) (by omega)).1
    have ej : (((j + 1 : Nat) : Int) - 1) = (j : Int) := by omega
    rw [ej]
    obtain ⟨hS1, hS2, hS3, hS4, hS5⟩ := hS
    have h5' := hS5 (j + 1) (by omega) (by omega)
    obtain ⟨σ1, e1, a1, b1, c1⟩ := su_ex σ (o + 5) (j : Int) ((t 9 (8 * s + j) - bea t h (t 9 (8 * s + j))) * 1000)
    obtain ⟨σ2, e2, a2, b2, c2⟩ := su_ex σ1 (o + 6) (j : Int) (σ1 (o + 6) ((j : Int) + 1) + od t s p j)
    obtain ⟨σ3, e3, a3, b3, c3⟩ := su_ex σ2 (o + 7) (j : Int) (σ2 (o + 7) ((j : Int) + 1) + od t s p j * (t 9 (8 * s + j) - bea t h (t 9 (8 * s + j))))
    have z3 : ∀ q : Int, q ≠ o + 5 → q ≠ o + 6 → q ≠ o + 7 → σ3 q = σ q := fun q q5 q6 q7 => by rw [a3 q q7, a2 q q6, a1 q q5]
    obtain ⟨σ4, e4, a4, b4, c4⟩ := su_ex σ3 o 11 (σ3 o 11 + od t s p j * t 9 (8 * s + j))
    have w1 : σ1 (o + 6) ((j : Int) + 1) = sx (od t s p) n (j + 1) := by rw [a1 _ (by omega)]; exact h5'.1
    have w2 : σ2 (o + 7) ((j : Int) + 1) = sx (qD t s h p) n (j + 1) := by rw [a2 _ (by omega), a1 _ (by omega)]; exact h5'.2
    have hS' : SI σ0 σ4 o t s h p n j := by
      refine ⟨fun k k0 k5 k6 k7 => by rw [a4 k k0, z3 k k5 k6 k7]; exact hS1 k k0 k5 k6 k7, fun f hf => by rw [c4 f hf, z3 o (by omega) (by omega) (by omega)]; exact hS2 f hf, ?_, fun i hi1 hi2 => ?_, fun i hi1 hi2 => ?_⟩
      · rw [b4, z3 o (by omega) (by omega) (by omega), hS3]
        exact (sx_step (qS t s p) n j).symm
      · rw [a4 _ (by omega), a3 _ (by omega), a2 _ (by omega)]
        by_cases e : i = j
        · subst e; exact b1
        · rw [c1 _ (by omega)]; exact hS4 i (by omega) hi2
      · by_cases e : i = j
        · subst e
          rw [a4 _ (by omega), a4 _ (by omega), a3 _ (by omega), b2, b3, w1, w2]
          exact ⟨(sx_step (od t s p) n i).symm, (sx_step (qD t s h p) n i).symm⟩
        · rw [a4 _ (by omega), a4 _ (by omega), a3 _ (by omega), c2 _ (by omega), c3 _ (by omega), a1 _ (by omega), a2 _ (by omega), a1 _ (by omega)]
          exact hS5 i (by omega) hi2
    obtain ⟨σ', q1, q2⟩ := ih f σ4 (by omega) (by omega) hS'
    refine ⟨σ', ?_, q2⟩
    show p_X3_sumScrapes_41b (p_X3_sumScrapes_41 f) o p (j : Int) σ = _
    unfold p_X3_sumScrapes_41b
    rw [zm_eq (a := (j : Int)) (by omega) (by omega), if_neg (by omega), gd_pos hsr.1, X_chance hsr hs hp (by omega)]
    simp only [Option.bind_some]
    rw [gd_pos hsr.1, gd_pos (by omega), gd_pos hhr.1]
    simp only [hrow]
    rw [X_bears hhr hh (by omega)]
    simp only [Option.bind_some, nx, e1]
    rw [zm_eq (a := (j : Int) + 1) (by omega) (by omega), gd_pos (by omega), gd_pos (by omega)]
    simp only [e2, e3]
    have y3 : σ3 o 0 = σ o 0 := by rw [z3 o (by omega) (by omega) (by omega)]
    rw [y3, gd_pos hsr.1, z3 (σ o 0 + 1) (by omega) (by omega) (by omega), hrow, e4]
    exact q1
theorem X_sumScrapes {σ : St} {o : Int} {t : St} {s h ru p : Int} (hc : PC σ o t s h ru) (hp : p = 0 ∨ (p = 1 ∧ 0 ≤ t 11 s)) : ∃ σ', p_X3_sumScrapes o p σ = some (0, σ') ∧ SI σ σ' o t s h p (t 8 s).toNat 0 := by
  obtain ⟨hk3, hsr, hhr, hs, hh, _⟩ := id hc
  have r3 := kx3 hk3
  have r6 := kx6 hsr.1
  have h8 := hs.2.1
  obtain ⟨σ1, e1, a1, b1, c1⟩ := su_ex σ o 11 0
  obtain ⟨σ2, e2, a2, b2, c2⟩ := su_ex σ1 (o + 6) (t 8 s) 0
  obtain ⟨σ3, e3, a3, b3, c3⟩ := su_ex σ2 (o + 7) (t 8 s) 0
  have en : (((t 8 s).toNat : Nat) : Int) = t 8 s := by omega
  have hS : SI σ σ3 o t s h p (t 8 s).toNat (t 8 s).toNat := by
    refine ⟨fun k k0 k5 k6 k7 => by rw [a3 k k7, a2 k k6, a1 k k0], fun f hf => by rw [a3 _ (by omega), a2 _ (by omega), c1 f hf], by rw [a3 _ (by omega), a2 _ (by omega), b1, sx_end], fun i hi1 hi2 => by omega, fun i hi1 hi2 => ?_⟩
    have : i = (t 8 s).toNat := by omega
    subst this
    rw [en, a3 _ (by omega), b2, b3, sx_end, sx_end]
    exact ⟨rfl, rfl⟩
  obtain ⟨σ', q1, q2⟩ := X_ss41 hc hp en (t 8 s).toNat FU σ3 (Nat.le_refl _) (FU_gt (by omega)) hS
  refine ⟨σ', ?_, q2⟩
  have y1 : σ1 o 0 = σ o 0 := c1 0 (by decide)
  have y2 : σ2 o 0 = σ o 0 := by rw [a2 _ (by omega)]; exact y1
  have y3 : σ3 o 0 = σ o 0 := by rw [a3 _ (by omega)]; exact y2
  have v1 : σ1 (σ o 0) 3 = t 8 s := by rw [a1 _ (by omega)]; exact hsr.2.1
  have v2 : σ2 (σ o 0) 3 = t 8 s := by rw [a2 _ (by omega)]; exact v1
  have v3 : σ3 (σ o 0) 3 = t 8 s := by rw [a3 _ (by omega)]; exact v2
  unfold p_X3_sumScrapes
  simp only [nx]
  rw [e1, y1, gd_pos hsr.1, v1, zm_eq (a := t 8 s) (by omega) (by omega), gd_pos (by omega), e2, y2, gd_pos hsr.1, v2, zm_eq (a := t 8 s) (by omega) (by omega), gd_pos (by omega), e3, y3, gd_pos hsr.1, v3]
  rw [en] at q1
  exact q1
/-- sums of a month's scrapes that hold -/
def SF (σ : St) (o : Int) (t : St) (s h p : Int) : Prop := σ o 11 = sm (qS t s p) (t 8 s).toNat ∧ (∀ i : Nat, i < (t 8 s).toNat → σ (o + 5) i = (t 9 (8 * s + i) - bea t h (t 9 (8 * s + i))) * 1000) ∧ (∀ i : Nat, i ≤ (t 8 s).toNat → σ (o + 6) i = sx (od t s p) (t 8 s).toNat i ∧ σ (o + 7) i = sx (qD t s h p) (t 8 s).toNat i)
theorem SI.SF {σ0 σ : St} {o : Int} {t : St} {s h p : Int} (hS : SI σ0 σ o t s h p (t 8 s).toNat 0) : SF σ o t s h p := by
  refine ⟨?_, fun i hi => hS.2.2.2.1 i (by omega) hi, fun i hi => hS.2.2.2.2 i (by omega) hi⟩
  rw [hS.2.2.1]
  unfold sx
  show sm (qS t s p) (t 8 s).toNat - 0 = _
  omega
/-- the first scrape that is asked for -/
def fst_ (t : St) (s h ru r m k : Int) (g : Int → Int) (fa : Int) : Prop := 0 ≤ fa ∧ fa ≤ t 8 s ∧ ∀ i : Int, 0 ≤ i → i < t 8 s → (ask t h ru r m k g (t 9 (8 * s + i)) ↔ fa ≤ i)
theorem mono_S {t : St} {s : Int} (hs : SOK t s) : ∀ (d : Nat) (i : Int), 0 ≤ i → i + d < t 8 s → t 9 (8 * s + i) ≤ t 9 (8 * s + (i + d)) := by
  intro d
  induction d with
  | zero => intro i _ _; rw [Int.ofNat_zero, Int.add_zero]; omega
  | succ d ih =>
    intro i h0 h1
    have a := ih i h0 (by omega)
    have b := hs.2.2.2.2.1 (i + d) (by omega) (by omega)
    have e : i + ((d + 1 : Nat) : Int) = i + d + 1 := by omega
    rw [e]
    omega
theorem sub_bea_mono {t : St} {h S S' : Int} (hh : HOK t h) (hS : S ≤ S') : S - bea t h S ≤ S' - bea t h S' := by
  unfold bea
  split <;> split <;> omega
abbrev gX (σ : St) (o m : Int) : Int → Int := fun k => σ (o + 3) (4 * m + k)
theorem X_costsLater {σ : St} {o m k : Int} (hm : 0 ≤ m ∧ m ≤ 11) (hk : 0 ≤ k ∧ k ≤ 3) : p_X3_costsLater o m k σ = some (gX σ o (m + 1) (mo k) - gX σ o (m + 1) k, σ) := by
  unfold p_X3_costsLater mo
  rw [zm_eq (a := k) (by omega) (by omega), zm_eq (a := (m + 1) * 4 + k + 1) (by omega) (by omega), zm_eq (a := (m + 1) * 4 + k) (by omega) (by omega)]
  by_cases c : 3 ≤ k
  · have : k = 3 := by omega
    subst this
    rw [if_pos c, if_pos rfl, Int.sub_self]
  · rw [if_neg c, gd_pos (by omega), gd_pos (by omega), if_neg (by omega)]
    show some (σ (o + 3) ((m + 1) * 4 + k + 1) - σ (o + 3) ((m + 1) * 4 + k), σ) = some (σ (o + 3) (4 * (m + 1) + (k + 1)) - σ (o + 3) (4 * (m + 1) + k), σ)
    have e1 : (m + 1) * 4 + k + 1 = 4 * (m + 1) + (k + 1) := by omega
    have e2 : (m + 1) * 4 + k = 4 * (m + 1) + k := by omega
    rw [e1, e2]
theorem X_inside {σ : St} {o m k : Int} (hm : 0 ≤ m ∧ m ≤ 12) (hk : 0 ≤ k ∧ k ≤ 3) : p_X3_inside o m k σ = some (gX σ o m k, σ) := by
  unfold p_X3_inside
  rw [zm_eq (a := m * 4 + k) (by omega) (by omega), gd_pos (by omega)]
  show some (σ (o + 3) (m * 4 + k), σ) = some (σ (o + 3) (4 * m + k), σ)
  have e2 : m * 4 + k = 4 * m + k := by omega
  rw [e2]
theorem qS_bd {t : St} {s p : Int} (hs : SOK t s) (hp : p = 0 ∨ (p = 1 ∧ 0 ≤ t 11 s)) : 0 ≤ sm (qS t s p) (t 8 s).toNat ∧ sm (qS t s p) (t 8 s).toNat ≤ 999000 := by
  have h8 := hs.2.1
  have hq := sm_od hs hp
  have h1 := sm_le (f := qS t s p) (g := fun i => od t s p i * 999) (t 8 s).toNat (fun i h0 h1 => Int.mul_le_mul_of_nonneg_left (hs.2.2.1 i h0 (by omega)).2 (od_bd hs hp h0 (by omega)).1)
  rw [sm_mulr] at h1
  refine ⟨sm_nonneg _ (fun i h0 h1 => Int.mul_nonneg (od_bd hs hp h0 (by omega)).1 (by have := hs.2.2.1 i h0 (by omega); omega)), by omega⟩
theorem qD_bd {t : St} {s h p : Int} (hs : SOK t s) (hh : HOK t h) (hp : p = 0 ∨ (p = 1 ∧ 0 ≤ t 11 s)) (j : Nat) (hj : j ≤ (t 8 s).toNat) : 0 ≤ sx (qD t s h p) (t 8 s).toNat j ∧ sx (qD t s h p) (t 8 s).toNat j ≤ 999000 := by
  have h8 := hs.2.1
  have hq := qS_bd hs hp
  have nn : ∀ i : Int, 0 ≤ i → i < (t 8 s).toNat → 0 ≤ qD t s h p i := fun i h0 h1 => by
    have b := bea_bd (S := t 9 (8 * s + i)) hh (by have := hs.2.2.1 i h0 (by omega); omega)
    exact Int.mul_nonneg (od_bd hs hp h0 (by omega)).1 (by omega)
  have le : sm (qD t s h p) (t 8 s).toNat ≤ sm (qS t s p) (t 8 s).toNat := sm_le _ (fun i h0 h1 => by
    have b := bea_bd (S := t 9 (8 * s + i)) hh (by have := hs.2.2.1 i h0 (by omega); omega)
    exact Int.mul_le_mul_of_nonneg_left (by omega) (od_bd hs hp h0 (by omega)).1)
  have m1 := sm_mono j _ hj nn
  have m0 := sm_nonneg j (fun i h0 h1 => nn i h0 (by omega))
  unfold sx
  omega
theorem qO_bd {t : St} {s p : Int} (hs : SOK t s) (hp : p = 0 ∨ (p = 1 ∧ 0 ≤ t 11 s)) (j : Nat) (hj : j ≤ (t 8 s).toNat) : 0 ≤ sx (od t s p) (t 8 s).toNat j ∧ sx (od t s p) (t 8 s).toNat j ≤ 1000 := by
  have hq := sm_od hs hp
  have nn : ∀ i : Int, 0 ≤ i → i < (t 8 s).toNat → 0 ≤ od t s p i := fun i h0 h1 => (od_bd hs hp h0 (by omega)).1
  have m1 := sm_mono j _ hj nn
  have m0 := sm_nonneg j (fun i h0 h1 => nn i h0 (by omega))
  unfold sx
  omega
