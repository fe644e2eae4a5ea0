/-- what work() has at hand -/
def MC (τ : St) (s h ru : Int) : Prop := τ 0 28 = s ∧ τ 0 29 = h ∧ τ 0 30 = ru ∧ SOK τ s ∧ HOK τ h ∧ (ru = -1 ∨ ROK τ ru)
abbrev gAt (τ : St) (p y r m : Int) : Int → Int := fun k => τ 17 (pl p y r m k)
theorem pl_bd {p y r m k : Int} (hp : 0 ≤ p ∧ p ≤ 1) (hy : 0 ≤ y ∧ y < 30) (hr : 0 ≤ r ∧ r < 10) (hm : 0 ≤ m ∧ m ≤ 12) (hk : 0 ≤ k ∧ k ≤ 3) : 0 ≤ pl p y r m k ∧ pl p y r m k < 31200 := by
  unfold pl; omega
theorem M_asks {τ : St} {s h ru p y r m k S : Int} (hc : MC τ s h ru) (hp : 0 ≤ p ∧ p ≤ 1) (hy : 0 ≤ y ∧ y < 30) (hr : 0 ≤ r ∧ r < 10) (hm : 0 ≤ m ∧ m ≤ 11) (hk : 0 ≤ k ∧ k ≤ 3) (hS : 1 ≤ S ∧ S ≤ 999) (hg : ∀ k, 0 ≤ k → k ≤ 3 → 0 ≤ gAt τ p y r (m + 1) k ∧ gAt τ p y r (m + 1) k ≤ 420000000) : p_X8_asks p y r m k S τ = some (if ask τ h ru r m k (gAt τ p y r (m + 1)) S then 1 else 0, τ) := by
  obtain ⟨h28, h29, h30, hs, hh, hu⟩ := hc
  unfold p_X8_asks
  rw [h30]
  rcases hu with rfl | hu
  · rw [if_pos (by decide), M_bears h29 hh (by omega)]
    have hb := bea_bd (S := S) hh (by omega)
    have b1 := pl_bd hp hy hr (m := m + 1) (k := mo k) (by omega) (mo_bd hk)
    have b2 := pl_bd hp hy hr (m := m + 1) (k := k) (by omega) hk
    have g1 : 0 ≤ τ 17 (pl p y r (m + 1) (mo k)) ∧ τ 17 (pl p y r (m + 1) (mo k)) ≤ 420000000 := hg (mo k) (mo_bd hk).1 (mo_bd hk).2
    have g2 : 0 ≤ τ 17 (pl p y r (m + 1) k) ∧ τ 17 (pl p y r (m + 1) k) ≤ 420000000 := hg k hk.1 hk.2
    simp only [Option.bind_some, M_more hk, M_place]
    rw [zm_eq (a := pl p y r (m + 1) (mo k)) (by omega) (by omega), zm_eq (a := pl p y r (m + 1) k) (by omega) (by omega), gd_pos (by omega), gd_pos (by omega), zm_eq (a := 1000 * S + τ 17 (pl p y r (m + 1) k)) (by omega) (by omega), zm_eq (a := 1000 * bea τ h S + τ 17 (pl p y r (m + 1) (mo k))) (by omega) (by omega)]
    by_cases hq : 1000 * S + τ 17 (pl p y r (m + 1) k) ≤ 1000 * bea τ h S + τ 17 (pl p y r (m + 1) (mo k))
    · rw [if_pos hq, if_neg (show ¬ ask τ h (-1) r m k (gAt τ p y r (m + 1)) S from fun q => by
        rcases q with q | q
        · exact absurd q.1 (by decide)
        · have q2 : 1000 * bea τ h S + τ 17 (pl p y r (m + 1) (mo k)) < 1000 * S + τ 17 (pl p y r (m + 1) k) := q.2
          omega)]
    · rw [if_neg hq, if_pos (show ask τ h (-1) r m k (gAt τ p y r (m + 1)) S from Or.inr ⟨by decide, show 1000 * bea τ h S + τ 17 (pl p y r (m + 1) (mo k)) < 1000 * S + τ 17 (pl p y r (m + 1) k) by omega⟩)]
  · have h0 := hu.1
    rw [zm_eq (a := ru) (by omega) (by omega), if_neg (by omega), M_asksBy hu (by omega) hm (by omega)]
    simp only [Option.bind_some]
    by_cases hq : br τ ru r m ≤ S
    · rw [if_pos hq, gd_pos (Or.inr rfl), if_pos (Or.inl ⟨h0.1, hq⟩)]
    · rw [if_neg hq, gd_pos (Or.inl rfl), if_neg (by omega)]
theorem M_fy118 {τ : St} {s h ru p y r m k : Int} (K57 : Int → Int → Int → Int → St → Option (Int × St)) (K65 : Int → Int → Int → Int → Int → St → Option (Int × St)) (hc : MC τ s h ru) (hp : p = 0 ∨ (p = 1 ∧ 0 ≤ τ 11 s)) (hy : 0 ≤ y ∧ y < 30) (hr : 0 ≤ r ∧ r < 10) (hm : 0 ≤ m ∧ m ≤ 11) (hk : 0 ≤ k ∧ k ≤ 3) (hg : ∀ k, 0 ≤ k → k ≤ 3 → 0 ≤ gAt τ p y r (m + 1) k ∧ gAt τ p y r (m + 1) k ≤ 420000000) : ∀ (d n i : Nat), (i : Int) + d = τ 8 s → d < n → p_X8_fillYear_118 K57 K65 n p y r m k (msum τ s h ru p r m (gAt τ p y r (m + 1)) k i) i τ = K65 p y r m (k + 1) (su τ 17 (pl p y r m k) (mon τ s h ru p r m (gAt τ p y r (m + 1)) k)) := by
  have hs := hc.2.2.2.1
  have hh := hc.2.2.2.2.1
  have h28 := hc.1
  have h0 := hs.1
  have h8 := hs.2.1
  have hp' : 0 ≤ p ∧ p ≤ 1 := by omega
  intro d
  induction d with
  | zero =>
    intro n i hi hn
    obtain ⟨n, rfl⟩ := Nat.exists_eq_succ_of_ne_zero (by omega : n ≠ 0)
    have b0 := pl_bd hp' hy hr (m := m) (k := k) (by omega) hk
    have bs := msum_bd (t := τ) (s := s) (h := h) (ru := ru) (p := p) (r := r) (m := m) (k := k) (g := gAt τ p y r (m + 1)) (G := 420000000) hs hh hp hk hg i (by omega)
    show p_X8_fillYear_118b K57 K65 (p_X8_fillYear_118 K57 K65 n) p y r m k (msum τ s h ru p r m (gAt τ p y r (m + 1)) k i) i τ = _
    unfold p_X8_fillYear_118b
    rw [h28, zm_eq (a := s) (by omega) (by omega), gd_pos (by omega), zm_eq (a := τ 8 s) (by omega) (by omega), zm_eq (a := (i : Int)) (by omega) (by omega), if_pos (by omega)]
    simp only [Option.bind_some, M_place, nx]
    rw [zm_eq (a := pl p y r m k) (by omega) (by omega), gd_pos (by omega), zl_eq (by omega) (by omega)]
    have : i = (τ 8 s).toNat := by omega
    rw [this]
    rfl
  | succ d ih =>
    intro n i hi hn
    obtain ⟨n, rfl⟩ := Nat.exists_eq_succ_of_ne_zero (by omega : n ≠ 0)
    have hS := hs.2.2.1 i (by omega) (by omega)
    have ho := od_bd hs hp (i := i) (by omega) (by omega)
    have hq := hs.2.2.2.1 i (by omega) (by omega)
    show p_X8_fillYear_118b K57 K65 (p_X8_fillYear_118 K57 K65 n) p y r m k (msum τ s h ru p r m (gAt τ p y r (m + 1)) k i) i τ = _
    have fin : ∀ v : Int, v = by_ τ h ru r m k (gAt τ p y r (m + 1)) (τ 9 (8 * s + i)) → p_X8_fillYear_232 K57 K65 (p_X8_fillYear_118 K57 K65 n) p y r m k (msum τ s h ru p r m (gAt τ p y r (m + 1)) k i) i v τ = K65 p y r m (k + 1) (su τ 17 (pl p y r m k) (mon τ s h ru p r m (gAt τ p y r (m + 1)) k)) := by
      intro v hv
      have e : p_X8_fillYear_232 K57 K65 (p_X8_fillYear_118 K57 K65 n) p y r m k (msum τ s h ru p r m (gAt τ p y r (m + 1)) k i) i v τ = p_X8_fillYear_253 K57 K65 (p_X8_fillYear_118 K57 K65 n) p y r m k i v (msum τ s h ru p r m (gAt τ p y r (m + 1)) k i) s i p τ := by
        unfold p_X8_fillYear_232
        rw [h28]
        rcases hp with rfl | ⟨rfl, _⟩
        · rw [if_neg (by decide)]
        · rw [if_pos (by decide)]
      rw [e]
      unfold p_X8_fillYear_253
      rw [M_oddsOf hs hp (by omega)]
      simp only [Option.bind_some]
      rw [zm_eq (a := od τ s p i) (by omega) (by omega), hv]
      have e2 : msum τ s h ru p r m (gAt τ p y r (m + 1)) k i + od τ s p i * by_ τ h ru r m k (gAt τ p y r (m + 1)) (τ 9 (8 * s + i)) = msum τ s h ru p r m (gAt τ p y r (m + 1)) k (i + 1) := by
        unfold msum
        show _ = _ + (sm _ i + od τ s p i * by_ τ h ru r m k (gAt τ p y r (m + 1)) (τ 9 (8 * s + i)))
        omega
      rw [e2]
      exact ih n (i + 1) (by omega) (by omega)
    unfold p_X8_fillYear_118b
    rw [h28, zm_eq (a := s) (by omega) (by omega), gd_pos (by omega), zm_eq (a := τ 8 s) (by omega) (by omega), zm_eq (a := (i : Int)) (by omega) (by omega), if_neg (by omega), zm_eq (a := 8 * s + i) (by omega) (by omega), gd_pos (by omega), M_asks hc hp' hy hr hm hk hS hg]
    simp only [Option.bind_some]
    have b1 := pl_bd hp' hy hr (m := m + 1) (k := mo k) (by omega) (mo_bd hk)
    have b2 := pl_bd hp' hy hr (m := m + 1) (k := k) (by omega) hk
    have g1 : 0 ≤ τ 17 (pl p y r (m + 1) (mo k)) ∧ τ 17 (pl p y r (m + 1) (mo k)) ≤ 420000000 := hg (mo k) (mo_bd hk).1 (mo_bd hk).2
    have g2 : 0 ≤ τ 17 (pl p y r (m + 1) k) ∧ τ 17 (pl p y r (m + 1) k) ≤ 420000000 := hg k hk.1 hk.2
    have hb := bea_bd (S := τ 9 (8 * s + i)) hh (by omega)
    by_cases ha : ask τ h ru r m k (gAt τ p y r (m + 1)) (τ 9 (8 * s + i))
    · rw [if_pos ha, if_neg (by decide), M_bears hc.2.1 hh (by omega)]
      simp only [Option.bind_some, M_more hk, M_place]
      rw [zm_eq (a := pl p y r (m + 1) (mo k)) (by omega) (by omega), gd_pos (by omega)]
      apply fin
      rw [zm_eq (a := bea τ h (τ 9 (8 * s + i))) (by omega) (by omega), zm_eq (a := τ 17 (pl p y r (m + 1) (mo k))) (by omega) (by omega)]
      unfold by_
      rw [if_pos ha]
    · rw [if_neg ha, if_pos (by decide)]
      simp only [Option.bind_some, M_place]
      rw [zm_eq (a := pl p y r (m + 1) k) (by omega) (by omega), gd_pos (by omega)]
      apply fin
      rw [zm_eq (a := τ 9 (8 * s + i)) (by omega) (by omega), zm_eq (a := τ 17 (pl p y r (m + 1) k)) (by omega) (by omega)]
      unfold by_
      rw [if_neg ha]
