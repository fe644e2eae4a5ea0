/-! the reference keeps and goes back -/
def KP (τ τ' : St) (b a c : Int) : Prop := (∀ k : Int, k ≠ 29 → τ' k = τ k) ∧ (∀ j : Int, (j < b ∨ b + 99 < j) → τ' 29 j = τ 29 j) ∧ (τ' 29 b = τ 0 33 ∧ τ' 29 (b + 1) = τ 0 42 ∧ τ' 29 (b + 2) = τ 0 47) ∧ (∀ i, 0 ≤ i → i < a → τ' 29 (b + 3 + i) = τ 18 i ∧ τ' 29 (b + 27 + i) = τ 19 i ∧ τ' 29 (b + 51 + i) = if zm (τ 20 i) = 0 then 0 else 1) ∧ (∀ i, 0 ≤ i → i < c → τ' 29 (b + 75 + i) = τ 25 i ∧ τ' 29 (b + 83 + i) = τ 26 i)
/-- what two writes of a row leave -/
theorem KP.put {τ τ' : St} {b a c j : Int} (h : KP τ τ' b a c) (hj : b + 3 + a ≤ j ∧ j < b + 27 ∨ b + 27 + a ≤ j ∧ j < b + 51 ∨ b + 51 + a ≤ j ∧ j < b + 75 ∨ b + 75 + c ≤ j ∧ j < b + 83 ∨ b + 83 + c ≤ j ∧ j ≤ b + 99) (ha : 0 ≤ a ∧ a ≤ 24) (hc : 0 ≤ c ∧ c ≤ 8) {τ1 : St} (f1 : ∀ q, q ≠ 29 → τ1 q = τ' q) (k1 : ∀ i, i ≠ j → τ1 29 i = τ' 29 i) : KP τ τ1 b a c := by
  obtain ⟨h1, h2, ⟨h3, h4, h5⟩, h6, h7⟩ := h
  refine ⟨fun k hk => (f1 k hk).trans (h1 k hk), fun i hi => by rw [k1 i (by omega)]; exact h2 i hi, ⟨by rw [k1 _ (by omega)]; exact h3, by rw [k1 _ (by omega)]; exact h4, by rw [k1 _ (by omega)]; exact h5⟩, fun i i0 i1 => ?_, fun i i0 i1 => ?_⟩
  · rw [k1 _ (by omega), k1 _ (by omega), k1 _ (by omega)]; exact h6 i i0 i1
  · rw [k1 _ (by omega), k1 _ (by omega)]; exact h7 i i0 i1
theorem M_kp126 {τ : St} {v : Int} (hv : 0 ≤ v ∧ v < 2) : ∀ (d f : Nat) (i : Int) (τ' : St), i + d = 8 → 0 ≤ i → d < f → KP τ τ' (100 * v) 24 i → ∃ τ'', p_X8_keep_126 f v (100 * v) i τ' = some (1, su τ'' 30 v 1) ∧ KP τ τ'' (100 * v) 24 8 := by
  intro d
  induction d with
  | zero =>
    intro f i τ' hi i0 hf hc
    obtain ⟨f, rfl⟩ := Nat.exists_eq_succ_of_ne_zero (by omega : f ≠ 0)
    have e8 : i = 8 := by omega
    subst e8
    refine ⟨τ', ?_, hc⟩
    show p_X8_keep_126b (p_X8_keep_126 f) v (100 * v) 8 τ' = _
    unfold p_X8_keep_126b
    rw [zm_eq (a := 8) (by omega) (by omega), if_pos (by omega), zm_eq (a := v) (by omega) (by omega), gd_pos (by omega)]
    simp only [nx]
  | succ d ih =>
    intro f i τ' hi i0 hf hc
    obtain ⟨f, rfl⟩ := Nat.exists_eq_succ_of_ne_zero (by omega : f ≠ 0)
    obtain ⟨τ1, e1, f1, g1, k1⟩ := su_ex τ' 29 (100 * v + 75 + i) (τ' 25 i)
    obtain ⟨τ2, e2, f2, g2, k2⟩ := su_ex τ1 29 (100 * v + 83 + i) (τ1 26 i)
    have w1 : τ' 25 = τ 25 := hc.1 25 (by decide)
    have w2 : τ1 26 = τ 26 := (f1 26 (by decide)).trans (hc.1 26 (by decide))
    have c1 := hc.put (j := 100 * v + 75 + i) (by omega) (by omega) (by omega) f1 k1
    have c2 := c1.put (j := 100 * v + 83 + i) (by omega) (by omega) (by omega) f2 k2
    obtain ⟨τ3, q1, q2⟩ := ih f (i + 1) τ2 (by omega) (by omega) (by omega) ⟨c2.1, c2.2.1, c2.2.2.1, c2.2.2.2.1, fun i' i0 i1 => by
      by_cases e : i' = i
      · subst e
        rw [k2 _ (by omega), g1, g2, w1, w2]; exact ⟨rfl, rfl⟩
      · exact c2.2.2.2.2 i' i0 (by omega)⟩
    refine ⟨τ3, ?_, q2⟩
    show p_X8_keep_126b (p_X8_keep_126 f) v (100 * v) i τ' = _
    unfold p_X8_keep_126b
    rw [zm_eq (a := i) (by omega) (by omega), if_neg (by omega), gd_pos (by omega), zm_eq (a := 100 * v + 75 + i) (by omega) (by omega), gd_pos (by omega), zm_eq (a := 100 * v + 83 + i) (by omega) (by omega)]
    simp only [nx, e1]
    rw [gd_pos (by omega), e2]
    exact q1
theorem M_kp54 {τ : St} {v : Int} (hv : 0 ≤ v ∧ v < 2) : ∀ (d f : Nat) (i : Int) (τ' : St), i + d = 24 → 0 ≤ i → d < f → KP τ τ' (100 * v) i 0 → ∃ τ'', p_X8_keep_54 f v (100 * v) i τ' = some (1, su τ'' 30 v 1) ∧ KP τ τ'' (100 * v) 24 8 := by
  intro d
  induction d with
  | zero =>
    intro f i τ' hi i0 hf hc
    obtain ⟨f, rfl⟩ := Nat.exists_eq_succ_of_ne_zero (by omega : f ≠ 0)
    have e8 : i = 24 := by omega
    subst e8
    obtain ⟨τ3, q1, q2⟩ := M_kp126 (τ := τ) hv 8 FU 0 τ' (by omega) (by omega) (FU_gt (by omega)) hc
    refine ⟨τ3, ?_, q2⟩
    show p_X8_keep_54b (p_X8_keep_54 f) v (100 * v) 24 τ' = _
    unfold p_X8_keep_54b
    rw [zm_eq (a := 24) (by omega) (by omega), if_pos (by omega)]
    exact q1
  | succ d ih =>
    intro f i τ' hi i0 hf hc
    obtain ⟨f, rfl⟩ := Nat.exists_eq_succ_of_ne_zero (by omega : f ≠ 0)
    obtain ⟨τ1, e1, f1, g1, k1⟩ := su_ex τ' 29 (100 * v + 3 + i) (τ' 18 i)
    obtain ⟨τ2, e2, f2, g2, k2⟩ := su_ex τ1 29 (100 * v + 27 + i) (τ1 19 i)
    obtain ⟨τ3, e3, f3, g3, k3⟩ := su_ex τ2 29 (100 * v + 51 + i) (if zm (τ 20 i) = 0 then 0 else 1)
    have w1 : τ' 18 = τ 18 := hc.1 18 (by decide)
    have w2 : τ1 19 = τ 19 := (f1 19 (by decide)).trans (hc.1 19 (by decide))
    have w3 : τ2 20 = τ 20 := (f2 20 (by decide)).trans ((f1 20 (by decide)).trans (hc.1 20 (by decide)))
    have c1 := hc.put (j := 100 * v + 3 + i) (by omega) (by omega) (by omega) f1 k1
    have c2 := c1.put (j := 100 * v + 27 + i) (by omega) (by omega) (by omega) f2 k2
    have c3 := c2.put (j := 100 * v + 51 + i) (by omega) (by omega) (by omega) f3 k3
    obtain ⟨τ4, q1, q2⟩ := ih f (i + 1) τ3 (by omega) (by omega) (by omega) ⟨c3.1, c3.2.1, c3.2.2.1, fun i' i0 i1 => by
      by_cases e : i' = i
      · subst e
        rw [k3 _ (by omega), k3 _ (by omega), k2 _ (by omega), g1, g2, g3, w1, w2]; exact ⟨rfl, rfl, rfl⟩
      · exact c3.2.2.2.1 i' i0 (by omega), c3.2.2.2.2⟩
    refine ⟨τ4, ?_, q2⟩
    show p_X8_keep_54b (p_X8_keep_54 f) v (100 * v) i τ' = _
    unfold p_X8_keep_54b
    rw [zm_eq (a := i) (by omega) (by omega), if_neg (by omega), gd_pos (by omega), zm_eq (a := 100 * v + 3 + i) (by omega) (by omega), gd_pos (by omega), zm_eq (a := 100 * v + 27 + i) (by omega) (by omega)]
    simp only [nx, e1]
    rw [gd_pos (by omega), e2, w3]
    unfold p_X8_keep_117
    rw [zm_eq (a := 100 * v + 51 + i) (by omega) (by omega), gd_pos (by omega), gd_pos (by omega)]
    simp only [nx]
    by_cases cz : zm (τ 20 i) = 0
    · rw [if_pos cz] at e3 ⊢
      rw [e3]
      exact q1
    · rw [if_neg cz] at e3 ⊢
      rw [e3]
      exact q1
