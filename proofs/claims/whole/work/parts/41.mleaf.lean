/-! the reference's small methods -/
theorem zand1 (a : Int) : zand a 1 = 0 ∨ zand a 1 = 1 := by
  obtain ⟨j, hj, e⟩ := pk_andE (zI a) (m := zI 1) 1 (by decide)
  have h : zand a 1 = (j : Int) := by
    unfold zand
    rw [e]
    exact nI_toInt (by omega)
  omega
theorem zcmp_lt (a b : Int) : zm (zcmp a b) < 0 ↔ zl a < zl b := by
  unfold zcmp
  by_cases h1 : zl b < zl a
  · rw [if_pos h1]
    exact ⟨fun h => absurd h (by decide), fun h => by omega⟩
  · rw [if_neg h1]
    by_cases h2 : zl a = zl b
    · rw [if_pos h2]
      exact ⟨fun h => absurd h (by decide), fun h => by omega⟩
    · rw [if_neg h2]
      exact ⟨fun h => by omega, fun h => by decide⟩
theorem zcmp_gt (a b : Int) : 0 < zm (zcmp a b) ↔ zl b < zl a := by
  unfold zcmp
  by_cases h1 : zl b < zl a
  · rw [if_pos h1]
    exact ⟨fun h => h1, fun h => by decide⟩
  · rw [if_neg h1]
    by_cases h2 : zl a = zl b
    · rw [if_pos h2]
      exact ⟨fun h => absurd h (by decide), fun h => by omega⟩
    · rw [if_neg h2]
      exact ⟨fun h => absurd h (by decide), fun h => by omega⟩
theorem zcmp_eq (a b : Int) : zm (zcmp a b) = 0 ↔ zl a = zl b := by
  unfold zcmp
  by_cases h1 : zl b < zl a
  · rw [if_pos h1]
    exact ⟨fun h => absurd h (by decide), fun h => by omega⟩
  · rw [if_neg h1]
    by_cases h2 : zl a = zl b
    · rw [if_pos h2]
      exact ⟨fun h => h2, fun h => by decide⟩
    · rw [if_neg h2]
      exact ⟨fun h => absurd h (by decide), fun h => by omega⟩
/-- a number that a long holds -/
def i64 (a : Int) : Prop := -9223372036854775808 ≤ a ∧ a < 9223372036854775808
theorem M_within {a b c : Int} (ha : i64 a) (hb : i64 b) (hc : i64 c) (τ : St) : p_X8_within a b c τ = some (if b ≤ a ∧ a ≤ c then 1 else 0, τ) := by
  unfold p_X8_within
  simp only [zcmp_lt, zcmp_gt, zl_eq ha.1 ha.2, zl_eq hb.1 hb.2, zl_eq hc.1 hc.2]
  by_cases h1 : a < b
  · rw [if_pos h1, if_neg (by omega)]
  · rw [if_neg h1]
    by_cases h2 : c < a
    · rw [if_pos h2, if_neg (by omega)]
    · rw [if_neg h2, if_pos (by omega)]
theorem M_more {k : Int} (hk : 0 ≤ k ∧ k ≤ 3) (τ : St) : p_X8_more k τ = some (mo k, τ) := by
  unfold p_X8_more mo
  rw [zm_eq (by omega) (by omega)]
  split <;> rfl
theorem M_bears {τ : St} {h S : Int} (h29 : τ 0 29 = h) (hh : HOK τ h) (hS : 0 ≤ S ∧ S ≤ 1000000) : p_X8_bears S τ = some (bea τ h S, τ) := by
  have h0 := hh.1
  have h6 := hh.2.2.2.2.2.1
  unfold p_X8_bears bea
  rw [h29, zm_eq (a := h) (by omega) (by omega), gd_pos (by omega), zm_eq (a := τ 6 h) (by omega) (by omega), zm_eq (a := S) (by omega) (by omega)]
  split <;> rfl
def pl (p y r m k : Int) : Int := ((((((p * 30) + y) * 10) + r) * 52) + (4 * m)) + k
theorem M_place (p y r m k : Int) (τ : St) : p_X8_place p y r m k τ = some (pl p y r m k, τ) := rfl
theorem M_has (v k : Int) (τ : St) : p_X8_has v k τ = some (if hasb v k then 1 else 0, τ) := by
  unfold p_X8_has
  have h := zand1 (zshr v k)
  have e : zm (zand (zshr v k) 1) = zand (zshr v k) 1 := zm_eq (by omega) (by omega)
  unfold hasb
  rw [e]
  rcases h with h | h
  · rw [h]; rfl
  · rw [h]; rfl
theorem M_nextOf {τ : St} {h r k : Int} (hh : HOK τ h) (hr : 0 ≤ r ∧ r < τ 1 h) (hk : 0 ≤ k ∧ k ≤ 3) : p_X8_nextOf h r k τ = some (nxt τ h r k, τ) := by
  obtain ⟨h0, h1, _, h4, h5, _, _⟩ := hh
  unfold p_X8_nextOf nxt
  rw [zm_eq (a := k) (by omega) (by omega), zm_eq (a := h) (by omega) (by omega), gd_pos (by omega), gd_pos (by omega), zm_eq (a := τ 1 h) (by omega) (by omega), zm_eq (a := r + τ 5 h) (by omega) (by omega), M_has]
  by_cases hk0 : k = 0
  · rw [if_pos hk0, if_pos hk0]
    split <;> rfl
  · rw [if_neg hk0, if_neg hk0]
    show (if zm (if hasb (τ 3 h) r then 1 else 0) = 0 then p_X8_nextOf_67 r (τ 4 h) k τ else p_X8_nextOf_67 r (τ 4 h) (k - 1) τ) = _
    have key : ∀ q : Int, 0 ≤ q → q ≤ 3 → p_X8_nextOf_67 r (τ 4 h) q τ = some (if 0 ≤ r - τ 4 h * q then r - τ 4 h * q else 0, τ) := by
      intro q hq0 hq3
      have e1 : 0 ≤ τ 4 h * q := Int.mul_nonneg (by omega) hq0
      have e2 : τ 4 h * q ≤ τ 4 h * 3 := Int.mul_le_mul_of_nonneg_left hq3 (by omega)
      unfold p_X8_nextOf_67
      rw [zm_eq (by omega) (by omega)]
      split <;> rfl
    by_cases hb : hasb (τ 3 h) r
    · rw [if_pos hb, if_neg (by decide), if_pos hb]
      exact key (k - 1) (by omega) (by omega)
    · rw [if_neg hb, if_pos (by decide), if_neg hb]
      exact key k (by omega) (by omega)
theorem M_oddsOf {τ : St} {s p i : Int} (hs : SOK τ s) (hp : p = 0 ∨ (p = 1 ∧ 0 ≤ τ 11 s)) (hi : 0 ≤ i ∧ i < τ 8 s) : p_X8_oddsOf s i p τ = some (od τ s p i, τ) := by
  have h0 := hs.1
  have h8 := hs.2.1
  have hq := hs.2.2.2.1 i hi.1 hi.2
  have hpn := hs.2.2.2.2.2.2
  unfold p_X8_oddsOf od
  rw [zm_eq (a := 8 * s + i) (by omega) (by omega), gd_pos (by omega), gd_pos (by omega)]
  rcases hp with rfl | ⟨rfl, hp⟩
  · rw [if_pos (by decide), if_pos rfl]
  · rw [if_neg (by decide), if_neg (by decide)]
    have h2 : 0 ≤ τ 12 s ∧ τ 12 s ≤ 100 := by omega
    have h3 : 0 ≤ τ 10 (8 * s + i) * (100 - τ 12 s) := Int.mul_nonneg (by omega) (by omega)
    have h4 : τ 10 (8 * s + i) * (100 - τ 12 s) ≤ τ 10 (8 * s + i) * 100 := Int.mul_le_mul_of_nonneg_left (by omega) (by omega)
    rw [zm_eq (a := s) (by omega) (by omega), gd_pos (by omega), zm_eq (a := τ 10 (8 * s + i) * (100 - τ 12 s)) (by omega) (by omega)]
theorem M_sumOdds_loop {τ : St} {s p : Int} (hs : SOK τ s) (hp : p = 0 ∨ (p = 1 ∧ 0 ≤ τ 11 s)) : ∀ (d n : Nat) (i : Nat), (i : Int) + d = τ 8 s → d < n → p_X8_sumOdds_5 n s p (sm (od τ s p) i) i τ = some (sm (od τ s p) (τ 8 s).toNat, τ) := by
  have h0 := hs.1
  have h8 := hs.2.1
  intro d
  induction d with
  | zero =>
    intro n i hi hn
    obtain ⟨n, rfl⟩ := Nat.exists_eq_succ_of_ne_zero (by omega : n ≠ 0)
    show p_X8_sumOdds_5b (p_X8_sumOdds_5 n) s p (sm (od τ s p) i) i τ = _
    unfold p_X8_sumOdds_5b
    rw [zm_eq (a := s) (by omega) (by omega), gd_pos (by omega), zm_eq (a := τ 8 s) (by omega) (by omega), zm_eq (a := (i : Int)) (by omega) (by omega), if_pos (by omega)]
    have : i = (τ 8 s).toNat := by omega
    rw [this]
  | succ d ih =>
    intro n i hi hn
    obtain ⟨n, rfl⟩ := Nat.exists_eq_succ_of_ne_zero (by omega : n ≠ 0)
    show p_X8_sumOdds_5b (p_X8_sumOdds_5 n) s p (sm (od τ s p) i) i τ = _
    unfold p_X8_sumOdds_5b
    rw [zm_eq (a := s) (by omega) (by omega), gd_pos (by omega), zm_eq (a := τ 8 s) (by omega) (by omega), zm_eq (a := (i : Int)) (by omega) (by omega), if_neg (by omega), M_oddsOf hs hp (by omega)]
    exact ih n (i + 1) (by omega) (by omega)
theorem FU_gt {n : Nat} (h : n < 100000) : n < FU := h
theorem M_sumOdds {τ : St} {s p : Int} (hs : SOK τ s) (hp : p = 0 ∨ (p = 1 ∧ 0 ≤ τ 11 s)) : p_X8_sumOdds s p τ = some (sm (od τ s p) (τ 8 s).toNat, τ) := by
  have h8 := hs.2.1
  exact M_sumOdds_loop hs hp (τ 8 s).toNat FU 0 (by omega) (FU_gt (by omega))
theorem M_asksBy_loop {τ : St} {ru r m S : Int} (hu : ROK τ ru) (hr : 0 ≤ r ∧ r ≤ 9) (hm : 0 ≤ m ∧ m ≤ 11) (hS : 0 ≤ S ∧ S ≤ 1000) : ∀ (d n : Nat) (k : Nat), (k : Int) + d = τ 14 ru → d < n → p_X8_asksBy_3 n ru r m S k τ = some (if brF τ ru r m d k ≤ S then 1 else 0, τ) := by
  have h0 := hu.1
  have h14 := hu.2.1
  intro d
  induction d with
  | zero =>
    intro n k hk hn
    obtain ⟨n, rfl⟩ := Nat.exists_eq_succ_of_ne_zero (by omega : n ≠ 0)
    show p_X8_asksBy_3b (p_X8_asksBy_3 n) ru r m S k τ = _
    unfold p_X8_asksBy_3b
    rw [zm_eq (a := ru) (by omega) (by omega), gd_pos (by omega), zm_eq (a := τ 14 ru) (by omega) (by omega), zm_eq (a := (k : Int)) (by omega) (by omega), if_pos (by omega)]
    show some ((1 : Int), τ) = some (if (0 : Int) ≤ S then 1 else 0, τ)
    rw [if_pos hS.1]
  | succ d ih =>
    intro n k hk hn
    obtain ⟨n, rfl⟩ := Nat.exists_eq_succ_of_ne_zero (by omega : n ≠ 0)
    have q0 := hu.2.2 k 0 (by omega) (by omega) (by omega) (by omega)
    have q1 := hu.2.2 k 1 (by omega) (by omega) (by omega) (by omega)
    have q2 := hu.2.2 k 2 (by omega) (by omega) (by omega) (by omega)
    have q3 := hu.2.2 k 3 (by omega) (by omega) (by omega) (by omega)
    have q4 := hu.2.2 k 4 (by omega) (by omega) (by omega) (by omega)
    rw [Int.add_zero] at q0
    show p_X8_asksBy_3b (p_X8_asksBy_3 n) ru r m S k τ = _
    unfold p_X8_asksBy_3b
    have e1 : zm (30 * ru + 5 * (k : Int) + 1) = 30 * ru + 5 * (k : Int) + 1 := zm_eq (by omega) (by omega)
    have e2 : zm (30 * ru + 5 * (k : Int) + 2) = 30 * ru + 5 * (k : Int) + 2 := zm_eq (by omega) (by omega)
    have e3 : zm (30 * ru + 5 * (k : Int) + 3) = 30 * ru + 5 * (k : Int) + 3 := zm_eq (by omega) (by omega)
    have e4 : zm (30 * ru + 5 * (k : Int) + 4) = 30 * ru + 5 * (k : Int) + 4 := zm_eq (by omega) (by omega)
    have e0 : zm (30 * ru + 5 * (k : Int)) = 30 * ru + 5 * (k : Int) := zm_eq (by omega) (by omega)
    rw [zm_eq (a := ru) (by omega) (by omega), gd_pos (by omega), zm_eq (a := τ 14 ru) (by omega) (by omega), zm_eq (a := (k : Int)) (by omega) (by omega), if_neg (by omega), e1, e2, e3, e4, e0, gd_pos (by omega), gd_pos (by omega), zm_eq (a := r) (by omega) (by omega), zm_eq (a := m) (by omega) (by omega), zm_eq (a := S) (by omega) (by omega)]
    rw [zm_eq (a := τ 15 (30 * ru + 5 * (k : Int) + 1)) (by omega) (by omega), zm_eq (a := τ 15 (30 * ru + 5 * (k : Int) + 2)) (by omega) (by omega)]
    rw [M_within ⟨by omega, by omega⟩ ⟨by omega, by omega⟩ ⟨by omega, by omega⟩]
    show (if zm (if τ 15 (30 * ru + 5 * (k : Int) + 1) ≤ r ∧ r ≤ τ 15 (30 * ru + 5 * (k : Int) + 2) then 1 else 0) = 0 then p_X8_asksBy_99 (p_X8_asksBy_3 n) ru r m S k τ else _) = _
    have hnext : p_X8_asksBy_99 (p_X8_asksBy_3 n) ru r m S k τ = some (if brF τ ru r m d ((k : Int) + 1) ≤ S then 1 else 0, τ) := ih n (k + 1) (by omega) (by omega)
    show _ = some (if (if (τ 15 (30 * ru + 5 * (k : Int) + 1) ≤ r ∧ r ≤ τ 15 (30 * ru + 5 * (k : Int) + 2)) ∧ (τ 15 (30 * ru + 5 * (k : Int) + 3) ≤ m ∧ m ≤ τ 15 (30 * ru + 5 * (k : Int) + 4)) then τ 15 (30 * ru + 5 * (k : Int)) else brF τ ru r m d ((k : Int) + 1)) ≤ S then 1 else 0, τ)
    by_cases c1 : τ 15 (30 * ru + 5 * (k : Int) + 1) ≤ r ∧ r ≤ τ 15 (30 * ru + 5 * (k : Int) + 2)
    · rw [if_pos c1, if_neg (by decide), gd_pos (by omega), gd_pos (by omega)]
      dsimp only
      rw [zm_eq (a := τ 15 (30 * ru + 5 * (k : Int) + 3)) (by omega) (by omega), zm_eq (a := τ 15 (30 * ru + 5 * (k : Int) + 4)) (by omega) (by omega)]
      rw [M_within ⟨by omega, by omega⟩ ⟨by omega, by omega⟩ ⟨by omega, by omega⟩]
      show (if zm (if τ 15 (30 * ru + 5 * (k : Int) + 3) ≤ m ∧ m ≤ τ 15 (30 * ru + 5 * (k : Int) + 4) then 1 else 0) = 0 then p_X8_asksBy_99 (p_X8_asksBy_3 n) ru r m S k τ else _) = _
      by_cases c2 : τ 15 (30 * ru + 5 * (k : Int) + 3) ≤ m ∧ m ≤ τ 15 (30 * ru + 5 * (k : Int) + 4)
      · rw [if_pos c2, if_neg (by decide), gd_pos (by omega), if_pos (show (τ 15 (30 * ru + 5 * (k : Int) + 1) ≤ r ∧ r ≤ τ 15 (30 * ru + 5 * (k : Int) + 2)) ∧ (τ 15 (30 * ru + 5 * (k : Int) + 3) ≤ m ∧ m ≤ τ 15 (30 * ru + 5 * (k : Int) + 4)) from ⟨c1, c2⟩)]
        dsimp only
        rw [zm_eq (a := τ 15 (30 * ru + 5 * (k : Int))) (by omega) (by omega)]
        by_cases c3 : S < τ 15 (30 * ru + 5 * (k : Int))
        · rw [if_pos c3, if_neg (by omega)]
        · rw [if_neg c3, if_pos (by omega)]
      · rw [if_neg c2, if_pos (by decide), if_neg (show ¬ ((τ 15 (30 * ru + 5 * (k : Int) + 1) ≤ r ∧ r ≤ τ 15 (30 * ru + 5 * (k : Int) + 2)) ∧ (τ 15 (30 * ru + 5 * (k : Int) + 3) ≤ m ∧ m ≤ τ 15 (30 * ru + 5 * (k : Int) + 4))) from fun q => c2 q.2)]
        exact hnext
    · rw [if_neg c1, if_pos (by decide), if_neg (show ¬ ((τ 15 (30 * ru + 5 * (k : Int) + 1) ≤ r ∧ r ≤ τ 15 (30 * ru + 5 * (k : Int) + 2)) ∧ (τ 15 (30 * ru + 5 * (k : Int) + 3) ≤ m ∧ m ≤ τ 15 (30 * ru + 5 * (k : Int) + 4))) from fun q => c1 q.1)]
      exact hnext
theorem M_asksBy {τ : St} {ru r m S : Int} (hu : ROK τ ru) (hr : 0 ≤ r ∧ r ≤ 9) (hm : 0 ≤ m ∧ m ≤ 11) (hS : 0 ≤ S ∧ S ≤ 1000) : p_X8_asksBy ru r m S τ = some (if br τ ru r m ≤ S then 1 else 0, τ) := by
  have h14 := hu.2.1
  have := M_asksBy_loop hu hr hm hS (τ 14 ru).toNat FU 0 (by omega) (FU_gt (by omega))
  exact this
