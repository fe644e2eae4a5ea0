theorem fst_g {t : St} {s h ru r m k : Int} {g g' : Int → Int} {fa : Int} (hk : 0 ≤ k ∧ k ≤ 3) (hg : ∀ k, 0 ≤ k → k ≤ 3 → g k = g' k) (hf : fst_ t s h ru r m k g fa) : fst_ t s h ru r m k g' fa := by
  have e1 := hg k hk.1 hk.2
  have e2 := hg (mo k) (mo_bd hk).1 (mo_bd hk).2
  unfold fst_ ask at *
  rw [← e1, ← e2]
  exact hf
section RM
variable {σ : St} {o : Int} {t : St} {s h ru p r m k : Int}
theorem X_rm93 (hc : PC σ o t s h ru) (hp : p = 0 ∨ (p = 1 ∧ 0 ≤ t 11 s)) (hSF : SF σ o t s h p) (hm : 0 ≤ m ∧ m ≤ 11) (hk : 0 ≤ k ∧ k ≤ 3) (hg : ∀ k, 0 ≤ k → k ≤ 3 → 0 ≤ gX σ o (m + 1) k ∧ gX σ o (m + 1) k ≤ 420000000) {fa : Int} (hfa : fst_ t s h ru r m k (gX σ o (m + 1)) fa) : p_X3_reckonMonth_93 o m k (gX σ o (m + 1) (mo k) - gX σ o (m + 1) k) fa σ = some (0, su (su σ (o + 4) (4 * m + k) fa) (o + 3) (4 * m + k) (mon t s h ru p r m (gX σ o (m + 1)) k)) := by
  obtain ⟨hk3, hsr, hhr, hs, hh, _⟩ := hc
  have h8 := hs.2.1
  obtain ⟨f0, f1, f2⟩ := hfa
  obtain ⟨n, hn⟩ : ∃ n : Nat, (n : Int) = t 8 s := ⟨(t 8 s).toNat, by omega⟩
  obtain ⟨fn, rfl⟩ : ∃ fn : Nat, fa = (fn : Int) := ⟨fa.toNat, by omega⟩
  have e8 : (t 8 s).toNat = n := by omega
  have g1 := hg k hk.1 hk.2
  have g2 := hg (mo k) (mo_bd hk).1 (mo_bd hk).2
  have bq := qS_bd hs hp
  have bd := qD_bd hs hh hp fn (by omega)
  have bo := qO_bd hs hp fn (by omega)
  have hal : msum t s h ru p r m (gX σ o (m + 1)) k n = 1000 * (gX σ o (m + 1) k + sm (qS t s p) n - sx (qD t s h p) n fn) + sx (od t s p) n fn * (gX σ o (m + 1) (mo k) - gX σ o (m + 1) k) := msum_alt (t := t) (s := s) (h := h) (ru := ru) (p := p) (r := r) (m := m) (k := k) (g := gX σ o (m + 1)) (n := n) (fa := fn) hn (by omega) (fun i i0 i1 => f2 i i0 (by omega))
  have hmb := msum_bd (t := t) (s := s) (h := h) (ru := ru) (p := p) (r := r) (m := m) (k := k) (g := gX σ o (m + 1)) (G := 420000000) hs hh hp hk hg n (by omega)
  obtain ⟨σ1, e1, a1, b1, c1⟩ := su_ex σ (o + 4) (4 * m + k) fn
  have hgx : gX σ1 o (m + 1) k = gX σ o (m + 1) k := by
    show σ1 (o + 3) _ = σ (o + 3) _
    rw [a1 _ (by omega)]
  have w1 : σ1 o 11 = sm (qS t s p) n := by rw [a1 _ (by omega), hSF.1, e8]
  have w2 : σ1 (o + 7) fn = sx (qD t s h p) n fn := by rw [a1 _ (by omega), (hSF.2.2 fn (by omega)).2, e8]
  have w3 : σ1 (o + 6) fn = sx (od t s p) n fn := by rw [a1 _ (by omega), (hSF.2.2 fn (by omega)).1, e8]
  rw [e8] at bq bd bo
  have i4 : m * 4 + k = 4 * m + k := by omega
  unfold p_X3_reckonMonth_93
  rw [i4, zm_eq (a := 4 * m + k) (by omega) (by omega), gd_pos (by omega)]
  simp only [nx, nz, e1]
  rw [X_inside (by omega) hk]
  simp only [Option.bind_some]
  rw [zm_eq (a := (fn : Int)) (by omega) (by omega), gd_pos (by omega), gd_pos (by omega), hgx, w1, w2, w3, zm_eq (a := gX σ o (m + 1) k) (by omega) (by omega), zm_eq (a := sm (qS t s p) n) (by omega) (by omega), zm_eq (a := sx (qD t s h p) n fn) (by omega) (by omega), zm_eq (a := sx (od t s p) n fn) (by omega) (by omega), zm_eq (a := gX σ o (m + 1) (mo k) - gX σ o (m + 1) k) (by omega) (by omega)]
  have e5 : (gX σ o (m + 1) k + sm (qS t s p) n - sx (qD t s h p) n fn) * 1000 + sx (od t s p) n fn * (gX σ o (m + 1) (mo k) - gX σ o (m + 1) k) = msum t s h ru p r m (gX σ o (m + 1)) k n := by
    rw [hal]
    omega
  rw [e5, zl_eq (by omega) (by omega)]
  unfold mon
  rw [e8]
theorem X_rm17 (hc : PC σ o t s h (-1)) (hp : p = 0 ∨ (p = 1 ∧ 0 ≤ t 11 s)) (hSF : SF σ o t s h p) (hm : 0 ≤ m ∧ m ≤ 11) (hk : 0 ≤ k ∧ k ≤ 3) (hg : ∀ k, 0 ≤ k → k ≤ 3 → 0 ≤ gX σ o (m + 1) k ∧ gX σ o (m + 1) k ≤ 420000000) : ∀ (d f i : Nat), (i : Int) + d = t 8 s → d < f → (∀ j : Int, 0 ≤ j → j < i → ¬ ask t h (-1) r m k (gX σ o (m + 1)) (t 9 (8 * s + j))) → ∃ fa, p_X3_reckonMonth_17 f o m k (gX σ o (m + 1) (mo k) - gX σ o (m + 1) k) i σ = p_X3_reckonMonth_93 o m k (gX σ o (m + 1) (mo k) - gX σ o (m + 1) k) fa σ ∧ fst_ t s h (-1) r m k (gX σ o (m + 1)) fa := by
  obtain ⟨hk3, hsr, hhr, hs, hh, _⟩ := hc
  have h8 := hs.2.1
  have g1 := hg k hk.1 hk.2
  have g2 := hg (mo k) (mo_bd hk).1 (mo_bd hk).2
  intro d
  induction d with
  | zero =>
    intro f i hi hf hlow
    obtain ⟨f, rfl⟩ := Nat.exists_eq_succ_of_ne_zero (by omega : f ≠ 0)
    refine ⟨i, ?_, by omega, by omega, fun j j0 j1 => ⟨fun q => absurd q (hlow j j0 (by omega)), fun q => by omega⟩⟩
    show p_X3_reckonMonth_17b (p_X3_reckonMonth_17 f) o m k _ i σ = _
    unfold p_X3_reckonMonth_17b
    rw [gd_pos hsr.1, hsr.2.1, zm_eq (a := t 8 s) (by omega) (by omega), zm_eq (a := (i : Int)) (by omega) (by omega), if_pos (by omega)]
  | succ d ih =>
    intro f i hi hf hlow
    obtain ⟨f, rfl⟩ := Nat.exists_eq_succ_of_ne_zero (by omega : f ≠ 0)
    have hS := hs.2.2.1 i (by omega) (by omega)
    have hb := bea_bd (S := t 9 (8 * s + i)) hh (by omega)
    have h5 := hSF.2.1 i (by omega)
    have hstep : p_X3_reckonMonth_17 (f + 1) o m k (gX σ o (m + 1) (mo k) - gX σ o (m + 1) k) i σ = (if gX σ o (m + 1) (mo k) - gX σ o (m + 1) k < (t 9 (8 * s + i) - bea t h (t 9 (8 * s + i))) * 1000 then p_X3_reckonMonth_93 o m k (gX σ o (m + 1) (mo k) - gX σ o (m + 1) k) i σ else p_X3_reckonMonth_17 f o m k (gX σ o (m + 1) (mo k) - gX σ o (m + 1) k) ((i : Int) + 1) σ) := by
      show p_X3_reckonMonth_17b (p_X3_reckonMonth_17 f) o m k _ i σ = _
      unfold p_X3_reckonMonth_17b
      rw [gd_pos hsr.1, hsr.2.1, zm_eq (a := t 8 s) (by omega) (by omega), zm_eq (a := (i : Int)) (by omega) (by omega), if_neg (by omega), gd_pos (by omega), h5, zm_eq (a := gX σ o (m + 1) (mo k) - gX σ o (m + 1) k) (by omega) (by omega), zm_eq (a := (t 9 (8 * s + i) - bea t h (t 9 (8 * s + i))) * 1000) (by omega) (by omega)]
    rw [hstep]
    have hask : ∀ S : Int, ask t h (-1) r m k (gX σ o (m + 1)) S ↔ gX σ o (m + 1) (mo k) - gX σ o (m + 1) k < (S - bea t h S) * 1000 := by
      intro S
      constructor
      · intro q
        rcases q with q | q
        · exact absurd q.1 (by decide)
        · omega
      · intro q
        exact Or.inr ⟨by decide, by omega⟩
    by_cases c : gX σ o (m + 1) (mo k) - gX σ o (m + 1) k < (t 9 (8 * s + i) - bea t h (t 9 (8 * s + i))) * 1000
    · rw [if_pos c]
      refine ⟨i, rfl, by omega, by omega, fun j j0 j1 => ⟨fun q => ?_, fun q => ?_⟩⟩
      · rcases Int.lt_or_le j i with w | w
        · exact absurd q (hlow j j0 w)
        · exact w
      · rw [hask]
        have e : j = (i : Int) + ((j - i).toNat : Nat) := by omega
        have h1 := mono_S hs (j - i).toNat i (by omega) (by omega)
        rw [← e] at h1
        have h2 := sub_bea_mono hh h1
        omega
    · rw [if_neg c]
      obtain ⟨fa, q1, q2⟩ := ih f (i + 1) (by omega) (by omega) (fun j j0 j1 => by
        by_cases w : j = i
        · subst w; rw [hask]; exact c
        · exact hlow j j0 (by omega))
      exact ⟨fa, q1, q2⟩
theorem X_rm60 (hru : 0 ≤ ru) (hc : PC σ o t s h ru) (hbr : 0 ≤ br t ru r m ∧ br t ru r m ≤ 999) (later : Int) : ∀ (d f i : Nat), (i : Int) + d = t 8 s → d < f → (∀ j : Int, 0 ≤ j → j < i → ¬ ask t h ru r m k (gX σ o (m + 1)) (t 9 (8 * s + j))) → ∃ fa, p_X3_reckonMonth_60 f o m k later i (br t ru r m) σ = p_X3_reckonMonth_93 o m k later fa σ ∧ fst_ t s h ru r m k (gX σ o (m + 1)) fa := by
  obtain ⟨hk3, hsr, hhr, hs, hh, _⟩ := hc
  have h8 := hs.2.1
  have hask : ∀ S : Int, ask t h ru r m k (gX σ o (m + 1)) S ↔ br t ru r m ≤ S := by
    intro S
    constructor
    · intro q
      rcases q with q | q
      · exact q.2
      · omega
    · intro q
      exact Or.inl ⟨hru, q⟩
  intro d
  induction d with
  | zero =>
    intro f i hi hf hlow
    obtain ⟨f, rfl⟩ := Nat.exists_eq_succ_of_ne_zero (by omega : f ≠ 0)
    refine ⟨i, ?_, by omega, by omega, fun j j0 j1 => ⟨fun q => absurd q (hlow j j0 (by omega)), fun q => by omega⟩⟩
    show p_X3_reckonMonth_60b (p_X3_reckonMonth_60 f) o m k later i _ σ = _
    unfold p_X3_reckonMonth_60b
    rw [gd_pos hsr.1, hsr.2.1, zm_eq (a := t 8 s) (by omega) (by omega), zm_eq (a := (i : Int)) (by omega) (by omega), if_pos (by omega)]
  | succ d ih =>
    intro f i hi hf hlow
    obtain ⟨f, rfl⟩ := Nat.exists_eq_succ_of_ne_zero (by omega : f ≠ 0)
    have hS := hs.2.2.1 i (by omega) (by omega)
    have hrow := (hsr.2.2.1 i (by omega) (by omega)).1
    have hstep : p_X3_reckonMonth_60 (f + 1) o m k later i (br t ru r m) σ = (if br t ru r m ≤ t 9 (8 * s + i) then p_X3_reckonMonth_93 o m k later i σ else p_X3_reckonMonth_60 f o m k later ((i : Int) + 1) (br t ru r m) σ) := by
      show p_X3_reckonMonth_60b (p_X3_reckonMonth_60 f) o m k later i _ σ = _
      unfold p_X3_reckonMonth_60b
      rw [gd_pos hsr.1, hsr.2.1, zm_eq (a := t 8 s) (by omega) (by omega), zm_eq (a := (i : Int)) (by omega) (by omega), if_neg (by omega), gd_pos (by omega), hrow, zm_eq (a := br t ru r m) (by omega) (by omega), zm_eq (a := t 9 (8 * s + i)) (by omega) (by omega)]
    rw [hstep]
    by_cases c : br t ru r m ≤ t 9 (8 * s + i)
    · rw [if_pos c]
      refine ⟨i, rfl, by omega, by omega, fun j j0 j1 => ⟨fun q => ?_, fun q => ?_⟩⟩
      · rcases Int.lt_or_le j i with w | w
        · exact absurd q (hlow j j0 w)
        · exact w
      · rw [hask]
        have e : j = (i : Int) + ((j - i).toNat : Nat) := by omega
        have h1 := mono_S hs (j - i).toNat i (by omega) (by omega)
        rw [← e] at h1
        omega
    · rw [if_neg c]
      obtain ⟨fa, q1, q2⟩ := ih f (i + 1) (by omega) (by omega) (fun j j0 j1 => by
        by_cases w : j = i
        · subst w; rw [hask]; exact c
        · exact hlow j j0 (by omega))
      exact ⟨fa, q1, q2⟩
theorem br_bd {u : Int} (hu : ROK t u) : 0 ≤ br t u r m ∧ br t u r m ≤ 999 := by
  have key : ∀ (d : Nat) (k : Int), 0 ≤ k → k + d = t 14 u → 0 ≤ brF t u r m d k ∧ brF t u r m d k ≤ 999 := by
    intro d
    induction d with
    | zero => intro k _ _; show (0 : Int) ≤ 0 ∧ (0 : Int) ≤ 999; omega
    | succ d ih =>
      intro k k0 hk
      have q0 := hu.2.2 k 0 k0 (by omega) (by omega) (by omega)
      rw [Int.add_zero] at q0
      have q1 := ih (k + 1) (by omega) (by omega)
      unfold brF
      split
      · exact q0
      · exact q1
  have h14 := hu.2.1
  exact key (t 14 u).toNat 0 (by omega) (by omega)
theorem X_reckonMonth (hc : PC σ o t s h ru) (hp : p = 0 ∨ (p = 1 ∧ 0 ≤ t 11 s)) (hSF : SF σ o t s h p) (hr12 : σ o 12 = r) (hr : 0 ≤ r ∧ r < t 1 h) (hm : 0 ≤ m ∧ m ≤ 11) (hk : 0 ≤ k ∧ k ≤ 3) (hg : ∀ k, 0 ≤ k → k ≤ 3 → 0 ≤ gX σ o (m + 1) k ∧ gX σ o (m + 1) k ≤ 420000000) : ∃ fa, p_X3_reckonMonth o m k σ = some (0, su (su σ (o + 4) (4 * m + k) fa) (o + 3) (4 * m + k) (mon t s h ru p r m (gX σ o (m + 1)) k)) ∧ fst_ t s h ru r m k (gX σ o (m + 1)) fa := by
  have h8 := hc.2.2.2.1.2.1
  have h10 := hc.2.2.2.2.1.2.1
  unfold p_X3_reckonMonth
  rw [X_costsLater hm hk]
  simp only [Option.bind_some]
  rcases hc.2.2.2.2.2 with ⟨h2, rfl⟩ | ⟨hrr, hu⟩
  · rw [if_pos h2]
    obtain ⟨fa, e1, hfa⟩ := X_rm17 (r := r) hc hp hSF hm hk hg (t 8 s).toNat FU 0 (by omega) (FU_gt (by omega)) (fun j j0 j1 => by omega)
    exact ⟨fa, e1.trans (X_rm93 hc hp hSF hm hk hg hfa), hfa⟩
  · have r5 := kx5 hrr.1
    have h0 := hu.1
    rw [if_neg (by omega), gd_pos hrr.1, hr12, X_barOn hrr hu (by omega) hm]
    simp only [Option.bind_some]
    obtain ⟨fa, e1, hfa⟩ := X_rm60 (r := r) (m := m) (k := k) h0.1 hc (br_bd hu) (gX σ o (m + 1) (mo k) - gX σ o (m + 1) k) (t 8 s).toNat FU 0 (by omega) (FU_gt (by omega)) (fun j j0 j1 => by omega)
    exact ⟨fa, e1.trans (X_rm93 hc hp hSF hm hk hg hfa), hfa⟩
end RM
