theorem X_oneMore {k : Int} (hk : 0 ≤ k ∧ k ≤ 3) (σ : St) : p_X7_oneMore k σ = some (mo k, σ) := by
  unfold p_X7_oneMore mo
  rw [zm_eq (a := k) (by omega) (by omega)]
  by_cases q : k = 3
  · rw [if_pos (show 3 ≤ k by omega), if_pos q]
  · rw [if_neg (show ¬ 3 ≤ k by omega), if_neg q]
theorem X_cw {σ t : St} {o s h ru n left r : Int} (kn : KN σ o t s h ru n 0) (hn : n ≤ 30) (hl : 0 ≤ left ∧ left ≤ n) (hr : 0 ≤ r ∧ r < t 1 h) (h10 : t 1 h ≤ 10) : p_X3_costWith o left r σ = some (cst t s h ru left.toNat r, σ) := by
  unfold p_X3_costWith
  rw [zm_eq (a := left * 10 + r) (by omega) (by omega), gd_pos (by omega), show left * 10 + r = 10 * left + r by omega, kn.1 left r hl.1 hr.1 hr.2 (Or.inl hl.2)]
theorem X_leastAsked {σ t : St} {o s h ru m k fa : Int} (hc : PC σ o t s h ru) (hm : 0 ≤ m ∧ m ≤ 11) (hk : 0 ≤ k ∧ k ≤ 3) (hfa : σ (o + 4) (4 * m + k) = fa) (hb : 0 ≤ fa ∧ fa ≤ t 8 s) : p_X3_leastAsked o m k σ = some (if fa < t 8 s then t 9 (8 * s + fa) else -1, σ) := by
  have hs := hc.2.2.2.1
  have h8 := hs.2.1
  have sr := hc.2.1
  unfold p_X3_leastAsked
  rw [zm_eq (a := m * 4 + k) (by omega) (by omega), gd_pos (by omega), gd_pos sr.1, sr.2.1, show m * 4 + k = 4 * m + k by omega, hfa, zm_eq (a := t 8 s) (by omega) (by omega), zm_eq (a := fa) (by omega) (by omega)]
  by_cases q : fa < t 8 s
  · rw [if_neg (by omega), gd_pos (by omega), (sr.2.2.1 fa hb.1 q).1, if_pos q]
  · rw [if_pos (by omega), if_neg q]
theorem M_bar71 {τ : St} {s h ru y r m k v fa : Int} (hc : MC τ s h ru) (hv : v = 0 ∨ v = 1) (hy : 0 ≤ y ∧ y < 30) (hr : 0 ≤ r ∧ r < 10) (hm : 0 ≤ m ∧ m ≤ 11) (hk : 0 ≤ k ∧ k ≤ 3) (hg : ∀ k, 0 ≤ k → k ≤ 3 → 0 ≤ gAt τ (pEf τ s v) y r (m + 1) k ∧ gAt τ (pEf τ s v) y r (m + 1) k ≤ 420000000) (hf : fst_ τ s h ru r m k (gAt τ (pEf τ s v) y r (m + 1)) fa) : ∀ (d n i : Nat), (i : Int) + d = τ 8 s → d < n → (i : Int) ≤ fa → p_X8_bar_71 n s y r m k v i τ = some (if fa < τ 8 s then τ 9 (8 * s + fa) else -1, τ) := by
  have hs := hc.2.2.2.1
  have h4 := hs.1
  have h8 := hs.2.1
  have hpe : 0 ≤ pEf τ s v ∧ pEf τ s v ≤ 1 := by rcases pEf_ok (t := τ) (s := s) v with q | ⟨q, _⟩ <;> omega
  obtain ⟨f0, f1, f2⟩ := hf
  intro d
  induction d with
  | zero =>
    intro n i hi hn hle
    obtain ⟨n, rfl⟩ := Nat.exists_eq_succ_of_ne_zero (by omega : n ≠ 0)
    show p_X8_bar_71b (p_X8_bar_71 n) s y r m k v i τ = _
    unfold p_X8_bar_71b
    rw [zm_eq (a := s) (by omega) (by omega), gd_pos (by omega), zm_eq (a := τ 8 s) (by omega) (by omega), zm_eq (a := (i : Int)) (by omega) (by omega), if_pos (by omega), if_neg (by omega)]
  | succ d ih =>
    intro n i hi hn hle
    obtain ⟨n, rfl⟩ := Nat.exists_eq_succ_of_ne_zero (by omega : n ≠ 0)
    show p_X8_bar_71b (p_X8_bar_71 n) s y r m k v i τ = _
    unfold p_X8_bar_71b
    rw [zm_eq (a := s) (by omega) (by omega), gd_pos (by omega), zm_eq (a := τ 8 s) (by omega) (by omega), zm_eq (a := (i : Int)) (by omega) (by omega), if_neg (by omega), M_painOf hc hv]
    simp only [bnd_some]
    rw [zm_eq (a := 8 * s + i) (by omega) (by omega), gd_pos (by omega), M_asks hc hpe hy hr hm hk (hs.2.2.1 i (by omega) (by omega)) hg]
    have q2 := f2 i (by omega) (by omega)
    by_cases q : fa ≤ i
    · have e : (i : Int) = fa := by omega
      rw [if_pos (q2.2 q)]
      simp only [bnd_some, zm1n, if_false]
      rw [if_pos (by omega), e]
    · rw [if_neg (fun z => q (q2.1 z))]
      simp only [bnd_some, zm0t, if_true]
      have := ih n (i + 1) (by omega) (by omega) (by omega)
      rw [show ((i + 1 : Nat) : Int) = (i : Int) + 1 by omega] at this
      exact this
theorem X_isAsked {σ t : St} {o s h m k S r : Int} (hc : PC σ o t s h (-1)) (hm : 0 ≤ m ∧ m ≤ 11) (hk : 0 ≤ k ∧ k ≤ 3) (hS : 1 ≤ S ∧ S ≤ 999) (hg : ∀ k, 0 ≤ k → k ≤ 3 → 0 ≤ gX σ o (m + 1) k ∧ gX σ o (m + 1) k ≤ 420000000) : p_X3_isAsked o m k S σ = some (if ask t h (-1) r m k (gX σ o (m + 1)) S then 1 else 0, σ) := by
  have hh := hc.2.2.2.2.1
  have hr := hc.2.2.1
  have g1 := hg k hk.1 hk.2
  have g2 := hg (mo k) (mo_bd hk).1 (mo_bd hk).2
  have bb := bea_bd (S := S) hh (by omega)
  unfold p_X3_isAsked
  rw [gd_pos hr.1, X_bears hr hh (by omega)]
  simp only [bnd_some]
  rw [X_costsLater hm hk]
  simp only [bnd_some]
  rw [zm_eq (a := (S - bea t h S) * 1000) (by omega) (by omega), zm_eq (a := gX σ o (m + 1) (mo k) - gX σ o (m + 1) k) (by omega) (by omega)]
  by_cases q : ask t h (-1) r m k (gX σ o (m + 1)) S
  · rw [if_pos q, if_neg]
    rcases q with q | q
    · omega
    · have := q.2; omega
  · rw [if_neg q, if_pos]
    by_cases z : (S - bea t h S) * 1000 ≤ gX σ o (m + 1) (mo k) - gX σ o (m + 1) k
    · exact z
    · exact absurd (Or.inr ⟨by decide, by omega⟩) q
theorem judge_loop {σ τ : St} {o s h y r : Int} (hc : PC σ o τ s h (-1)) (mc : MC τ s h (-1)) (hy : 0 ≤ y ∧ y < 30) (hr : 0 ≤ r ∧ r < 10) (hM : MR σ 16 (τ 0 33) (τ 0 42) (τ 0 47) (τ 18) (τ 19) (τ 20) (τ 25) (τ 26)) (hg : ∀ m k, 0 ≤ m → m ≤ 12 → 0 ≤ k → k ≤ 3 → gX σ o m k = gAt τ 0 y r m k ∧ 0 ≤ gX σ o m k ∧ gX σ o m k ≤ 420000000) : ∀ (d f n i : Nat) (k : Int), (i : Int) + d = τ 0 33 → d < f → d < n → 0 ≤ k → k ≤ 3 → ∃ a, p_X7_judge_60 f o k i σ = some (a, σ) ∧ p_X8_judge_48 n y r k i τ = some (a, τ) := by
  obtain ⟨⟨m3, m0, m12⟩, mL, mB, _⟩ := hM
  intro d
  induction d with
  | zero =>
    intro f n i k hi hf hn k0 k3
    obtain ⟨f, rfl⟩ := Nat.exists_eq_succ_of_ne_zero (by omega : f ≠ 0)
    obtain ⟨n, rfl⟩ := Nat.exists_eq_succ_of_ne_zero (by omega : n ≠ 0)
    refine ⟨-1, ?_, ?_⟩
    · show p_X7_judge_60b (p_X7_judge_60 f) o k i σ = _
      unfold p_X7_judge_60b
      rw [m3, zm_eq (a := τ 0 33) (by omega) (by omega), zm_eq (a := (i : Int)) (by omega) (by omega), if_pos (by omega)]
    · show p_X8_judge_48b (p_X8_judge_48 n) y r k i τ = _
      unfold p_X8_judge_48b
      rw [zm_eq (a := τ 0 33) (by omega) (by omega), zm_eq (a := (i : Int)) (by omega) (by omega), if_pos (by omega)]
  | succ d ih =>
    intro f n i k hi hf hn k0 k3
    obtain ⟨f, rfl⟩ := Nat.exists_eq_succ_of_ne_zero (by omega : f ≠ 0)
    obtain ⟨n, rfl⟩ := Nat.exists_eq_succ_of_ne_zero (by omega : n ≠ 0)
    obtain ⟨u1, u2, u3, u4, u5, u6, u7⟩ := mL i (by omega) (by omega)
    have u8 := mB i (by omega) (by omega)
    have hmm : 0 ≤ τ 18 i ∧ τ 18 i ≤ 11 := by omega
    have gb : ∀ k, 0 ≤ k → k ≤ 3 → 0 ≤ gX σ o (τ 18 i + 1) k ∧ gX σ o (τ 18 i + 1) k ≤ 420000000 := fun k q1 q2 => (hg (τ 18 i + 1) k (by omega) (by omega) q1 q2).2
    have ge : ∀ k, 0 ≤ k → k ≤ 3 → gX σ o (τ 18 i + 1) k = gAt τ 0 y r (τ 18 i + 1) k := fun k q1 q2 => (hg (τ 18 i + 1) k (by omega) (by omega) q1 q2).1
    have hk : 0 ≤ k ∧ k ≤ 3 := ⟨k0, k3⟩
    have hmk := mo_bd hk
    have xa := X_isAsked (r := r) (S := τ 19 i) hc hmm hk (by omega) gb
    have ma := M_asks (p := 0) (S := τ 19 i) mc (by omega) hy hr hmm hk (by omega) (fun k q1 q2 => by rw [← ge k q1 q2]; exact gb k q1 q2)
    have iff : ask τ h (-1) r (τ 18 i) k (gX σ o (τ 18 i + 1)) (τ 19 i) ↔ ask τ h (-1) r (τ 18 i) k (gAt τ 0 y r (τ 18 i + 1)) (τ 19 i) := by
      unfold ask
      rw [ge k k0 k3, ge (mo k) hmk.1 hmk.2]
    obtain ⟨A, hA, hxa, hma⟩ : ∃ A : Int, (A = 0 ∨ A = 1) ∧ p_X3_isAsked o (τ 18 i) k (τ 19 i) σ = some (A, σ) ∧ p_X8_asks 0 y r (τ 18 i) k (τ 19 i) τ = some (A, τ) := by
      by_cases q : ask τ h (-1) r (τ 18 i) k (gX σ o (τ 18 i + 1)) (τ 19 i)
      · rw [if_pos q] at xa
        rw [if_pos (iff.1 q)] at ma
        exact ⟨1, Or.inr rfl, xa, ma⟩
      · rw [if_neg q] at xa
        rw [if_neg (fun z => q (iff.2 z))] at ma
        exact ⟨0, Or.inl rfl, xa, ma⟩
    have zA : zm A = A := zm_eq (by omega) (by omega)
    have zC : zm (τ 20 i) = τ 20 i := zm_eq (by omega) (by omega)
    have ex : p_X7_judge_60 (f + 1) o k i σ = if A = τ 20 i then (if τ 20 i = 0 then p_X7_judge_60 f o k (i + 1) σ else p_X7_judge_60 f o (mo k) (i + 1) σ) else some ((i : Int), σ) := by
      show p_X7_judge_60b (p_X7_judge_60 f) o k i σ = _
      unfold p_X7_judge_60b p_X7_judge_135
      rw [m3, zm_eq (a := τ 0 33) (by omega) (by omega), zm_eq (a := (i : Int)) (by omega) (by omega), if_neg (by omega), gd_pos (by omega), u1, u2, hxa]
      simp only [bnd_some]
      rw [u3, zA, zC]
      rw [X_oneMore hk]
      simp only [bnd_some]
    have em : p_X8_judge_48 (n + 1) y r k i τ = if A = τ 20 i then (if τ 20 i = 0 then p_X8_judge_48 n y r k (i + 1) τ else p_X8_judge_48 n y r (mo k) (i + 1) τ) else some ((i : Int), τ) := by
      show p_X8_judge_48b (p_X8_judge_48 n) y r k i τ = _
      unfold p_X8_judge_48b p_X8_judge_116
      rw [zm_eq (a := τ 0 33) (by omega) (by omega), zm_eq (a := (i : Int)) (by omega) (by omega), if_neg (by omega), gd_pos (by omega), hma]
      simp only [bnd_some]
      rw [zA, zC, M_more hk]
      simp only [bnd_some]
    have key : ∀ k' : Int, 0 ≤ k' → k' ≤ 3 → ∃ a, p_X7_judge_60 f o k' (i + 1) σ = some (a, σ) ∧ p_X8_judge_48 n y r k' (i + 1) τ = some (a, τ) := fun k' q1 q2 => ih f n (i + 1) k' (by omega) (by omega) (by omega) q1 q2
    rw [ex, em]
    by_cases q : A = τ 20 i
    · simp only [if_pos q]
      by_cases q2 : τ 20 i = 0
      · simp only [if_pos q2]
        exact key k k0 k3
      · simp only [if_neg q2]
        exact key (mo k) hmk.1 hmk.2
    · simp only [if_neg q]
      exact ⟨i, rfl, rfl⟩
theorem ok_bar {a1 a2 a3 a4 a5 a6 a7 a8 : Int} (h1 : i32 a1) (h2 : i32 a2) (h3 : i32 a3) (h4 : i32 a4) (h5 : i32 a5) (h6 : i32 a6) (h7 : i32 a7) (h8 : a8 = 0 ∨ a8 = 1) : StepOK Inv (p_X7_bar a1 a2 a3 a4 a5 a6 a7 a8) (p_X8_bar a1 a2 a3 a4 a5 a6 a7 a8) := fun σ τ hI => by
  have hw := hI.2.1
  by_cases c1 : cS τ a1
  rotate_left
  · refine st_eq (a := -1000000001) ?_ ?_ hI
    · unfold p_X7_bar
      rw [X_isSort hw h1, if_neg c1]
      simp only [bnd_some, zm0t, zm1n, if_true, if_false]
    · unfold p_X8_bar
      rw [M_isSort hw h1, if_neg c1]
      simp only [bnd_some, zm0t, zm1n, if_true, if_false]
  by_cases c2 : cG τ a2 a5
  rotate_left
  · refine st_eq (a := -1000000001) ?_ ?_ hI
    · unfold p_X7_bar
      rw [X_isSort hw h1, if_pos c1]
      simp only [bnd_some, zm0t, zm1n, if_true, if_false]
      rw [X_isRung hw h2 h5, if_neg c2]
      simp only [bnd_some, zm0t, zm1n, if_true, if_false]
    · unfold p_X8_bar
      rw [M_isSort hw h1, if_pos c1]
      simp only [bnd_some, zm0t, zm1n, if_true, if_false]
      rw [M_isRung hw h2 h5, if_neg c2]
      simp only [bnd_some, zm0t, zm1n, if_true, if_false]
  by_cases c3 : cY a3 a4
  rotate_left
  · refine st_eq (a := -1000000002) ?_ ?_ hI
    · unfold p_X7_bar
      rw [X_isSort hw h1, if_pos c1]
      simp only [bnd_some, zm0t, zm1n, if_true, if_false]
      rw [X_isRung hw h2 h5, if_pos c2]
      simp only [bnd_some, zm0t, zm1n, if_true, if_false]
      rw [X_isNoYear h3 h4, if_neg c3]
      simp only [bnd_some, zm0t, zm1n, if_true, if_false]
    · unfold p_X8_bar
      rw [M_isSort hw h1, if_pos c1]
      simp only [bnd_some, zm0t, zm1n, if_true, if_false]
      rw [M_isRung hw h2 h5, if_pos c2]
      simp only [bnd_some, zm0t, zm1n, if_true, if_false]
      rw [M_isWhen h3 h4, if_neg c3]
      simp only [bnd_some, zm0t, zm1n, if_true, if_false]
  by_cases c4 : 0 ≤ a6 ∧ a6 ≤ 11
  rotate_left
  · refine st_eq (a := -1000000002) ?_ ?_ hI
    · unfold p_X7_bar
      rw [X_isSort hw h1, if_pos c1]
      simp only [bnd_some, zm0t, zm1n, if_true, if_false]
      rw [X_isRung hw h2 h5, if_pos c2]
      simp only [bnd_some, zm0t, zm1n, if_true, if_false]
      rw [X_isNoYear h3 h4, if_pos c3]
      simp only [bnd_some, zm0t, zm1n, if_true, if_false]
      rw [X_isOut h6 ⟨by decide, by decide⟩ ⟨by decide, by decide⟩, if_neg c4]
      simp only [bnd_some, zm0t, zm1n, if_true, if_false]
    · unfold p_X8_bar
      rw [M_isSort hw h1, if_pos c1]
      simp only [bnd_some, zm0t, zm1n, if_true, if_false]
      rw [M_isRung hw h2 h5, if_pos c2]
      simp only [bnd_some, zm0t, zm1n, if_true, if_false]
      rw [M_isWhen h3 h4, if_pos c3]
      simp only [bnd_some, zm0t, zm1n, if_true, if_false]
      rw [M_wi h6 ⟨by decide, by decide⟩ ⟨by decide, by decide⟩, if_neg c4]
      simp only [bnd_some, zm0t, zm1n, if_true, if_false]
  by_cases c5 : 0 ≤ a7 ∧ a7 ≤ 3
  rotate_left
  · refine st_eq (a := -1000000002) ?_ ?_ hI
    · unfold p_X7_bar
      rw [X_isSort hw h1, if_pos c1]
      simp only [bnd_some, zm0t, zm1n, if_true, if_false]
      rw [X_isRung hw h2 h5, if_pos c2]
      simp only [bnd_some, zm0t, zm1n, if_true, if_false]
      rw [X_isNoYear h3 h4, if_pos c3]
      simp only [bnd_some, zm0t, zm1n, if_true, if_false]
      rw [X_isOut h6 ⟨by decide, by decide⟩ ⟨by decide, by decide⟩, if_pos c4]
      simp only [bnd_some, zm0t, zm1n, if_true, if_false]
      rw [X_isOut h7 ⟨by decide, by decide⟩ ⟨by decide, by decide⟩, if_neg c5]
      simp only [bnd_some, zm0t, zm1n, if_true, if_false]
    · unfold p_X8_bar
      rw [M_isSort hw h1, if_pos c1]
      simp only [bnd_some, zm0t, zm1n, if_true, if_false]
      rw [M_isRung hw h2 h5, if_pos c2]
      simp only [bnd_some, zm0t, zm1n, if_true, if_false]
      rw [M_isWhen h3 h4, if_pos c3]
      simp only [bnd_some, zm0t, zm1n, if_true, if_false]
      rw [M_wi h6 ⟨by decide, by decide⟩ ⟨by decide, by decide⟩, if_pos c4]
      simp only [bnd_some, zm0t, zm1n, if_true, if_false]
      rw [M_wi h7 ⟨by decide, by decide⟩ ⟨by decide, by decide⟩, if_neg c5]
      simp only [bnd_some, zm0t, zm1n, if_true, if_false]
  obtain ⟨τ', e, o, w, hI', cs, ch, _⟩ := M_wk hI c1 c2.1 (Or.inl rfl) c3.1
  obtain ⟨σ', x, fr, hI2, hc, n, n1, n2, kn⟩ := X_planOf hI' cs ch (Y := a3) (by omega)
  have t1 : τ' 1 a2 = τ 1 a2 := by rw [o.1 1 (by decide) (by decide) (by decide)]
  have h10 := hw.rg c2.1.1.1 c2.1.1.2
  have q4 := hw.1
  have g2 := c2.2
  have g3 := c3
  have hs := hc.2.2.2.1
  have hh := hc.2.2.2.2.1
  obtain ⟨σ2, y, oy⟩ := X_openYear (left := a3 - a4) (c := cst τ' a1 a2 (-1) (a3 - a4 - 1).toNat) hc h8 (by omega : 0 ≤ a5 ∧ a5 < τ' 1 a2) (Int.le_refl 400000000) (cst_b hs hh (by omega)) (by omega) (fun r r0 r1 => kn.1 (a3 - a4 - 1) r (by omega) r0 r1 (by omega))
  have hI3 := hI2.oy (by omega) ch.1 oy
  have i12 : (12 - (a6 + 1)).toNat = (11 - a6).toNat := by omega
  have hc3 := hc.to oy.1
  obtain ⟨fa, hfa⟩ : ∃ fa, σ2 (pO a1 a2 + 4) (4 * a6 + a7) = fa := ⟨_, rfl⟩
  have hf := oy.2.2.2.2.2.2 a6 a7 c4.1 c4.2 c5.1 c5.2
  rw [hfa] at hf
  have ge : ∀ k, 0 ≤ k → k ≤ 3 → inM τ' a1 a2 (-1) (pEf τ' a1 a8) a5 (cst τ' a1 a2 (-1) (a3 - a4 - 1).toNat) (11 - a6).toNat k = gAt τ' (pEf τ' a1 a8) a4 a5 (a6 + 1) k := fun k k0 k3 => by
    rw [← i12, ← w.2.2.2.2.2 a4 a5 (pEf τ' a1 a8) (a6 + 1) k (by omega) (by omega) (by omega) (by omega) (pEf_cpn a8) (by omega) (by omega) k0 k3]
  have gb : ∀ k, 0 ≤ k → k ≤ 3 → 0 ≤ gAt τ' (pEf τ' a1 a8) a4 a5 (a6 + 1) k ∧ gAt τ' (pEf τ' a1 a8) a4 a5 (a6 + 1) k ≤ 420000000 := fun k k0 k3 => by
    rw [← ge k k0 k3]
    have q := inM_bd (p := pEf τ' a1 a8) (ru := -1) (r := a5) hs hh (pEf_ok a8) (by omega) (cst_b (ru := -1) hs hh (n := a3 - a4 - 1) (by omega)) (11 - a6).toNat k k0 k3
    omega
  have hf2 := fst_g c5 ge hf
  refine st_eq (a := if fa < τ' 8 a1 then τ' 9 (8 * a1 + fa) else -1) ?_ ?_ hI3
  · unfold p_X7_bar
    rw [X_isSort hw h1, if_pos c1]
    simp only [bnd_some, zm0t, zm1n, if_true, if_false]
    rw [X_isRung hw h2 h5, if_pos c2]
    simp only [bnd_some, zm0t, zm1n, if_true, if_false]
    rw [X_isNoYear h3 h4, if_pos c3]
    simp only [bnd_some, zm0t, zm1n, if_true, if_false]
    rw [X_isOut h6 ⟨by decide, by decide⟩ ⟨by decide, by decide⟩, if_pos c4]
    simp only [bnd_some, zm0t, zm1n, if_true, if_false]
    rw [X_isOut h7 ⟨by decide, by decide⟩ ⟨by decide, by decide⟩, if_pos c5]
    simp only [bnd_some, zm0t, zm1n, if_true, if_false]
    rw [x]
    simp only [bnd_some]
    rw [gd_pos hc.1, y]
    simp only [bnd_some]
    rw [X_leastAsked hc3 c4 c5 hfa ⟨hf.1, hf.2.1⟩]
    simp only [bnd_some]
  · unfold p_X8_bar
    rw [M_isSort hw h1, if_pos c1]
    simp only [bnd_some, zm0t, zm1n, if_true, if_false]
    rw [M_isRung hw h2 h5, if_pos c2]
    simp only [bnd_some, zm0t, zm1n, if_true, if_false]
    rw [M_isWhen h3 h4, if_pos c3]
    simp only [bnd_some, zm0t, zm1n, if_true, if_false]
    rw [M_wi h6 ⟨by decide, by decide⟩ ⟨by decide, by decide⟩, if_pos c4]
    simp only [bnd_some, zm0t, zm1n, if_true, if_false]
    rw [M_wi h7 ⟨by decide, by decide⟩ ⟨by decide, by decide⟩, if_pos c5]
    simp only [bnd_some, zm0t, zm1n, if_true, if_false]
    rw [e]
    simp only [bnd_some]
    have h8' := hs.2.1
    exact M_bar71 w.1 h8 (by omega) (by omega) c4 c5 gb hf2 (τ' 8 a1).toNat FU 0 (by omega) (FU_gt (by omega)) (by have := hf.1; omega)
theorem ok_judge {a1 a2 a3 a4 a5 : Int} (h1 : i32 a1) (h2 : i32 a2) (h3 : i32 a3) (h4 : i32 a4) (h5 : i32 a5) : StepOK Inv (p_X7_judge a1 a2 a3 a4 a5) (p_X8_judge a1 a2 a3 a4 a5) := fun σ τ hI => by
  have hw := hI.2.1
  by_cases c1 : cS τ a1
  rotate_left
  · refine st_eq (a := -1000000001) ?_ ?_ hI
    · unfold p_X7_judge
      rw [X_isSort hw h1, if_neg c1]
      simp only [bnd_some, zm0t, zm1n, if_true, if_false]
    · unfold p_X8_judge
      rw [M_isSort hw h1, if_neg c1]
      simp only [bnd_some, zm0t, zm1n, if_true, if_false]
  by_cases c2 : cG τ a2 a5
  rotate_left
  · refine st_eq (a := -1000000001) ?_ ?_ hI
    · unfold p_X7_judge
      rw [X_isSort hw h1, if_pos c1]
      simp only [bnd_some, zm0t, zm1n, if_true, if_false]
      rw [X_isRung hw h2 h5, if_neg c2]
      simp only [bnd_some, zm0t, zm1n, if_true, if_false]
    · unfold p_X8_judge
      rw [M_isSort hw h1, if_pos c1]
      simp only [bnd_some, zm0t, zm1n, if_true, if_false]
      rw [M_isRung hw h2 h5, if_neg c2]
      simp only [bnd_some, zm0t, zm1n, if_true, if_false]
  by_cases c3 : cY a3 a4
  rotate_left
  · refine st_eq (a := -1000000002) ?_ ?_ hI
    · unfold p_X7_judge
      rw [X_isSort hw h1, if_pos c1]
      simp only [bnd_some, zm0t, zm1n, if_true, if_false]
      rw [X_isRung hw h2 h5, if_pos c2]
      simp only [bnd_some, zm0t, zm1n, if_true, if_false]
      rw [X_isNoYear h3 h4, if_neg c3]
      simp only [bnd_some, zm0t, zm1n, if_true, if_false]
    · unfold p_X8_judge
      rw [M_isSort hw h1, if_pos c1]
      simp only [bnd_some, zm0t, zm1n, if_true, if_false]
      rw [M_isRung hw h2 h5, if_pos c2]
      simp only [bnd_some, zm0t, zm1n, if_true, if_false]
      rw [M_isWhen h3 h4, if_neg c3]
      simp only [bnd_some, zm0t, zm1n, if_true, if_false]
  obtain ⟨τ', e, o, w, hI', cs, ch, _⟩ := M_wk hI c1 c2.1 (Or.inl rfl) c3.1
  obtain ⟨σ', x, fr, hI2, hc, n, n1, n2, kn⟩ := X_planOf hI' cs ch (Y := a3) (by omega)
  have t1 : τ' 1 a2 = τ 1 a2 := by rw [o.1 1 (by decide) (by decide) (by decide)]
  have h10 := hw.rg c2.1.1.1 c2.1.1.2
  have q4 := hw.1
  have g2 := c2.2
  have g3 := c3
  have hs := hc.2.2.2.1
  have hh := hc.2.2.2.2.1
  obtain ⟨σ2, y, oy⟩ := X_openYear (left := a3 - a4) (c := cst τ' a1 a2 (-1) (a3 - a4 - 1).toNat) hc (Or.inl rfl) (by omega : 0 ≤ a5 ∧ a5 < τ' 1 a2) (Int.le_refl 400000000) (cst_b hs hh (by omega)) (by omega) (fun r r0 r1 => kn.1 (a3 - a4 - 1) r (by omega) r0 r1 (by omega))
  have hI3 := hI2.oy (by omega) ch.1 oy
  have hc3 := hc.to oy.1
  have hM := hI3.2.2.2.2.1
  have hg : ∀ m k, 0 ≤ m → m ≤ 12 → 0 ≤ k → k ≤ 3 → gX σ2 (pO a1 a2) m k = gAt τ' 0 a4 a5 m k ∧ 0 ≤ gX σ2 (pO a1 a2) m k ∧ gX σ2 (pO a1 a2) m k ≤ 420000000 := fun m k m0 m1 k0 k3 => by
    have e1 := oy.2.2.2.2.2.1 m k m0 m1 k0 k3
    have e2 := w.2.2.2.2.2 a4 a5 0 m k (by omega) (by omega) (by omega) (by omega) (Or.inl rfl) m0 m1 k0 k3
    have e3 : pEf τ' a1 0 = 0 := by unfold pEf; rw [if_pos rfl]
    rw [e3] at e1
    have q := inM_bd (p := 0) (ru := -1) (r := a5) hs hh (Or.inl rfl) (by omega) (cst_b (ru := -1) hs hh (n := a3 - a4 - 1) (by omega)) (12 - m).toNat k k0 k3
    refine ⟨e1.trans e2.symm, ?_⟩
    rw [e1]
    omega
  have l3 := hM.1
  obtain ⟨a, j1, j2⟩ := judge_loop hc3 w.1 (by omega : 0 ≤ a4 ∧ a4 < 30) (by omega : 0 ≤ a5 ∧ a5 < 10) hM hg (τ' 0 33).toNat FU FU 0 0 (by omega) (FU_gt (by omega)) (FU_gt (by omega)) (by decide) (by decide)
  refine st_eq (a := a) ?_ ?_ hI3
  · unfold p_X7_judge
    rw [X_isSort hw h1, if_pos c1]
    simp only [bnd_some, zm0t, zm1n, if_true, if_false]
    rw [X_isRung hw h2 h5, if_pos c2]
    simp only [bnd_some, zm0t, zm1n, if_true, if_false]
    rw [X_isNoYear h3 h4, if_pos c3]
    simp only [bnd_some, zm0t, zm1n, if_true, if_false]
    rw [x]
    simp only [bnd_some]
    rw [gd_pos hc.1, y]
    simp only [bnd_some]
    exact j1
  · unfold p_X8_judge
    rw [M_isSort hw h1, if_pos c1]
    simp only [bnd_some, zm0t, zm1n, if_true, if_false]
    rw [M_isRung hw h2 h5, if_pos c2]
    simp only [bnd_some, zm0t, zm1n, if_true, if_false]
    rw [M_isWhen h3 h4, if_pos c3]
    simp only [bnd_some, zm0t, zm1n, if_true, if_false]
    rw [e]
    simp only [bnd_some]
    exact j2
