/-! a memory copied -/
def CP (σ σ' : St) (o0 o1 a b : Int) : Prop := (∀ k : Int, (k < o0 ∨ o0 + 5 < k) → σ' k = σ k) ∧ (∀ i, 0 ≤ i → i < a → σ' (o0 + 1) i = σ (o1 + 1) i ∧ σ' (o0 + 2) i = σ (o1 + 2) i ∧ σ' (o0 + 3) i = σ (o1 + 3) i) ∧ (∀ i, 0 ≤ i → i < b → σ' (o0 + 4) i = σ (o1 + 4) i ∧ σ' (o0 + 5) i = σ (o1 + 5) i)
theorem X_cp60 {σ : St} {o0 o1 : Int} (hd : o0 + 5 < o1 ∨ o1 + 5 < o0) : ∀ (d f : Nat) (i : Int) (σ' : St), i + d = 8 → 0 ≤ i → d < f → CP σ σ' o0 o1 12 i → σ' o0 3 = σ o1 3 → (∀ j : Int, j ≠ 3 → σ' o0 j = σ o0 j) → ∃ σ'', p_X2_copyFrom_60 f o0 o1 i σ' = some (0, σ'') ∧ CP σ σ'' o0 o1 12 8 ∧ σ'' o0 3 = σ o1 3 ∧ σ'' o0 6 = σ o1 6 ∧ σ'' o0 7 = σ o1 7 ∧ ∀ j : Int, j ≠ 3 → j ≠ 6 → j ≠ 7 → σ'' o0 j = σ o0 j := by
  intro d
  induction d with
  | zero =>
    intro f i σ' hi i0 hf hc h3 hj
    obtain ⟨f, rfl⟩ := Nat.exists_eq_succ_of_ne_zero (by omega : f ≠ 0)
    obtain ⟨σ1, e1, f1, g1, k1⟩ := su_ex σ' o0 6 (σ' o1 6)
    obtain ⟨σ2, e2, f2, g2, k2⟩ := su_ex σ1 o0 7 (σ1 o1 7)
    have w : ∀ k : Int, k ≠ o0 → σ2 k = σ' k := fun k hk => (f2 k hk).trans (f1 k hk)
    have w1 : σ' o1 = σ o1 := hc.1 o1 (by omega)
    have w2 : σ1 o1 = σ o1 := (f1 o1 (by omega)).trans w1
    refine ⟨σ2, ?_, ⟨fun k hk => by rw [w k (by omega)]; exact hc.1 k hk, fun i i0 i1 => by rw [w _ (by omega), w _ (by omega), w _ (by omega)]; exact hc.2.1 i i0 i1, fun i i0 i1 => by rw [w _ (by omega), w _ (by omega)]; exact hc.2.2 i i0 (by omega)⟩, by rw [k2 3 (by decide), k1 3 (by decide), h3], by rw [k2 6 (by decide), g1, w1], by rw [g2, w2], fun j j1 j2 j3 => by rw [k2 j j3, k1 j j2, hj j j1]⟩
    show p_X2_copyFrom_60b (p_X2_copyFrom_60 f) o0 o1 i σ' = _
    unfold p_X2_copyFrom_60b
    rw [zm_eq (a := i) (by omega) (by omega), if_pos (by omega)]
    simp only [nx, e1, e2]
  | succ d ih =>
    intro f i σ' hi i0 hf hc h3 hj
    obtain ⟨f, rfl⟩ := Nat.exists_eq_succ_of_ne_zero (by omega : f ≠ 0)
    obtain ⟨σ1, e1, f1, g1, k1⟩ := su_ex σ' (o0 + 4) i (σ' (o1 + 4) i)
    obtain ⟨σ2, e2, f2, g2, k2⟩ := su_ex σ1 (o0 + 5) i (σ1 (o1 + 5) i)
    have w : ∀ k : Int, k ≠ o0 + 4 → k ≠ o0 + 5 → σ2 k = σ' k := fun k hk hk2 => (f2 k hk2).trans (f1 k hk)
    have w1 : σ' (o1 + 4) = σ (o1 + 4) := hc.1 _ (by omega)
    have w2 : σ1 (o1 + 5) = σ (o1 + 5) := (f1 _ (by omega)).trans (hc.1 _ (by omega))
    have v4 : σ2 (o0 + 4) = σ1 (o0 + 4) := f2 _ (by omega)
    have v5 : σ1 (o0 + 5) = σ' (o0 + 5) := f1 _ (by omega)
    obtain ⟨σ3, q1, q2⟩ := ih f (i + 1) σ2 (by omega) (by omega) (by omega) ⟨fun k hk => by rw [w k (by omega) (by omega)]; exact hc.1 k hk, fun i i0 i1 => by rw [w _ (by omega) (by omega), w _ (by omega) (by omega), w _ (by omega) (by omega)]; exact hc.2.1 i i0 i1, fun i' i0 i1 => by
      by_cases e : i' = i
      · subst e
        rw [v4, g1, g2, w1, w2]; exact ⟨rfl, rfl⟩
      · rw [v4, k1 i' e, k2 i' e, v5]
        exact hc.2.2 i' i0 (by omega)⟩ (by rw [w _ (by omega) (by omega)]; exact h3) (fun j hj' => by rw [w _ (by omega) (by omega)]; exact hj j hj')
    refine ⟨σ3, ?_, q2⟩
    show p_X2_copyFrom_60b (p_X2_copyFrom_60 f) o0 o1 i σ' = _
    unfold p_X2_copyFrom_60b
    rw [zm_eq (a := i) (by omega) (by omega), if_neg (by omega), gd_pos (by omega)]
    simp only [nx, e1, e2]
    exact q1
theorem X_cp2 {σ : St} {o0 o1 : Int} (hd : o0 + 5 < o1 ∨ o1 + 5 < o0) (hb : ∀ i, 0 ≤ i → i < 12 → σ (o1 + 3) i = 0 ∨ σ (o1 + 3) i = 1) : ∀ (d f : Nat) (i : Int) (σ' : St), i + d = 12 → 0 ≤ i → d < f → CP σ σ' o0 o1 i 0 → σ' o0 = σ o0 → ∃ σ'', p_X2_copyFrom_2 f o0 o1 i σ' = some (0, σ'') ∧ CP σ σ'' o0 o1 12 8 ∧ σ'' o0 3 = σ o1 3 ∧ σ'' o0 6 = σ o1 6 ∧ σ'' o0 7 = σ o1 7 ∧ ∀ j : Int, j ≠ 3 → j ≠ 6 → j ≠ 7 → σ'' o0 j = σ o0 j := by
  intro d
  induction d with
  | zero =>
    intro f i σ' hi i0 hf hc h0
    obtain ⟨f, rfl⟩ := Nat.exists_eq_succ_of_ne_zero (by omega : f ≠ 0)
    obtain ⟨σ1, e1, f1, g1, k1⟩ := su_ex σ' o0 3 (σ' o1 3)
    have w1 : σ' o1 = σ o1 := hc.1 o1 (by omega)
    obtain ⟨σ2, q1, q2⟩ := X_cp60 (σ := σ) hd 8 FU 0 σ1 (by omega) (by omega) (FU_gt (by omega)) ⟨fun k hk => by rw [f1 k (by omega)]; exact hc.1 k hk, fun i i0 i1 => by rw [f1 _ (by omega), f1 _ (by omega), f1 _ (by omega)]; exact hc.2.1 _ i0 (by omega), fun i i0 i1 => by omega⟩ (by rw [g1, w1]) (fun j hj => by rw [k1 j hj, h0])
    refine ⟨σ2, ?_, q2⟩
    show p_X2_copyFrom_2b (p_X2_copyFrom_2 f) o0 o1 i σ' = _
    unfold p_X2_copyFrom_2b
    rw [zm_eq (a := i) (by omega) (by omega), if_pos (by omega)]
    simp only [nx, e1]
    exact q1
  | succ d ih =>
    intro f i σ' hi i0 hf hc h0
    obtain ⟨f, rfl⟩ := Nat.exists_eq_succ_of_ne_zero (by omega : f ≠ 0)
    obtain ⟨σ1, e1, f1, g1, k1⟩ := su_ex σ' (o0 + 1) i (σ' (o1 + 1) i)
    obtain ⟨σ2, e2, f2, g2, k2⟩ := su_ex σ1 (o0 + 2) i (σ1 (o1 + 2) i)
    obtain ⟨σ3, e3, f3, g3, k3⟩ := su_ex σ2 (o0 + 3) i (σ2 (o1 + 3) i)
    have w : ∀ k : Int, k ≠ o0 + 1 → k ≠ o0 + 2 → k ≠ o0 + 3 → σ3 k = σ' k := fun k hk hk2 hk3 => (f3 k hk3).trans ((f2 k hk2).trans (f1 k hk))
    have w1 : σ' (o1 + 1) = σ (o1 + 1) := hc.1 _ (by omega)
    have w2 : σ1 (o1 + 2) = σ (o1 + 2) := (f1 _ (by omega)).trans (hc.1 _ (by omega))
    have w3 : σ2 (o1 + 3) = σ (o1 + 3) := (f2 _ (by omega)).trans ((f1 _ (by omega)).trans (hc.1 _ (by omega)))
    have v1 : σ3 (o0 + 1) = σ1 (o0 + 1) := (f3 _ (by omega)).trans (f2 _ (by omega))
    have v2 : σ3 (o0 + 2) = σ2 (o0 + 2) := f3 _ (by omega)
    have u2 : σ1 (o0 + 2) = σ' (o0 + 2) := f1 _ (by omega)
    have u3 : σ2 (o0 + 3) = σ' (o0 + 3) := (f2 _ (by omega)).trans (f1 _ (by omega))
    have hb' := hb i i0 (by omega)
    obtain ⟨σ4, q1, q2⟩ := ih f (i + 1) σ3 (by omega) (by omega) (by omega) ⟨fun k hk => by rw [w k (by omega) (by omega) (by omega)]; exact hc.1 k hk, fun i' i0 i1 => by
      by_cases e : i' = i
      · subst e
        rw [v1, v2, g1, g2, g3, w1, w2, w3]; exact ⟨rfl, rfl, rfl⟩
      · rw [v1, v2, k1 i' e, k2 i' e, k3 i' e, u2, u3]
        exact hc.2.1 i' i0 (by omega), fun i i0 i1 => by omega⟩ (by rw [w _ (by omega) (by omega) (by omega)]; exact h0)
    refine ⟨σ4, ?_, q2⟩
    show p_X2_copyFrom_2b (p_X2_copyFrom_2 f) o0 o1 i σ' = _
    unfold p_X2_copyFrom_2b
    rw [zm_eq (a := i) (by omega) (by omega), if_neg (by omega), gd_pos (by omega)]
    simp only [nx, e1, e2]
    rw [gd_pos (by rw [w3]; exact hb'), e3]
    exact q1
theorem X_memCopy {σ : St} {o0 o1 : Int} (hd : o0 + 5 < o1 ∨ o1 + 5 < o0) (hb : ∀ i, 0 ≤ i → i < 12 → σ (o1 + 3) i = 0 ∨ σ (o1 + 3) i = 1) : ∃ σ'', p_X2_copyFrom o0 o1 σ = some (0, σ'') ∧ CP σ σ'' o0 o1 12 8 ∧ σ'' o0 3 = σ o1 3 ∧ σ'' o0 6 = σ o1 6 ∧ σ'' o0 7 = σ o1 7 ∧ ∀ j : Int, j ≠ 3 → j ≠ 6 → j ≠ 7 → σ'' o0 j = σ o0 j := by
  unfold p_X2_copyFrom
  exact X_cp2 hd hb 12 FU 0 σ (by omega) (by omega) (FU_gt (by omega)) ⟨fun _ _ => rfl, fun i i0 i1 => by omega, fun i i0 i1 => by omega⟩ rfl
/-- a copied memory holds what the other held -/
theorem MR.cp {σ σ'' : St} {o0 o1 n m sd : Int} {A B C D E : Int → Int} (h : MR σ o1 n m sd A B C D E) (hc : CP σ σ'' o0 o1 12 8) (h3 : σ'' o0 3 = σ o1 3) (h6 : σ'' o0 6 = σ o1 6) (h7 : σ'' o0 7 = σ o1 7) : MR σ'' o0 n m sd A B C D E := by
  obtain ⟨c1, c2, c3, c4, c5, c6⟩ := h
  refine ⟨by rw [h3]; exact c1, fun i i0 i1 => ?_, fun i i0 i1 => ?_, by rw [h6]; exact c4, fun i i0 i1 => ?_, by rw [h7]; exact c6⟩
  · obtain ⟨q1, q2, q3⟩ := hc.2.1 i i0 (by omega)
    rw [q1, q2, q3]; exact c2 i i0 i1
  · rw [(hc.2.1 i i0 i1).2.2]; exact c3 i i0 i1
  · obtain ⟨q1, q2⟩ := hc.2.2 i i0 (by omega)
    rw [q1, q2]; exact c5 i i0 i1
theorem MR.ab {σ : St} {o n m sd n' m' sd' : Int} {A B C D E A' B' C' D' E' : Int → Int} (h : MR σ o n m sd A B C D E) (hn : n' = n) (hm : m' = m) (hs : sd' = sd) (h1 : ∀ i, 0 ≤ i → i < n → A' i = A i ∧ B' i = B i ∧ C' i = C i) (h2 : ∀ i, 0 ≤ i → i < m → D' i = D i ∧ E' i = E i) : MR σ o n' m' sd' A' B' C' D' E' := by
  subst hn hm hs
  obtain ⟨c1, c2, c3, c4, c5, c6⟩ := h
  refine ⟨c1, fun i i0 i1 => ?_, c3, c4, fun i i0 i1 => ?_, c6⟩
  · obtain ⟨q1, q2, q3⟩ := h1 i i0 i1
    rw [q1, q2, q3]; exact c2 i i0 i1
  · obtain ⟨q1, q2⟩ := h2 i i0 i1
    rw [q1, q2]; exact c5 i i0 i1
