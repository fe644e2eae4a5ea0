def lrO (o : Int) (σ σ' : St) : Prop := (∀ q : Int, (q < 10 ∨ 14 < q) → (q < o ∨ o + 8 ≤ q) → σ' q = σ q) ∧ (∀ j : Int, j ≠ 11 → j ≠ 12 → σ' o j = σ o j) ∧ σ' (o + 1) = σ (o + 1) ∧ σ' (o + 2) = σ (o + 2)
theorem lrO.rf {o : Int} {σ : St} : lrO o σ σ := ⟨fun _ _ _ => rfl, fun _ _ _ => rfl, rfl, rfl⟩
theorem lrO.tr {o : Int} {a b c : St} (h : lrO o a b) (g : lrO o b c) : lrO o a c := ⟨fun q h1 h2 => (g.1 q h1 h2).trans (h.1 q h1 h2), fun j h1 h2 => (g.2.1 j h1 h2).trans (h.2.1 j h1 h2), g.2.2.1.trans h.2.2.1, g.2.2.2.trans h.2.2.2⟩
theorem PC.lr {σ σ' : St} {o : Int} {t : St} {s h ru : Int} (hp : PC σ o t s h ru) (ho : lrO o σ σ') : PC σ' o t s h ru := by
  obtain ⟨h1, h2, h3, h4, h5, h6⟩ := hp
  have k3 := kx3 h1
  have k6 := kx6 h2.1
  have k0 := kx0 h3.1
  have e0 := ho.2.1 0 (by decide) (by decide)
  have e1 := ho.2.1 1 (by decide) (by decide)
  have e2 := ho.2.1 2 (by decide) (by decide)
  refine ⟨h1, ?_, ?_, h4, h5, ?_⟩
  · rw [e0]
    exact h2.to (ho.1 _ (by omega) (by omega)) (ho.1 _ (by omega) (by omega)) (ho.1 _ (by omega) (by omega)) (ho.1 _ (by omega) (by omega))
  · rw [e1]
    exact h3.to (ho.1 _ (by omega) (by omega)) (ho.1 _ (by omega) (by omega))
  · rw [e2]
    rcases h6 with h6 | ⟨h6, h7⟩
    · exact Or.inl h6
    · have k5 := kx5 h6.1
      exact Or.inr ⟨h6.to (ho.1 _ (by omega) (by omega)) (ho.1 _ (by omega) (by omega)) (ho.1 _ (by omega) (by omega)) (ho.1 _ (by omega) (by omega)) (ho.1 _ (by omega) (by omega)) (ho.1 _ (by omega) (by omega)), h7⟩
theorem X_reckonRung {σ : St} {o : Int} {t : St} {s h ru Y r : Int} (hc : PC σ o t s h ru) (hY : 1 ≤ Y ∧ Y ≤ 30) (hr : 0 ≤ r ∧ r < t 1 h) (hk : ru < 0 → ∃ n, Y ≤ n ∧ n ≤ 30 ∧ KN σ o t s h ru n 0) (hz : ∀ r : Int, 0 ≤ r → r < 10 → σ (o + 1) r = 0) : ∃ σ', p_X1_reckonRung 9 o Y r σ = some (0, σ') ∧ lrO o σ σ' ∧ σ' 10 = σ 10 ∧ (∀ k, 0 ≤ k → k ≤ 3 → σ' 12 (4 * r + k) = Od t s h ru Y r k) ∧ (∀ j : Int, (j < 4 * r ∨ 4 * r + 3 < j) → σ' 12 j = σ 12 j) ∧ σ' 13 r = Bo t s h ru Y r ∧ ∀ j, j ≠ r → σ' 13 j = σ 13 j := by
  have k3 := kx3 hc.1
  have hs := hc.2.2.2.1
  have hh := hc.2.2.2.2.1
  have h10 := hh.2.1
  have fin : ∀ (σ1 : St) (p : Int) (c : Int → Int) (rest : Option (Int × St)), OY σ σ1 o t s h ru p r c → (p = 0 ∨ (p = 1 ∧ 0 ≤ t 11 s)) → (∀ k, yq (caY t s h ru p r c) 12 k = Od t s h ru Y r k) → yb (caY t s h ru p r c) (hbY t s h ru p r c) 12 = Bo t s h ru Y r → rest = p_X1_reckonRung_29 9 o r σ1 → ∃ σ', rest = some (0, σ') ∧ lrO o σ σ' ∧ σ' 10 = σ 10 ∧ (∀ k, 0 ≤ k → k ≤ 3 → σ' 12 (4 * r + k) = Od t s h ru Y r k) ∧ (∀ j : Int, (j < 4 * r ∨ 4 * r + 3 < j) → σ' 12 j = σ 12 j) ∧ σ' 13 r = Bo t s h ru Y r ∧ ∀ j, j ≠ r → σ' 13 j = σ 13 j := by
    intro σ1 p c rest q hp e1 e2 er
    obtain ⟨σ', x, f, g1, g2, v1, v2⟩ := X_rr29 (r := r) (by omega) (by omega) (q.RP hs hh hp)
    have fo := q.1.1
    refine ⟨σ', er.trans x, ⟨fun q' h1 h2 => by rw [f q' (by omega) (by omega) (by omega), fo q' h2], fun j h1 h2 => by rw [f o (by omega) (by omega) (by omega)]; exact q.2.1 j h1 h2, by rw [f _ (by omega) (by omega) (by omega)]; exact q.2.2.1, by rw [f _ (by omega) (by omega) (by omega)]; exact q.2.2.2.1⟩, by rw [f _ (by omega) (by omega) (by omega), fo 10 (by omega)], fun k k0 k3 => (v1 k k0 k3).trans (e1 k), fun j hj => by rw [g1 j hj, fo 12 (by omega)], v2.trans e2, fun j hj => by rw [g2 j hj, fo 13 (by omega)]⟩
  unfold p_X1_reckonRung
  rcases hc.2.2.2.2.2 with ⟨n2, hru⟩ | ⟨hrr, hru⟩
  · obtain ⟨n, n1, n30, kn⟩ := hk (by omega)
    rw [if_pos n2]
    have hp := kn.2 Y r (by omega) hr.1 hr.2 (by omega)
    have isP : p_X3_isPained o Y r σ = some (pOf t s h ru Y r, σ) := by
      unfold p_X3_isPained pOf
      rw [zm_eq (a := Y) (by omega) (by omega), gd_pos (by omega)]
      by_cases q : hasb (σ (o + 2) Y) r
      · rw [if_neg q, if_pos (hp.1 q)]
      · rw [if_pos (Classical.not_not.1 q), if_neg (fun z => q (hp.2 z))]
    have v01 : pOf t s h ru Y r = 0 ∨ pOf t s h ru Y r = 1 := by
      unfold pOf
      by_cases q : pnd t s h ru (cst t s h ru (Y - 1).toNat) r
      · rw [if_pos q]; exact Or.inr rfl
      · rw [if_neg q]; exact Or.inl rfl
    have pe : pEf t s (pOf t s h ru Y r) = pOf t s h ru Y r := by
      unfold pOf pEf
      by_cases q : pnd t s h ru (cst t s h ru (Y - 1).toNat) r
      · rw [if_pos q, if_neg (by decide), if_pos q.2.1]
      · rw [if_neg q, if_pos rfl]
    obtain ⟨σ1, e1, q⟩ := X_openYear (left := Y) (c := cst t s h ru (Y - 1).toNat) hc v01 hr (Int.le_refl 400000000) (cst_b hs hh (by omega)) hY (fun r' r0 r1 => kn.1 (Y - 1) r' (by omega) r0 r1 (by omega))
    have hpe := pEf_ok (t := t) (s := s) (pOf t s h ru Y r)
    rw [pe] at q hpe
    refine fin σ1 _ _ _ q hpe (fun k => rfl) rfl ?_
    rw [isP]
    simp only [bnd_some]
    rw [e1]
    simp only [bnd_some]
  · have k5 := kx5 hrr.1
    have hu0 := hru.1
    rw [if_neg (by omega)]
    obtain ⟨σ1, e1, q⟩ := X_openYear (left := 1) (r := r) (v := 0) (c := fun _ => 0) hc (Or.inl rfl) hr (Int.le_refl 400000000) (fun r _ _ => by decide) (by decide) (fun r' r0 r1 => by rw [show (10 : Int) * (1 - 1) + r' = r' by omega]; exact hz r' r0 (by omega))
    have e3 : pEf t s 0 = 0 := by unfold pEf; rw [if_pos rfl]
    have e4 : pOf t s h ru Y r = 0 := by
      unfold pOf
      rw [if_neg (fun z => by have := z.1; omega)]
    rw [e3] at q
    have ea : ∀ m k : Int, 0 ≤ m → m < (12 : Nat) → 0 ≤ k → k ≤ 3 → caY t s h ru 0 r (fun _ => 0) m k = caY t s h ru 0 r (cst t s h ru (Y - 1).toNat) m k := fun m k _ _ k0 k3 => asm_g ⟨k0, k3⟩ (Or.inl hu0.1)
    have eb : ∀ m k : Int, 0 ≤ m → m < (12 : Nat) → 0 ≤ k → k ≤ 3 → hbY t s h ru 0 r (fun _ => 0) m k = hbY t s h ru 0 r (cst t s h ru (Y - 1).toNat) m k := fun m k _ _ k0 k3 => asm_g ⟨k0, k3⟩ (Or.inl hu0.1)
    refine fin σ1 _ _ _ q (Or.inl rfl) (fun k => ?_) ?_ ?_
    · unfold Od
      rw [e4]
      exact yq_c 12 ea k
    · unfold Bo
      rw [e4]
      exact yb_c 12 ea eb
    · rw [e1]
      simp only [bnd_some]
