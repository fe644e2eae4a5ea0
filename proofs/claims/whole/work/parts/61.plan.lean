/-! the plans of the program, the table of the reference -/
theorem kx_pO {s h : Int} (hs : 0 ≤ s ∧ s < 4) (hh : 0 ≤ h ∧ h < 2) : kX (pO s h) = (3, 0) := by
  have key : ∀ a : Nat, a < 4 → ∀ b : Nat, b < 2 → kX (43 + 8 * (2 * (a : Int) + (b : Int))) = (3, 0) := by decide
  have q := key s.toNat (by omega) h.toNat (by omega)
  rw [Int.toNat_of_nonneg hs.1, Int.toNat_of_nonneg hh.1] at q
  exact q
def IP1 (σ τ : St) (s h : Int) : Prop := σ (pO s h) 0 = 27 + 4 * s ∧ σ (pO s h) 1 = 23 + 2 * h ∧ σ (pO s h) 2 = -1 ∧ (0 ≤ σ (pO s h) 5 ∧ σ (pO s h) 5 ≤ 30) ∧ (s < τ 0 7 → 0 < τ 1 h → KN σ (pO s h) τ s h (-1) (σ (pO s h) 5) 0) ∧ ((τ 0 7 ≤ s ∨ τ 1 h ≤ 0) → σ (pO s h) 5 = 0) ∧ ∀ r, 0 ≤ r → r < 10 → σ (pO s h + 1) r = 0
theorem IP1.fr {σ σ' τ : St} {s h : Int} (q : IP1 σ τ s h) (a : ∀ j : Int, j ≠ 11 → j ≠ 12 → σ' (pO s h) j = σ (pO s h) j) (a1 : σ' (pO s h + 1) = σ (pO s h + 1)) (a2 : σ' (pO s h + 2) = σ (pO s h + 2)) : IP1 σ' τ s h := by
  obtain ⟨q0, q1, q2, q3, q4, q5, q6⟩ := q
  unfold IP1
  rw [a 0 (by decide) (by decide), a 1 (by decide) (by decide), a 2 (by decide) (by decide), a 5 (by decide) (by decide), a1]
  exact ⟨q0, q1, q2, q3, fun b1 b2 => KN_s a1 a2 (q4 b1 b2), q5, q6⟩
theorem IP.at {σ σ' τ : St} {s h : Int} (hP : IP σ τ) (hs : 0 ≤ s ∧ s < 4) (hh : 0 ≤ h ∧ h < 2) (a : ∀ k : Int, (k < pO s h ∨ pO s h + 8 ≤ k) → σ' k = σ k) (n : IP1 σ' τ s h) : IP σ' τ := by
  refine ⟨fun s' h' a1 a2 a3 a4 => ?_, fun r r0 r1 => by rw [a 108 (by unfold pO; omega)]; exact hP.2 r r0 r1⟩
  by_cases e : s' = s ∧ h' = h
  · obtain ⟨rfl, rfl⟩ := e
    exact n
  · have q : IP1 σ τ s' h' := hP.1 s' h' a1 a2 a3 a4
    exact q.fr (fun j _ _ => by rw [a (pO s' h') (by unfold pO; omega)]) (a _ (by unfold pO; omega)) (a _ (by unfold pO; omega))
/-- a step of the program that leaves all but plans, the trial house, the long run -/
theorem Inv.x {σ σ' τ : St} (hI : Inv σ τ) (a : ∀ k : Int, (k < 7 ∨ (15 < k ∧ k < 43) ∨ 114 < k) → σ' k = σ k) (hP : IP σ' τ) : Inv σ' τ := by
  obtain ⟨i1, i2, _, i4, i5⟩ := hI
  refine ⟨i1.fr (by rw [a 0 (by omega)]) (by rw [a 1 (by omega)]) (a 2 (by omega)) rfl rfl rfl, i2.fr (by rw [a 0 (by omega)]) (by rw [a 0 (by omega)]) (fun k _ _ => a k (by omega)) (fun k _ _ => a k (by omega)) (eW.of (fun _ _ _ _ => rfl) rfl rfl), hP, i4, i5.fr (fun k _ _ => a k (by omega)) (fun k _ _ => a k (by omega)) ⟨rfl, rfl, rfl⟩ (fun _ _ => rfl)⟩
theorem Inv.tr {σ σ' τ : St} (hI : Inv σ τ) (a : ∀ k : Int, (k < 7 ∨ (15 < k ∧ k < 107) ∨ 114 < k) → σ' k = σ k) (b : ∀ r : Int, 0 ≤ r → r < 10 → σ' 108 r = σ 108 r) : Inv σ' τ := by
  refine hI.x (fun k hk => a k (by omega)) ⟨fun s h a1 a2 a3 a4 => ?_, fun r r0 r1 => (b r r0 r1).trans (hI.2.2.1.2 r r0 r1)⟩
  have q : IP1 σ τ s h := hI.2.2.1.1 s h a1 a2 a3 a4
  exact q.fr (fun j _ _ => by rw [a (pO s h) (by unfold pO; omega)]) (a _ (by unfold pO; omega)) (a _ (by unfold pO; omega))
theorem Inv.pl {σ σ' τ : St} {s h : Int} (hI : Inv σ τ) (hs : 0 ≤ s ∧ s < 4) (hh : 0 ≤ h ∧ h < 2) (a : ∀ k : Int, (k < pO s h ∨ pO s h + 8 ≤ k) → σ' k = σ k) (n : IP1 σ' τ s h) : Inv σ' τ := hI.x (fun k hk => a k (by unfold pO; omega)) (hI.2.2.1.at hs hh a n)
theorem X_planOf {σ τ : St} {s h Y : Int} (hI : Inv σ τ) (cs : cS τ s) (ch : cH τ h) (hY : 0 ≤ Y ∧ Y ≤ 30) : ∃ σ', p_X7_planOf s h Y σ = some (pO s h, σ') ∧ (∀ k : Int, (k < pO s h ∨ pO s h + 8 ≤ k) → σ' k = σ k) ∧ Inv σ' τ ∧ PC σ' (pO s h) τ s h (-1) ∧ ∃ n, Y ≤ n ∧ n ≤ 30 ∧ KN σ' (pO s h) τ s h (-1) n 0 := by
  have h4 := hI.2.1.1
  obtain ⟨hsr, hs⟩ := hI.2.1.2.2.1 s cs.1 cs.2
  obtain ⟨hhr, hh⟩ := hI.2.1.hr ch
  have q : IP1 σ τ s h := hI.2.2.1.1 s h cs.1 (by omega) ch.1.1 ch.1.2
  obtain ⟨p0, p1, p2, p3, p4, p5, p6⟩ := q
  have hc : PC σ (pO s h) τ s h (-1) := ⟨kx_pO (by omega) ch.1, by rw [p0]; exact hsr, by rw [p1]; exact hhr, hs, hh, Or.inl ⟨by rw [p2]; decide, rfl⟩⟩
  obtain ⟨σ', e, k1, ⟨n, n1, n2, n3, n4, n5⟩, k0⟩ := X_know hc hY rfl p3 (p4 cs.2 ch.2)
  have k2 := k1.1
  refine ⟨σ', ?_, k2.1, hI.pl (by omega) ch.1 k2.1 ⟨by rw [k2.2.1]; exact p0, by rw [k2.2.2.1]; exact p1, by rw [k2.2.2.2]; exact p2, by omega, fun _ _ => by rw [n4]; exact n5, fun q => by omega, fun r r0 r1 => (k0 r r1).trans (p6 r r0 r1)⟩, hc.to k2, n, n1, n3, n5⟩
  unfold p_X7_planOf
  rw [zm_eq (a := s * 2 + h) (by omega) (by omega), gd_pos (by omega), show s * 2 + h = 2 * s + h by omega, e, bnd_some]
theorem Inv.oy {σ σ' τ : St} {s h ru p r : Int} {c : Int → Int} (hI : Inv σ τ) (cs : 0 ≤ s ∧ s < 4) (ch : 0 ≤ h ∧ h < 2) (q : OY σ σ' (pO s h) τ s h ru p r c) : Inv σ' τ := by
  have i : IP1 σ τ s h := hI.2.2.1.1 s h cs.1 cs.2 ch.1 ch.2
  exact hI.pl cs ch q.1.1 (i.fr q.2.1 q.2.2.1 q.2.2.2.1)
theorem wkO.T {τ τ' : St} (h : wkO τ τ') : eqT τ' τ := fun q a b _ => h.1 q (by omega) (by omega) (by omega)
theorem Inv.m {σ τ τ' : St} (hI : Inv σ τ) (h : wkO τ τ') (hC : IC τ') : Inv σ τ' := by
  obtain ⟨i1, i2, i3, _, i5⟩ := hI
  have e : eW τ τ' := eW.of h.T (h.2 7 (by omega)) (h.2 23 (by omega))
  exact ⟨i1.fr rfl rfl rfl (h.2 15 (by omega)) (h.2 14 (by omega)) (h.1 13 (by omega) (by omega) (by omega)), i2.fr rfl rfl (fun _ _ _ => rfl) (fun _ _ _ => rfl) e, IP.fr i2 i3 (fun _ _ _ => rfl) rfl e, hC, i5.fr (fun _ _ _ => rfl) (fun _ _ _ => rfl) ⟨h.2 33 (by omega), h.2 42 (by omega), h.2 47 (by omega)⟩ (fun k hk => h.1 k (by omega) (by omega) (by omega))⟩
theorem WK.i {τ : St} {s h ru Y : Int} (w : WK τ s h ru Y) : τ 0 28 = s ∧ τ 0 29 = h ∧ τ 0 30 = ru ∧ τ 0 31 = Y := by
  obtain ⟨⟨a1, a2, a3, _⟩, a4, _⟩ := w
  exact ⟨a1, a2, a3, a4⟩
theorem M_wk {σ τ : St} {s h ru Y : Int} (hI : Inv σ τ) (cs : cS τ s) (ch : cH τ h) (cu : ru = -1 ∨ cU τ ru) (hY : 1 ≤ Y ∧ Y ≤ 30) : ∃ τ', p_X8_work s h ru Y τ = some (0, τ') ∧ wkO τ τ' ∧ WK τ' s h ru Y ∧ Inv σ τ' ∧ cS τ' s ∧ cH τ' h ∧ (ru = -1 ∨ cU τ' ru) := by
  have hw := hI.2.1
  have hu : ru = -1 ∨ ROK τ ru := cu.imp id (fun q => (hw.2.2.2.2 ru q.1 q.2).2)
  have hc : τ 0 32 = 0 ∨ (τ 0 32 = 1 ∧ WK τ (τ 0 28) (τ 0 29) (τ 0 30) (τ 0 31) ∧ τ 0 29 < 2) := by
    rcases hI.2.2.2.1 with q | ⟨q1, q2, q3, _⟩
    · exact Or.inl q
    · exact Or.inr ⟨q1, q2, q3⟩
  obtain ⟨τ', e, o, w, f⟩ := M_work (hw.2.2.1 s cs.1 cs.2).2 (hw.hr ch).2 hu hY hc
  have j7 := o.2 7 (by omega)
  have j23 := o.2 23 (by omega)
  have t1 := o.1 1 (by decide) (by decide) (by decide)
  rw [if_pos ch.1.2] at f
  obtain ⟨w1, w2, w3, w4⟩ := w.i
  refine ⟨τ', e, o, w, hI.m o (Or.inr ⟨f, by rw [w1, w2, w3, w4]; exact w, by omega, by omega, ?_⟩), by unfold cS; omega, by unfold cH; rw [t1]; exact ch, cu.imp id (fun q => by unfold cU; omega)⟩
  rcases cu with q | q
  · have := hw.2.1; omega
  · omega
