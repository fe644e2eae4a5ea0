/-! what is kept when other cells change -/
def eS (a b : St) (s : Int) : Prop := a 8 s = b 8 s ∧ a 11 s = b 11 s ∧ a 12 s = b 12 s ∧ ∀ i, 0 ≤ i → i < 8 → a 9 (8 * s + i) = b 9 (8 * s + i) ∧ a 10 (8 * s + i) = b 10 (8 * s + i)
def eH (a b : St) (h : Int) : Prop := a 1 h = b 1 h ∧ a 3 h = b 3 h ∧ a 4 h = b 4 h ∧ a 5 h = b 5 h ∧ a 6 h = b 6 h ∧ a 7 h = b 7 h ∧ ∀ r, 0 ≤ r → r < 10 → a 2 (10 * h + r) = b 2 (10 * h + r)
def eU (a b : St) (u : Int) : Prop := a 14 u = b 14 u ∧ ∀ i, 0 ≤ i → i < 30 → a 15 (30 * u + i) = b 15 (30 * u + i)
theorem eqK_of {a b : St} {s h ru : Int} (e1 : eS a b s) (e2 : eH a b h) (e3 : 0 ≤ ru → eU a b ru) : eqK a b s h ru := ⟨e1, e2, e3⟩
theorem SR_k {σ a b : St} {o s : Int} (e : eS a b s) (hs : SOK a s) (h : SR σ o a s) : SR σ o b s := by
  obtain ⟨e8, e11, e12, e9⟩ := e
  obtain ⟨a1, a2, a3, a4, a5, a6⟩ := h
  have h8 := hs.2.1
  refine ⟨a1, by omega, fun i i0 i1 => ?_, ?_, fun q => a5 (by omega), fun q => ?_⟩
  · rw [← (e9 i i0 (by omega)).1, ← (e9 i i0 (by omega)).2]; exact a3 i i0 (by omega)
  · rw [a4, ← e8]
    exact sm_congr _ (fun i i0 i1 => (e9 i i0 (by omega)).2)
  · obtain ⟨c1, c2, c3, c4⟩ := a6 (by omega)
    refine ⟨c1, by omega, by omega, fun i i0 i1 => ?_⟩
    rw [c4 i i0 (by omega)]
    unfold od
    rw [(e9 i i0 (by omega)).2, e12]
theorem HR_k {σ a b : St} {o h : Int} (e : eH a b h) (hh : HOK a h) (q : HR σ o a h) : HR σ o b h := by
  obtain ⟨e1, e3, e4, e5, e6, e7, e2⟩ := e
  obtain ⟨a1, a2, a3, a4, a5, a6, a7, a8⟩ := q
  have h10 := hh.2.1
  refine ⟨a1, by omega, by omega, by omega, by omega, by omega, by omega, fun r r0 r1 => ?_⟩
  rw [← e2 r r0 (by omega)]; exact a8 r r0 (by omega)
theorem RR_k {σ a b : St} {o u : Int} (e : eU a b u) (hu : ROK a u) (q : RR σ o a u) : RR σ o b u := by
  obtain ⟨e14, e15⟩ := e
  obtain ⟨a1, a2, a3⟩ := q
  have h6 := hu.2.1
  refine ⟨a1, by omega, fun k k0 k1 => ?_⟩
  have q0 := e15 (5 * k) (by omega) (by omega)
  have q1 := e15 (5 * k + 1) (by omega) (by omega)
  have q2 := e15 (5 * k + 2) (by omega) (by omega)
  have q3 := e15 (5 * k + 3) (by omega) (by omega)
  have q4 := e15 (5 * k + 4) (by omega) (by omega)
  rw [← Int.add_assoc] at q1 q2 q3 q4
  rw [← q0, ← q1, ← q2, ← q3, ← q4]
  exact a3 k k0 (by omega)
theorem eS.of {a b : St} {s : Int} (e : eqT b a) : eS a b s := by
  refine ⟨?_, ?_, ?_, fun i _ _ => ⟨?_, ?_⟩⟩
  · rw [e 8 (by decide) (by decide) (by decide)]
  · rw [e 11 (by decide) (by decide) (by decide)]
  · rw [e 12 (by decide) (by decide) (by decide)]
  · rw [e 9 (by decide) (by decide) (by decide)]
  · rw [e 10 (by decide) (by decide) (by decide)]
theorem eH.of {a b : St} {s : Int} (e : eqT b a) : eH a b s := by
  refine ⟨?_, ?_, ?_, ?_, ?_, ?_, fun i _ _ => ?_⟩
  · rw [e 1 (by decide) (by decide) (by decide)]
  · rw [e 3 (by decide) (by decide) (by decide)]
  · rw [e 4 (by decide) (by decide) (by decide)]
  · rw [e 5 (by decide) (by decide) (by decide)]
  · rw [e 6 (by decide) (by decide) (by decide)]
  · rw [e 7 (by decide) (by decide) (by decide)]
  · rw [e 2 (by decide) (by decide) (by decide)]
theorem eU.of {a b : St} {s : Int} (e : eqT b a) : eU a b s := by
  refine ⟨?_, fun i _ _ => ?_⟩
  · rw [e 14 (by decide) (by decide) (by decide)]
  · rw [e 15 (by decide) (by decide) (by decide)]
theorem IT.fr {σ σ' τ τ' : St} (h : IT σ τ) (a1 : σ' 0 13 = σ 0 13) (a2 : σ' 1 1 = σ 1 1) (a3 : σ' 2 = σ 2) (b1 : τ' 0 15 = τ 0 15) (b2 : τ' 0 14 = τ 0 14) (b3 : τ' 13 = τ 13) : IT σ' τ' := by
  unfold IT
  rw [a1, a2, a3, b1, b2, b3]
  exact h
/-- the tables of the counted sorts, of both houses, of the counted rules are the same -/
def eW (τ τ' : St) : Prop := τ' 0 7 = τ 0 7 ∧ τ' 0 23 = τ 0 23 ∧ (∀ s, 0 ≤ s → s < τ 0 7 → eS τ τ' s) ∧ (∀ h, 0 ≤ h → h < 2 → eH τ τ' h) ∧ (∀ u, 0 ≤ u → u < τ 0 23 → eU τ τ' u)
theorem eW.of {τ τ' : St} (e : eqT τ' τ) (h7 : τ' 0 7 = τ 0 7) (h23 : τ' 0 23 = τ 0 23) : eW τ τ' := ⟨h7, h23, fun _ _ _ => eS.of e, fun _ _ _ => eH.of e, fun _ _ _ => eU.of e⟩
theorem eW.K {τ τ' : St} (e : eW τ τ') {s h ru : Int} (hs : 0 ≤ s ∧ s < τ 0 7) (hh : 0 ≤ h ∧ h < 2) (hu : ru < τ 0 23) : eqK τ τ' s h ru := eqK_of (e.2.2.1 s hs.1 hs.2) (e.2.2.2.1 h hh.1 hh.2) (fun q => e.2.2.2.2 ru q hu)
theorem IW.fr {σ σ' τ τ' : St} (h : IW σ τ) (a1 : σ' 0 11 = σ 0 11) (a2 : σ' 0 12 = σ 0 12) (a3 : ∀ k : Int, 23 ≤ k → k ≤ 42 → σ' k = σ k) (a4 : ∀ k : Int, 115 ≤ k → k ≤ 138 → σ' k = σ k) (e : eW τ τ') : IW σ' τ' := by
  obtain ⟨h1, h2, h3, h4, h5⟩ := h
  obtain ⟨e7, e23, eS_, eH_, eU_⟩ := e
  refine ⟨by omega, by omega, fun s s0 s1 => ?_, fun q q0 q1 => ?_, fun u u0 u1 => ?_⟩
  · obtain ⟨c1, c2⟩ := h3 s s0 (by omega)
    have ee := eS_ s s0 (by omega)
    have c0 := c2.1
    refine ⟨SR_k ee c2 (c1.to (a3 _ (by omega) (by omega)) (a3 _ (by omega) (by omega)) (a3 _ (by omega) (by omega)) (a3 _ (by omega) (by omega))), ?_⟩
    exact SOK_k (eqK_of (h := 0) (ru := -1) ee (eH_ 0 (by decide) (by decide)) (fun q => absurd q (by decide))) c2
  · have ee := eH_ q q0 q1
    have e1 := ee.1
    rw [a3 (23 + 2 * q) (by omega) (by omega)]
    rcases h4 q q0 q1 with c | c
    · exact Or.inl (by omega)
    · refine Or.inr ⟨HR_k ee c.2 (c.1.to (a3 _ (by omega) (by omega)) (a3 _ (by omega) (by omega))), ?_⟩
      obtain ⟨_, f3, f4, f5, f6, f7, f2⟩ := ee
      obtain ⟨g1, g2, g3, g4, g5, g6, g7⟩ := c.2
      refine ⟨g1, by omega, fun r r0 r1 => ?_, by omega, by omega, by omega, by omega⟩
      rw [← f2 r r0 (by omega)]; exact g3 r r0 (by omega)
  · obtain ⟨c1, c2⟩ := h5 u u0 (by omega)
    have ee := eU_ u u0 (by omega)
    have c0 := c2.1
    refine ⟨RR_k ee c2 (c1.to (a4 _ (by omega) (by omega)) (a4 _ (by omega) (by omega)) (a4 _ (by omega) (by omega)) (a4 _ (by omega) (by omega)) (a4 _ (by omega) (by omega)) (a4 _ (by omega) (by omega))), ?_⟩
    obtain ⟨f14, f15⟩ := ee
    obtain ⟨g1, g2, g3⟩ := c2
    refine ⟨g1, by omega, fun k j k0 k1 j0 j1 => ?_⟩
    have q := f15 (5 * k + j) (by omega) (by omega)
    rw [show 30 * u + (5 * k + j) = 30 * u + 5 * k + j by omega] at q
    rw [← q]; exact g3 k j k0 (by omega) j0 j1
theorem KN_s {σ σ' t : St} {o s h ru n r : Int} (h1 : σ' (o + 1) = σ (o + 1)) (h2 : σ' (o + 2) = σ (o + 2)) (hk : KN σ o t s h ru n r) : KN σ' o t s h ru n r := by
  unfold KN
  rw [h1, h2]
  exact hk
theorem IP.fr {σ σ' τ τ' : St} (hw : IW σ τ) (h : IP σ τ) (a : ∀ k : Int, 43 ≤ k → k ≤ 106 → σ' k = σ k) (a8 : σ' 108 = σ 108) (e : eW τ τ') : IP σ' τ' := by
  refine ⟨fun s q s0 s1 q0 q1 => ?_, by rw [a8]; exact h.2⟩
  obtain ⟨c1, c2, c3, c4, c5, c6, c7⟩ := h.1 s q s0 s1 q0 q1
  have e7 := e.1
  have e1 := (e.2.2.2.1 q q0 q1).1
  have w0 : σ' (pO s q) = σ (pO s q) := a _ (by unfold pO; omega) (by unfold pO; omega)
  have w1 : σ' (pO s q + 1) = σ (pO s q + 1) := a _ (by unfold pO; omega) (by unfold pO; omega)
  have w2 : σ' (pO s q + 2) = σ (pO s q + 2) := a _ (by unfold pO; omega) (by unfold pO; omega)
  rw [w0, w1]
  refine ⟨c1, c2, c3, c4, fun d1 d2 => ?_, fun d => c6 (by omega), c7⟩
  have hs := (hw.2.2.1 s s0 (by omega)).2
  have hh := (hw.hr (v := q) ⟨⟨q0, q1⟩, by omega⟩).2
  exact KN_k (e.K ⟨s0, by omega⟩ ⟨q0, q1⟩ (by have := hw.2.1; omega)) hs hh (Or.inl rfl) (KN_s w1 w2 (c5 (by omega) (by omega)))
theorem IC.fr {σ τ τ' : St} (hw : IW σ τ) (h : IC τ) (b : ∀ j : Int, 28 ≤ j → j ≤ 32 → τ' 0 j = τ 0 j) (b16 : τ' 16 = τ 16) (b17 : τ' 17 = τ 17) (e : eW τ τ') : IC τ' := by
  unfold IC
  rw [b 32 (by decide) (by decide), b 28 (by decide) (by decide), b 29 (by decide) (by decide), b 30 (by decide) (by decide), b 31 (by decide) (by decide), e.1, e.2.1]
  rcases h with h | ⟨h1, h2, h3, h4, h5⟩
  · exact Or.inl h
  · have q1 := h2.1.2.2.2.1.1
    have q2 := h2.1.2.2.2.2.1.1
    exact Or.inr ⟨h1, WK_k (fun j j0 j1 => b j j0 (by omega)) b16 b17 (e.K (by omega) (by omega) h5) h2, h3, h4, h5⟩
theorem MR.fr {σ σ' : St} {o n m sd : Int} {A B C D E : Int → Int} (h : MR σ o n m sd A B C D E) (a : ∀ k : Int, o ≤ k → k ≤ o + 5 → σ' k = σ k) : MR σ' o n m sd A B C D E := by
  unfold MR
  rw [a o (by omega) (by omega), a (o + 1) (by omega) (by omega), a (o + 2) (by omega) (by omega), a (o + 3) (by omega) (by omega), a (o + 4) (by omega) (by omega), a (o + 5) (by omega) (by omega)]
  exact h
theorem IM.fr {σ σ' τ τ' : St} (h : IM σ τ) (a1 : ∀ k : Int, 16 ≤ k → k ≤ 21 → σ' k = σ k) (a2 : ∀ k : Int, 139 ≤ k → k ≤ 150 → σ' k = σ k) (b0 : τ' 0 33 = τ 0 33 ∧ τ' 0 42 = τ 0 42 ∧ τ' 0 47 = τ 0 47) (b : ∀ k : Int, (k = 18 ∨ k = 19 ∨ k = 20 ∨ k = 25 ∨ k = 26 ∨ k = 29 ∨ k = 30) → τ' k = τ k) : IM σ' τ' := by
  unfold IM
  rw [b0.1, b0.2.1, b0.2.2, b 18 (by omega), b 19 (by omega), b 20 (by omega), b 25 (by omega), b 26 (by omega), b 29 (by omega), b 30 (by omega)]
  refine ⟨h.1.fr (fun k k0 k1 => a1 k (by omega) (by omega)), fun v v0 v1 => ?_⟩
  obtain ⟨c1, c2⟩ := h.2 v v0 v1
  rw [a2 (139 + 6 * v) (by omega) (by omega)]
  refine ⟨c1, ?_⟩
  rcases c2 with c2 | c2
  · exact Or.inl c2
  · exact Or.inr ⟨c2.1, c2.2.fr (fun k k0 k1 => a2 k (by omega) (by omega))⟩
