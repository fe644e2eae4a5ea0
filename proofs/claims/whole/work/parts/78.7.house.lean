/-! house -/
theorem sortsOK {σ σ' τ τ' : St} {n h0 : Int} (h : ∀ s, 0 ≤ s → s < n → SR σ (27 + 4 * s) τ s ∧ SOK τ s) (a : ∀ s k : Int, 0 ≤ s → s < n → 27 + 4 * s ≤ k → k ≤ 30 + 4 * s → σ' k = σ k) (e : ∀ s, 0 ≤ s → s < n → eS τ τ' s) (eh : eH τ τ' h0) : ∀ s, 0 ≤ s → s < n → SR σ' (27 + 4 * s) τ' s ∧ SOK τ' s := fun s s0 s1 => by
  obtain ⟨q1, q2⟩ := h s s0 s1
  exact ⟨SR_k (e s s0 s1) q2 (q1.to (a s _ s0 s1 (by omega) (by omega)) (a s _ s0 s1 (by omega) (by omega)) (a s _ s0 s1 (by omega) (by omega)) (a s _ s0 s1 (by omega) (by omega))), SOK_k (eqK_of (ru := -1) (e s s0 s1) eh (fun z => absurd z (by decide))) q2⟩
theorem rulesOK {σ σ' τ τ' : St} {n h0 s0 : Int} (h : ∀ u, 0 ≤ u → u < n → RR σ (115 + 6 * u) τ u ∧ ROK τ u) (a : ∀ u k : Int, 0 ≤ u → u < n → 115 + 6 * u ≤ k → k ≤ 120 + 6 * u → σ' k = σ k) (e : ∀ u, 0 ≤ u → u < n → eU τ τ' u) (eh : eH τ τ' h0) (es : eS τ τ' s0) : ∀ u, 0 ≤ u → u < n → RR σ' (115 + 6 * u) τ' u ∧ ROK τ' u := fun u u0 u1 => by
  obtain ⟨q1, q2⟩ := h u u0 u1
  exact ⟨RR_k (e u u0 u1) q2 (q1.to (a u _ u0 u1 (by omega) (by omega)) (a u _ u0 u1 (by omega) (by omega)) (a u _ u0 u1 (by omega) (by omega)) (a u _ u0 u1 (by omega) (by omega)) (a u _ u0 u1 (by omega) (by omega)) (a u _ u0 u1 (by omega) (by omega))), ROK_k (eqK_of es eh (fun _ => e u u0 u1)) q2⟩
theorem houseOK {σ σ' τ τ' : St} {h s0 : Int} (q : (σ (23 + 2 * h) 1 = 0 ∧ τ 1 h = 0) ∨ (HR σ (23 + 2 * h) τ h ∧ HOK τ h)) (a : σ' (23 + 2 * h) = σ (23 + 2 * h)) (a1 : σ' (23 + 2 * h + 1) = σ (23 + 2 * h + 1)) (e : eH τ τ' h) (es : eS τ τ' s0) : (σ' (23 + 2 * h) 1 = 0 ∧ τ' 1 h = 0) ∨ (HR σ' (23 + 2 * h) τ' h ∧ HOK τ' h) := by
  rcases q with ⟨q1, q2⟩ | ⟨q1, q2⟩
  · exact Or.inl ⟨by rw [a]; exact q1, by rw [← e.1]; exact q2⟩
  · exact Or.inr ⟨HR_k e q2 (q1.to a a1), HOK_k (eqK_of (ru := -1) es e (fun z => absurd z (by decide))) q2⟩
theorem X_open {σ : St} {T : Int → Int} {L : Int} (tx : TXx σ T L) : ∃ σ' p, p_X4_open 1 σ = some (0, σ') ∧ (∀ k : Int, k ≠ 1 → σ' k = σ k) ∧ σ' 1 1 = σ 1 1 ∧ σ' 1 2 = 0 ∧ σ' 1 3 = -1 ∧ SK T L 0 p ∧ TO σ' T L p := by
  obtain ⟨σ1, e1, a1, b1, c1⟩ := su_ex σ 1 2 0
  obtain ⟨σ2, e2, a2, b2, c2⟩ := su_ex σ1 1 3 (-1)
  obtain ⟨σ3, e3, a3, b3, c3⟩ := su_ex σ2 1 6 0
  have t2 := tx.2.1
  have tx3 : TXx σ3 T L := by
    unfold TXx
    rw [c3 1 (by decide), c2 1 (by decide), c1 1 (by decide), a3 2 (by decide), a2 2 (by decide), a1 2 (by decide)]
    exact tx
  obtain ⟨σ4, p, x4, r4, sk, to⟩ := X_step tx3 (by rw [b3]; omega)
  rw [b3] at sk
  refine ⟨σ4, p, ?_, fun k hk => by rw [r4.1 k hk, a3 k hk, a2 k hk, a1 k hk], by rw [r4.2 1 (by omega), c3 1 (by decide), c2 1 (by decide), c1 1 (by decide)], by rw [r4.2 2 (by omega), c3 2 (by decide), c2 2 (by decide), b1], by rw [r4.2 3 (by omega), c3 3 (by decide), b2], sk, to⟩
  unfold p_X4_open
  rw [nx_eq, e1, nx_eq, e2, nx_eq, e3, x4]
  simp only [bnd_some]
theorem X_closeText {σ : St} (a : Int) {c : Int} (hc : σ 1 2 = c) (hb : 0 ≤ c ∧ c ≤ 5) : ∃ σ', p_X7_closeText a σ = some (if c = 0 then a else -10 - c, σ') ∧ (∀ k : Int, k ≠ 0 → k ≠ 1 → σ' k = σ k) ∧ (∀ j : Int, j ≠ 13 → σ' 0 j = σ 0 j) ∧ σ' 0 13 = σ 1 3 ∧ σ' 1 1 = 0 := by
  obtain ⟨σ1, e1, a1, b1, c1⟩ := su_ex σ 1 1 0
  obtain ⟨σ2, e2, a2, b2, c2⟩ := su_ex σ1 0 13 (σ1 1 3)
  refine ⟨σ2, ?_, fun k h0 h1 => by rw [a2 k h0, a1 k h1], fun j hj => by rw [c2 j hj, a1 0 (by decide)], by rw [b2, c1 3 (by decide)], by rw [a2 1 (by decide), b1]⟩
  unfold p_X7_closeText
  rw [nx_eq, e1, nx_eq, e2, a2 1 (by decide), c1 2 (by decide), hc, zm_eq (a := c) (by omega) (by omega)]
  by_cases z : c = 0
  · rw [if_pos z, if_pos z]
  · rw [if_neg z, if_neg z]
theorem X_h54 {v ans : Int} (hv : 0 ≤ v ∧ v < 2) : ∀ (d f s : Nat) (σ : St), s + d = 4 → d < f → ∃ σ', p_X7_house_54 f v ans s σ = some (ans, σ') ∧ (∀ k : Int, (∀ s' : Int, s ≤ s' → s' < 4 → k ≠ pO s' v) → σ' k = σ k) ∧ (∀ s' : Int, s ≤ s' → s' < 4 → σ' (pO s' v) 5 = 0 ∧ ∀ j, j ≠ 5 → σ' (pO s' v) j = σ (pO s' v) j) := by
  intro d
  induction d with
  | zero =>
    intro f s σ hs hf
    obtain ⟨f, rfl⟩ := Nat.exists_eq_succ_of_ne_zero (by omega : f ≠ 0)
    refine ⟨σ, ?_, fun _ _ => rfl, fun s' a b => by omega⟩
    show p_X7_house_54b (p_X7_house_54 f) v ans s σ = _
    unfold p_X7_house_54b
    rw [zm_eq (a := (s : Int)) (by omega) (by omega), if_pos (by omega)]
  | succ d ih =>
    intro f s σ hs hf
    obtain ⟨f, rfl⟩ := Nat.exists_eq_succ_of_ne_zero (by omega : f ≠ 0)
    obtain ⟨σ1, e1, a1, b1, c1⟩ := su_ex σ (pO s v) 5 0
    obtain ⟨σ', e', a', b'⟩ := ih f (s + 1) σ1 (by omega) (by omega)
    refine ⟨σ', ?_, fun k hk => ?_, fun s' h1 h2 => ?_⟩
    · refine Eq.trans ?_ e'
      show p_X7_house_54b (p_X7_house_54 f) v ans s σ = _
      unfold p_X7_house_54b p_X3_forget
      rw [zm_eq (a := (s : Int)) (by omega) (by omega), if_neg (by omega), zm_eq (a := (s : Int) * 2 + v) (by omega) (by omega), gd_pos (by omega), show 43 + 8 * ((s : Int) * 2 + v) = pO s v by unfold pO; omega, nx_eq, e1]
      simp only [bnd_some]
      rfl
    · rw [a' k (fun s' h1 h2 => hk s' (by omega) h2), a1 k (hk s (by omega) (by omega))]
    · by_cases z : s' = s
      · subst z
        have n : σ' (pO s v) = σ1 (pO s v) := a' _ (fun s'' h1 h2 => by unfold pO; omega)
        rw [n]
        exact ⟨b1, c1⟩
      · obtain ⟨w1, w2⟩ := b' s' (by omega) h2
        exact ⟨w1, fun j hj => by rw [w2 j hj, a1 _ (by unfold pO; omega)]⟩
theorem pH.sS {τ τ' : St} (f : pH τ τ') (s : Int) : eS τ τ' s := by
  unfold eS
  rw [f.1 8 (by omega), f.1 9 (by omega), f.1 10 (by omega), f.1 11 (by omega), f.1 12 (by omega)]
  exact ⟨rfl, rfl, rfl, fun _ _ _ => ⟨rfl, rfl⟩⟩
theorem pH.uU {τ τ' : St} (f : pH τ τ') (u : Int) : eU τ τ' u := by
  unfold eU
  rw [f.1 14 (by omega), f.1 15 (by omega)]
  exact ⟨rfl, fun _ _ _ => rfl⟩
theorem pH.hH {τ τ' : St} (f : pH τ τ') {h : Int} (h0 : 0 ≤ h) (h1 : h < 2) : eH τ τ' h := ⟨(f.2.1 1 (by decide) (by decide) (by decide) h (by omega)).symm, (f.2.1 3 (by decide) (by decide) (by decide) h (by omega)).symm, (f.2.1 4 (by decide) (by decide) (by decide) h (by omega)).symm, (f.2.1 5 (by decide) (by decide) (by decide) h (by omega)).symm, (f.2.1 6 (by decide) (by decide) (by decide) h (by omega)).symm, (f.2.1 7 (by decide) (by decide) (by decide) h (by omega)).symm, fun r r0 r1 => (f.2.2.1 _ (by omega)).symm⟩
theorem pH.eW {τ τ' : St} (f : pH τ τ') : eW τ τ' := ⟨f.2.2.2 7 (by omega), f.2.2.2 23 (by omega), fun s _ _ => f.sS s, fun _ h0 h1 => f.hH h0 h1, fun u _ _ => f.uU u⟩
theorem ok_house {a1 : Int} (h1 : i32 a1) : StepOK Inv (p_X7_house a1) (p_X8_house a1) := fun σ τ hI => by
  have hw := hI.2.1
  by_cases c1 : 0 ≤ a1 ∧ a1 ≤ 1
  rotate_left
  · refine st_eq (a := -1000000001) ?_ ?_ hI
    · unfold p_X7_house
      rw [X_isOut h1 ⟨by decide, by decide⟩ ⟨by decide, by decide⟩, if_neg c1]
      simp only [bnd_some, zm0t, zm1n, if_true, if_false]
    · unfold p_X8_house
      rw [M_wi h1 ⟨by decide, by decide⟩ ⟨by decide, by decide⟩, if_neg c1]
      simp only [bnd_some, zm0t, zm1n, if_true, if_false]
  obtain ⟨it1, it2, it3, it4⟩ := hI.1
  -- the program's start
  obtain ⟨s1, e1, u1, v1, w1⟩ := su_ex σ 7 1 0
  obtain ⟨s2, e2, u2, v2, w2⟩ := su_ex s1 7 2 0
  obtain ⟨s3, e3, u3, v3, w3⟩ := su_ex s2 7 3 1
  obtain ⟨s4, e4, u4, v4, w4⟩ := su_ex s3 7 4 3
  obtain ⟨s5, e5, u5, v5, w5⟩ := su_ex s4 7 5 0
  obtain ⟨s6, e6, u6, v6, w6⟩ := su_ex s5 7 6 0
  have fs6 : ∀ k : Int, k ≠ 7 → s6 k = σ k := fun k hk => by rw [u6 k hk, u5 k hk, u4 k hk, u3 k hk, u2 k hk, u1 k hk]
  have tx6 : TXx s6 (τ 13) (τ 0 14) := ⟨by rw [fs6 1 (by decide)]; exact it2, it3, fun i i0 i1 => by rw [fs6 2 (by decide)]; exact it4 i i0 i1⟩
  obtain ⟨s7, p, e7, fs7, o1, o2, o3, sk, to⟩ := X_open tx6
  -- the reference's start
  obtain ⟨t1, m1, a1', b1, d1⟩ := su_ex τ 0 15 (-1)
  obtain ⟨t2, m2, a2, b2, d2⟩ := su_ex t1 0 16 0
  obtain ⟨t3, m3, a3, b3, d3⟩ := su_ex t2 1 2 0
  obtain ⟨t4, m4, a4, b4, d4⟩ := su_ex t3 3 2 0
  obtain ⟨t5, m5, a5, b5, d5⟩ := su_ex t4 5 2 1
  obtain ⟨t6, m6, a6, b6, d6⟩ := su_ex t5 4 2 3
  obtain ⟨t7, m7, a7, b7, d7⟩ := su_ex t6 6 2 0
  obtain ⟨t8, m8, a8, b8, d8⟩ := su_ex t7 7 2 0
  obtain ⟨t9, m9, a9, b9, d9⟩ := su_ex t8 0 21 0
  have ft : pH τ t9 := (((pH0 (j := 15) (by decide) m1).tr (pH0 (j := 16) (by decide) m2)).tr ((pHs (by decide) m3).tr (pHs (by decide) m4))).tr (((pHs (by decide) m5).tr (pHs (by decide) m6)).tr (((pHs (by decide) m7).tr (pHs (by decide) m8)).tr (pH0 (j := 21) (by decide) m9)))
  have tm9 : TXm t9 (τ 13) (τ 0 14) := ft.tx ⟨rfl, it3, fun i i0 i1 => ⟨rfl, (it4 i i0 i1).2⟩⟩
  have r0 : ∀ j : Int, j ≠ 21 → t9 0 j = t2 0 j := fun j hj => by rw [d9 j hj, a8 0 (by decide), a7 0 (by decide), a6 0 (by decide), a5 0 (by decide), a4 0 (by decide), a3 0 (by decide)]
  have g16 : t9 0 16 = 0 := by rw [r0 16 (by decide), b2]
  have g15 : t9 0 15 = -1 := by rw [r0 15 (by decide), d2 15 (by decide), b1]
  have k1 : t9 1 2 = 0 := by rw [a9 1 (by decide), a8 1 (by decide), a7 1 (by decide), a6 1 (by decide), a5 1 (by decide), a4 1 (by decide), b3]
  have k3 : t9 3 2 = 0 := by rw [a9 3 (by decide), a8 3 (by decide), a7 3 (by decide), a6 3 (by decide), a5 3 (by decide), b4]
  have k5 : t9 5 2 = 1 := by rw [a9 5 (by decide), a8 5 (by decide), a7 5 (by decide), a6 5 (by decide), b5]
  have k4 : t9 4 2 = 3 := by rw [a9 4 (by decide), a8 4 (by decide), a7 4 (by decide), b6]
  have k6 : t9 6 2 = 0 := by rw [a9 6 (by decide), a8 6 (by decide), b7]
  have k7 : t9 7 2 = 0 := by rw [a9 7 (by decide), b8]
  have hx : HX s7 t9 0 := by
    have q7 : s7 7 = s6 7 := fs7 7 (by decide)
    have nb : ∀ k : Int, 0 ≤ k → k ≤ 4 → ¬ hasb 0 k := fun k q0 q1 => by
      rcases (by omega : k = 0 ∨ k = 1 ∨ k = 2 ∨ k = 3 ∨ k = 4) with rfl | rfl | rfl | rfl | rfl <;> decide
    unfold HX
    rw [k1, k3, k4, k5, k6, k7, q7, b9, v6, w6 5 (by decide), v5, w6 4 (by decide), w5 4 (by decide), v4, w6 3 (by decide), w5 3 (by decide), w4 3 (by decide), v3, w6 2 (by decide), w5 2 (by decide), w4 2 (by decide), w3 2 (by decide), v2, w6 1 (by decide), w5 1 (by decide), w4 1 (by decide), w3 1 (by decide), w2 1 (by decide), v1]
    exact ⟨by decide, rfl, by decide, by decide, by decide, by decide, fun r r0 r1 => by omega, fun k q0 q1 => ⟨fun z => absurd z (nb k q0 (by omega)), fun z => absurd z (nb (k + 1) (by omega) (by omega))⟩⟩
  have ps : PS s7 t9 (τ 13) (τ 0 14) p := ⟨⟨by rw [o1]; exact tx6.1, it3, fun i i0 i1 => by rw [fs7 2 (by decide)]; exact tx6.2.2 i i0 i1⟩, tm9, to, by omega, by rw [g16]; exact sk⟩
  have sk1 := sk.1
  obtain ⟨s8, c, t10, x8, m10, fx, fm, q2, q3, alt⟩ := house_loop (a := a1) (T := τ 13) (L := τ 0 14) 300 FU FU 0 s7 t9 0 p (by omega) (FU_gt (by omega)) (FU_gt (by omega)) (by decide) sk1.1 ps o2 (by rw [o3, g15]) hx
  have cb : 0 ≤ c ∧ c ≤ 5 := by rcases alt with ⟨z, _⟩ | z <;> omega
  obtain ⟨s9, x9, y1, y2, y3, y4⟩ := X_closeText (s8 7 1) q2 cb
  obtain ⟨t11, m11, n1, n2, n3⟩ := su_ex t10 0 14 0
  have fr9 : ∀ k : Int, k ≠ 0 → k ≠ 1 → k ≠ 7 → k ≠ 8 → s9 k = σ k := fun k h0 h1 h7 h8 => by rw [y1 k h0 h1, fx.1 k h1 h7 h8, fs7 k h1, fs6 k h7]
  have fr0 : ∀ j : Int, j ≠ 13 → s9 0 j = σ 0 j := fun j hj => by rw [y2 j hj, fx.1 0 (by decide) (by decide) (by decide), fs7 0 (by decide), fs6 0 (by decide)]
  have F : pH τ t10 := ft.tr fm
  have tq : ∀ q : Int, q ≠ 0 → t11 q = t10 q := fun q hq => n1 q hq
  have tj : ∀ j : Int, j ≠ 14 → t11 0 j = t10 0 j := fun j hj => n3 j hj
  have xx : p_X7_house a1 σ = if zm (if c = 0 then s8 7 1 else -10 - c) < 0 then some ((if c = 0 then s8 7 1 else -10 - c), s9) else (Option.bind (p_X0_copyFrom (23 + 2 * a1) 7 s9) fun x49 => p_X7_house_54 FU a1 (if c = 0 then s8 7 1 else -10 - c) 0 x49.2) := by
    unfold p_X7_house p_X0_readFrom
    rw [X_isOut h1 ⟨by decide, by decide⟩ ⟨by decide, by decide⟩, if_pos c1]
    simp only [bnd_some, zm0t, if_true]
    rw [nx_eq, e1, nx_eq, e2, nx_eq, e3, nx_eq, e4, nx_eq, e5, nx_eq, e6, e7]
    simp only [bnd_some]
    rw [x8]
    simp only [bnd_some]
    rw [x9]
    simp only [bnd_some]
    rw [zm_i h1, gd_pos (by omega)]
  have mm : p_X8_house a1 τ = if zm c ≤ 0 then (Option.bind (p_X8_copyHouse 2 a1 t11) fun x141 => nx (su x141.2 0 32 0) fun σ146 => gd (0 ≤ zm a1 ∧ zm a1 < 3) (some ((σ146 1 (zm a1)), σ146))) else (some (((-10) - c), t11)) := by
    unfold p_X8_house
    rw [M_wi h1 ⟨by decide, by decide⟩ ⟨by decide, by decide⟩, if_pos c1]
    simp only [bnd_some, zm1n, if_false]
    rw [nx_eq, m1, nx_eq, m2, nx_eq, m3, nx_eq, m4, nx_eq, m5, nx_eq, m6, nx_eq, m7, nx_eq, m8, nx_eq, m9, m10]
    unfold p_X8_house_123
    rw [nx_eq, m11]
  have it' : ∀ (σ' τ' : St), σ' 0 13 = s9 0 13 → σ' 1 = s9 1 → τ' 0 15 = t11 0 15 → τ' 0 14 = t11 0 14 → IT σ' τ' := fun σ' τ' h13 h1 h15 h14 => by
    refine ⟨?_, by rw [h1, y4, h14, n2], by rw [h14, n2]; decide, fun i i0 i1 => by rw [h14, n2] at i1; omega⟩
    rw [h13, y3, h15, tj 15 (by decide), q3]
  rw [zm_eq (a := c) (by omega) (by omega)] at mm
  obtain ⟨i1, i2, i3, i4, i5⟩ := id hI
  have q4 := i2.1
  have q5 := i2.2.1
  rcases alt with ⟨rfl, ⟨sn', hx'⟩, hlt⟩ | hc
  · rw [if_pos (by decide)] at mm
    obtain ⟨z1, z2, z3, z4, z5, z6, z7, z8⟩ := hx'
    simp only [if_true] at xx
    rw [zm_eq (a := s8 7 1) (by omega) (by omega), if_neg (by omega)] at xx
    obtain ⟨s10, x10, y5, y6, y7⟩ := X_copyFrom (o := 23 + 2 * a1) (o1 := 7) (by omega) s9
    obtain ⟨s11, x11, y8, y9⟩ := X_h54 (v := a1) (ans := s8 7 1) (by omega) 4 FU 0 s10 (by omega) (FU_gt (by omega))
    obtain ⟨t12, m12, C⟩ := M_copyHouse (v1 := 2) (v2 := a1) (by decide) (by omega) (by omega) t11
    obtain ⟨t13, m13, n4, n5, n6⟩ := su_ex t12 0 32 0
    have xx2 : p_X7_house a1 σ = some (s8 7 1, s11) := by
      rw [xx, x10]
      simp only [bnd_some]
      exact x11
    have K : ∀ q : Int, q ≠ 0 → t13 q = t12 q := fun q hq => n4 q hq
    have kC := fun q hq => (C.2.1 q hq)
    have t1v : t13 1 a1 = s8 7 1 := by rw [K 1 (by decide), (kC 1 (by omega)).1, tq 1 (by decide), z1.1]
    have mm2 : p_X8_house a1 τ = some (s8 7 1, t13) := by
      rw [mm, m12]
      simp only [bnd_some]
      rw [nx_eq, m13, zm_i h1, gd_pos (by omega), t1v]
    refine st_eq xx2 mm2 ?_
    -- the stores
    have cX : ∀ k : Int, k ≠ 0 → k ≠ 1 → k ≠ 7 → k ≠ 8 → k ≠ 23 + 2 * a1 → k ≠ 23 + 2 * a1 + 1 → (∀ s' : Int, 0 ≤ s' → s' < 4 → k ≠ pO s' a1) → s11 k = σ k := fun k h0 h1 h7 h8 ha hb hp => by rw [y8 k (fun s' q0 q1 => hp s' q0 q1), y5 k ha hb, fr9 k h0 h1 h7 h8]
    have npl : ∀ k : Int, (k < 43 ∨ 106 < k) → ∀ s' : Int, 0 ≤ s' → s' < 4 → k ≠ pO s' a1 := fun k hk s' q0 q1 => by unfold pO; omega
    have c0 : s11 0 = s9 0 := by rw [y8 0 (fun s' q0 q1 => npl 0 (by omega) s' q0 q1), y5 0 (by omega) (by omega)]
    have c1' : s11 1 = s9 1 := by rw [y8 1 (fun s' q0 q1 => npl 1 (by omega) s' q0 q1), y5 1 (by omega) (by omega)]
    have rows : ∀ q : Int, 7 < q → t13 q = τ q := fun q hq => by rw [K q (by omega), C.1 q (by omega), tq q (by omega), F.1 q hq]
    have flds : ∀ j : Int, j ≠ 14 → j ≠ 32 → (j < 15 ∨ 21 < j) → t13 0 j = τ 0 j := fun j h14 h32 hj => by rw [n6 j h32, C.1 0 (by omega), tj j h14, F.2.2.2 j hj]
    have eSt : ∀ s, eS τ t13 s := fun s => by
      unfold eS
      rw [rows 8 (by omega), rows 9 (by omega), rows 10 (by omega), rows 11 (by omega), rows 12 (by omega)]
      exact ⟨rfl, rfl, rfl, fun _ _ _ => ⟨rfl, rfl⟩⟩
    have eUt : ∀ u, eU τ t13 u := fun u => by
      unfold eU
      rw [rows 14 (by omega), rows 15 (by omega)]
      exact ⟨rfl, fun _ _ _ => rfl⟩
    have eHo : eH τ t13 (1 - a1) := by
      have one : ∀ q : Int, (q = 1 ∨ (3 ≤ q ∧ q ≤ 7)) → τ q (1 - a1) = t13 q (1 - a1) := fun q hq => by rw [K q (by omega), (kC q hq).2 _ (by omega), tq q (by omega), F.2.1 q (by omega) (by omega) (by omega) _ (by omega)]
      exact ⟨one 1 (by omega), one 3 (by omega), one 4 (by omega), one 5 (by omega), one 6 (by omega), one 7 (by omega), fun r r0 r1 => by rw [K 2 (by decide), C.2.2.2 _ (by omega), tq 2 (by decide), F.2.2.1 _ (by omega)]⟩
    have T7 : t13 0 7 = τ 0 7 := flds 7 (by decide) (by decide) (by omega)
    have T23 : t13 0 23 = τ 0 23 := flds 23 (by decide) (by decide) (by omega)
    have hokv : HOK t13 a1 := by
      have h2 : HOK t11 2 := by
        unfold HOK
        rw [tq 1 (by decide), tq 2 (by decide), tq 4 (by decide), tq 5 (by decide), tq 6 (by decide), tq 7 (by decide)]
        exact ⟨by decide, by omega, fun r r0 r1 => by rw [show (10 : Int) * 2 + r = 20 + r by omega]; exact (z7 r r0 r1).2, z4.2, z3.2, z5.2, by omega⟩
      have h3 := HOK_C C (by omega) h2
      unfold HOK
      rw [K 1 (by decide), K 2 (by decide), K 4 (by decide), K 5 (by decide), K 6 (by decide), K 7 (by decide)]
      exact h3
    have hrv : HR s11 (23 + 2 * a1) t13 a1 := by
      have ho : s11 (23 + 2 * a1) = s10 (23 + 2 * a1) := y8 _ (fun s' q0 q1 => npl _ (by omega) s' q0 q1)
      have ho1 : s11 (23 + 2 * a1 + 1) = s10 (23 + 2 * a1 + 1) := y8 _ (fun s' q0 q1 => npl _ (by omega) s' q0 q1)
      have s97 : ∀ j, s9 7 j = s8 7 j := fun j => by rw [y1 7 (by decide) (by decide)]
      have s98 : s9 (7 + 1) = s8 8 := y1 8 (by decide) (by decide)
      have one : ∀ q : Int, (q = 1 ∨ (3 ≤ q ∧ q ≤ 7)) → t13 q a1 = t10 q 2 := fun q hq => by rw [K q (by omega), (kC q hq).1, tq q (by omega)]
      refine ⟨?_, ?_, ?_, ?_, ?_, ?_, ?_, fun r r0 r1 => ?_⟩
      · rcases (by omega : a1 = 0 ∨ a1 = 1) with rfl | rfl <;> decide
      · rw [ho, y6 1 (by decide) (by decide), s97, one 1 (by omega)]; exact z1.1
      · rw [ho, y6 2 (by decide) (by decide), s97, one 3 (by omega)]; exact z2
      · rw [ho, y6 3 (by decide) (by decide), s97, one 5 (by omega)]; exact z3.1
      · rw [ho, y6 4 (by decide) (by decide), s97, one 4 (by omega)]; exact z4.1
      · rw [ho, y6 5 (by decide) (by decide), s97, one 6 (by omega)]; exact z5.1
      · rw [ho, y6 6 (by decide) (by decide), s97, one 7 (by omega)]; exact z6.1
      · rw [one 1 (by omega)] at r1
        rw [ho1, y7 r r0 (by omega), s98, K 2 (by decide), C.2.2.1 r r0 (by omega), tq 2 (by decide), show (10 : Int) * 2 + r = 20 + r by omega]
        exact (z7 r r0 r1).1
    have IW' : IW s11 t13 := by
      refine ⟨by rw [c0, fr0 11 (by decide), T7]; exact q4, by rw [c0, fr0 12 (by decide), T23]; exact q5, ?_, fun h h0 h2 => ?_, ?_⟩
      · rw [T7]
        exact sortsOK (h0 := 1 - a1) i2.2.2.1 (fun s k s0 s1 l0 l1 => cX k (by omega) (by omega) (by omega) (by omega) (by omega) (by omega) (npl k (by omega))) (fun s _ _ => eSt s) eHo
      · by_cases z : h = a1
        · rw [z]; exact Or.inr ⟨hrv, hokv⟩
        · have zz : h = 1 - a1 := by omega
          subst zz
          exact houseOK (s0 := 0) (i2.2.2.2.1 (1 - a1) h0 h2) (cX _ (by omega) (by omega) (by omega) (by omega) (by omega) (by omega) (npl _ (by omega))) (cX _ (by omega) (by omega) (by omega) (by omega) (by omega) (by omega) (npl _ (by omega))) eHo (eSt 0)
      · rw [T23]
        exact rulesOK (h0 := 1 - a1) (s0 := 0) i2.2.2.2.2 (fun u k u0 u1 l0 l1 => cX k (by omega) (by omega) (by omega) (by omega) (by omega) (by omega) (npl k (by omega))) (fun u _ _ => eUt u) eHo (eSt 0)
    have IP' : IP s11 t13 := by
      refine ⟨fun s h l0 l1 l2 l3 => ?_, fun r r0 r1 => by rw [cX 108 (by decide) (by decide) (by decide) (by decide) (by omega) (by omega) (npl 108 (by omega))]; exact i3.2 r r0 r1⟩
      have old : IP1 σ τ s h := i3.1 s h l0 l1 l2 l3
      obtain ⟨p0, p1, p2, p3, p4, p5, p6⟩ := old
      have s1c : s11 (pO s h + 1) = σ (pO s h + 1) := cX _ (by unfold pO; omega) (by unfold pO; omega) (by unfold pO; omega) (by unfold pO; omega) (by unfold pO; omega) (by unfold pO; omega) (fun s' q0 q1 => by unfold pO; omega)
      have s2c : s11 (pO s h + 2) = σ (pO s h + 2) := cX _ (by unfold pO; omega) (by unfold pO; omega) (by unfold pO; omega) (by unfold pO; omega) (by unfold pO; omega) (by unfold pO; omega) (fun s' q0 q1 => by unfold pO; omega)
      by_cases z : h = a1
      · subst z
        obtain ⟨k5', kj⟩ := y9 s l0 l1
        have old' : ∀ j, s10 (pO s h) j = σ (pO s h) j := fun j => by rw [y5 _ (by unfold pO; omega) (by unfold pO; omega), fr9 _ (by unfold pO; omega) (by unfold pO; omega) (by unfold pO; omega) (by unfold pO; omega)]
        show IP1 s11 t13 s h
        unfold IP1
        rw [k5', kj 0 (by decide), kj 1 (by decide), kj 2 (by decide), old', old', old', s1c]
        refine ⟨p0, p1, p2, by decide, fun _ _ => ⟨fun n' r' b0 b1 b2 b3 => ?_, fun n' r' b0 b1 b2 b3 => by omega⟩, fun _ => rfl, p6⟩
        have n0 : n' = 0 := by omega
        subst n0
        have t10' := hokv.2.1
        rw [s1c, show (10 : Int) * 0 + r' = r' by omega, p6 r' b1 (by omega)]
        unfold cst
        rfl
      · have zz : h = 1 - a1 := by omega
        subst zz
        have so : s11 (pO s (1 - a1)) = σ (pO s (1 - a1)) := cX _ (by unfold pO; omega) (by unfold pO; omega) (by unfold pO; omega) (by unfold pO; omega) (by unfold pO; omega) (by unfold pO; omega) (fun s' q0 q1 => by unfold pO; omega)
        show IP1 s11 t13 s (1 - a1)
        unfold IP1
        rw [so, s1c, T7, ← eHo.1]
        refine ⟨p0, p1, p2, p3, fun b0 b1 => ?_, p5, p6⟩
        have hk := i2.hr (v := 1 - a1) ⟨⟨l2, l3⟩, b1⟩
        exact KN_k (eqK_of (ru := -1) (eSt s) eHo (fun z => absurd z (by decide))) (i2.2.2.1 s l0 b0).2 hk.2 (Or.inl rfl) (KN_s s1c s2c (p4 b0 b1))
    refine ⟨it' s11 t13 (by rw [c0]) c1' (by rw [n6 15 (by decide), C.1 0 (by omega)]) (by rw [n6 14 (by decide), C.1 0 (by omega)]), IW', IP', Or.inl n5, i5.fr (fun k l0 l1 => cX k (by omega) (by omega) (by omega) (by omega) (by omega) (by omega) (npl k (by omega))) (fun k l0 l1 => cX k (by omega) (by omega) (by omega) (by omega) (by omega) (by omega) (npl k (by omega))) ⟨flds 33 (by decide) (by decide) (by omega), flds 42 (by decide) (by decide) (by omega), flds 47 (by decide) (by decide) (by omega)⟩ (fun k hk => rows k (by omega))⟩
  · rw [if_neg (by omega)] at mm
    rw [if_neg (show ¬ c = 0 by omega), zm_eq (a := -10 - c) (by omega) (by omega), if_pos (by omega)] at xx
    refine st_eq xx mm ?_
    have W : eW τ t11 := by
      have e := F.eW
      refine ⟨by rw [tj 7 (by decide)]; exact e.1, by rw [tj 23 (by decide)]; exact e.2.1, fun s q0 q1 => ?_, fun h q0 q1 => ?_, fun u q0 q1 => ?_⟩
      · have z := F.sS s
        unfold eS at z ⊢
        rw [tq 8 (by decide), tq 9 (by decide), tq 10 (by decide), tq 11 (by decide), tq 12 (by decide)]
        exact z
      · have z := F.hH q0 q1
        unfold eH at z ⊢
        rw [tq 1 (by decide), tq 2 (by decide), tq 3 (by decide), tq 4 (by decide), tq 5 (by decide), tq 6 (by decide), tq 7 (by decide)]
        exact z
      · have z := F.uU u
        unfold eU at z ⊢
        rw [tq 14 (by decide), tq 15 (by decide)]
        exact z
    have flds : ∀ j : Int, 28 ≤ j → t11 0 j = τ 0 j := fun j hj => by rw [tj j (by omega), F.2.2.2 j (by omega)]
    exact ⟨it' s9 t11 rfl rfl rfl rfl, i2.fr (fr0 11 (by decide)) (fr0 12 (by decide)) (fun k l0 l1 => fr9 k (by omega) (by omega) (by omega) (by omega)) (fun k l0 l1 => fr9 k (by omega) (by omega) (by omega) (by omega)) W, IP.fr i2 i3 (fun k l0 l1 => fr9 k (by omega) (by omega) (by omega) (by omega)) (fr9 108 (by decide) (by decide) (by decide) (by decide)) W, IC.fr i2 i4 (fun j l0 l1 => flds j (by omega)) (by rw [tq 16 (by decide), F.1 16 (by decide)]) (by rw [tq 17 (by decide), F.1 17 (by decide)]) W, i5.fr (fun k l0 l1 => fr9 k (by omega) (by omega) (by omega) (by omega)) (fun k l0 l1 => fr9 k (by omega) (by omega) (by omega) (by omega)) ⟨flds 33 (by decide), flds 42 (by decide), flds 47 (by decide)⟩ (fun k hk => by rw [tq k (by omega), F.1 k (by omega)])⟩
