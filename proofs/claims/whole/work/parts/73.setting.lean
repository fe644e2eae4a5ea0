/-! the best short setting -/
theorem pOf_01 (t : St) (s h ru Y r : Int) : 0 ≤ pOf t s h ru Y r ∧ pOf t s h ru Y r ≤ 1 := by
  unfold pOf
  by_cases q : pnd t s h ru (cst t s h ru (Y - 1).toNat) r
  · rw [if_pos q]; decide
  · rw [if_neg q]; decide
theorem X_pt94 {σ t : St} {s Y n : Int} (hr : HR σ 7 t 2) (hh : HOK t 2) (hY : 1 ≤ Y ∧ Y ≤ 30) (kn : KN σ 107 t s 2 (-1) n 0) (hn : Y ≤ n ∧ n ≤ 30) (K5 : Int → Int → Int → Int → St → Option (Int × St)) (v2 acc v4 : Int) : ∀ (d f r : Nat), (r : Int) + d = t 1 2 → d < f → p_X7_painedTrial_94 K5 f Y v2 (acc + sm (pOf t s 2 (-1) Y) r) v4 r σ = K5 Y v2 (acc + sm (pOf t s 2 (-1) Y) (t 1 2).toNat) (v4 + 1) σ := by
  have h10 := hh.2.1
  intro d
  induction d with
  | zero =>
    intro f r hk hf
    obtain ⟨f, rfl⟩ := Nat.exists_eq_succ_of_ne_zero (by omega : f ≠ 0)
    have er : r = (t 1 2).toNat := by omega
    subst er
    show p_X7_painedTrial_94b K5 (p_X7_painedTrial_94 K5 f) Y v2 _ v4 _ σ = _
    unfold p_X7_painedTrial_94b
    rw [hr.2.1, zm_eq (a := t 1 2) (by omega) (by omega), zm_eq (a := ((t 1 2).toNat : Int)) (by omega) (by omega), if_pos (by omega)]
  | succ d ih =>
    intro f r hk hf
    obtain ⟨f, rfl⟩ := Nat.exists_eq_succ_of_ne_zero (by omega : f ≠ 0)
    refine Eq.trans ?_ (ih f (r + 1) (by omega) (by omega))
    show p_X7_painedTrial_94b K5 (p_X7_painedTrial_94 K5 f) Y v2 _ v4 _ σ = p_X7_painedTrial_94 K5 f Y v2 (acc + (sm (pOf t s 2 (-1) Y) r + pOf t s 2 (-1) Y r)) v4 _ σ
    generalize sm (pOf t s 2 (-1) Y) r = A
    have hp := kn.2 Y r (by omega) (by omega) (by omega) (by omega)
    unfold p_X7_painedTrial_94b p_X7_painedTrial_125 p_X3_isPained
    rw [hr.2.1, zm_eq (a := t 1 2) (by omega) (by omega), zm_eq (a := (r : Int)) (by omega) (by omega), if_neg (by omega), zm_eq (a := Y) (by omega) (by omega), gd_pos (by omega), ← Int.add_assoc]
    unfold pOf
    by_cases q : hasb (σ (107 + 2) Y) r
    · rw [if_neg q, if_pos (hp.1 q)]
      simp only [bnd_some, zm1n, if_false]
      rfl
    · rw [if_pos (Classical.not_not.1 q), if_neg (fun z => q (hp.2 z))]
      simp only [bnd_some, zm0t, if_true]
      rfl
theorem M_pd4 {τ : St} {s Y : Int} (w : WK τ s 2 (-1) Y) : ∀ (d n r : Nat), (r : Int) + d = τ 1 2 → d < n → p_X8_pained_4 n s (sm (pOf τ s 2 (-1) Y) r) r τ = some (sm (pOf τ s 2 (-1) Y) (τ 1 2).toNat, τ) := by
  have h10 := w.1.2.2.2.2.1.2.1
  have hs4 := w.1.2.2.2.1.1
  intro d
  induction d with
  | zero =>
    intro n r hk hn
    obtain ⟨n, rfl⟩ := Nat.exists_eq_succ_of_ne_zero (by omega : n ≠ 0)
    have er : r = (τ 1 2).toNat := by omega
    subst er
    show p_X8_pained_4b (p_X8_pained_4 n) s _ _ τ = _
    unfold p_X8_pained_4b
    rw [zm_eq (a := τ 1 2) (by omega) (by omega), zm_eq (a := ((τ 1 2).toNat : Int)) (by omega) (by omega), if_pos (by omega), zm_eq (a := s) (by omega) (by omega), if_pos (by omega)]
  | succ d ih =>
    intro n r hk hn
    obtain ⟨n, rfl⟩ := Nat.exists_eq_succ_of_ne_zero (by omega : n ≠ 0)
    refine Eq.trans ?_ (ih n (r + 1) (by omega) (by omega))
    show p_X8_pained_4b (p_X8_pained_4 n) s _ _ τ = p_X8_pained_4 n s (sm (pOf τ s 2 (-1) Y) r + pOf τ s 2 (-1) Y r) _ τ
    generalize sm (pOf τ s 2 (-1) Y) r = A
    unfold p_X8_pained_4b p_X8_pained_29
    rw [zm_eq (a := τ 1 2) (by omega) (by omega), zm_eq (a := (r : Int)) (by omega) (by omega), if_neg (by omega), M_isP w (r := (r : Int)) (by omega)]
    simp only [bnd_some]
    unfold pOf
    by_cases q : pnd τ s 2 (-1) (cst τ s 2 (-1) (Y - 1).toNat) r
    · rw [if_pos q, if_neg (by decide)]
      rfl
    · rw [if_neg q, if_pos (by decide)]
      rfl
theorem sm_bd {f : Int → Int} (h : ∀ i, 0 ≤ f i ∧ f i ≤ 1) : ∀ n : Nat, 0 ≤ sm f n ∧ sm f n ≤ n
  | 0 => by
    show (0 : Int) ≤ 0 ∧ (0 : Int) ≤ ((0 : Nat) : Int)
    omega
  | n + 1 => by
    have i := sm_bd h n
    have q := h n
    show 0 ≤ sm f n + f n ∧ sm f n + f n ≤ ((n + 1 : Nat) : Int)
    omega
theorem set_sort {σ τ : St} {s Y : Int} (hI : Inv σ τ) (hr : HR σ 7 τ 2) (hh : HOK τ 2) (cs : cS τ s) (hY : 1 ≤ Y ∧ Y ≤ 30) : ∃ (σ' τ1 τ' : St) (D p : Int), (∀ (K5 : Int → Int → Int → Int → St → Option (Int × St)) (acc v2 : Int), p_X7_painedTrial_5b K5 Y v2 acc s σ = if zm v2 ≤ zm D then K5 Y v2 (acc + p) (s + 1) σ' else some (-1, σ')) ∧ (∀ v3 : Int, p_X8_isEven s Y v3 τ = some (if zm D < zm v3 then 0 else 1, τ1)) ∧ p_X8_pained s τ1 = some (p, τ') ∧ Inv σ' τ' ∧ HR σ' 7 τ' 2 ∧ HOK τ' 2 ∧ (0 ≤ p ∧ p ≤ 10) ∧ σ' 7 = σ 7 ∧ eqT τ' τ ∧ τ' 0 7 = τ 0 7 := by
  have h10 := hh.2.1
  have q4 := hI.2.1.1
  obtain ⟨τ1, e1, o1, w1, hI1⟩ := M_wk2 (Y := Y) hI cs hh hY
  obtain ⟨τ2, e2, f2⟩ := M_evenAt (v := 10) (v2 := 2) w1 (by decide) (by decide)
  rw [if_neg (by decide), if_neg (by decide)] at e2
  have w2 := f2.WK w1
  have hr1 : HR σ 7 τ1 2 := HR_k (eH.of o1.T) hh hr
  have hh1 : HOK τ1 2 := HOK_c o1.T.symm hh
  have cs1 : cS τ1 s := by unfold cS; rw [o1.2 7 (by omega)]; exact cs
  obtain ⟨sr1, hs1⟩ := hI1.2.1.2.2.1 s cs1.1 cs1.2
  obtain ⟨σ1, x1, a1, hc1, z5, _, kn1⟩ := X_trial (n3 := -1) (ru := -1) sr1 hs1 hr1 hh1 (Or.inl ⟨by decide, rfl⟩) hI1.2.2.1.2
  obtain ⟨σ2, x2, k2, ⟨n, n1, n2, n3, n4, n5⟩, k0⟩ := X_know (left := Y) hc1 (by omega) z5 (by omega) kn1
  have hI2 : Inv σ2 τ1 := hI1.tr (fun k hk => by rw [k2.1.1 k (by omega), a1 k (by omega)]) (fun r r0 r1 => (k0 r r1).trans (by rw [a1 _ (by decide)]; rfl))
  have hc2 := hc1.to k2.1
  obtain ⟨σ3, x3, k3, o3, b3, z3⟩ := X_reckon hY hc2 (fun _ => ⟨n, n1, n3, n5⟩) (fun r r0 r1 => hI2.2.2.1.2 r r0 r1)
  have hI3 := hI2.lr (Or.inl rfl) k3
  have s7 : ∀ k : Int, k = 7 ∨ k = 8 → σ3 k = σ k := fun k hk => by rw [k3.1 k (by omega) (by omega), k2.1.1 k (by omega), a1 k (by omega)]
  have hr3 : HR σ3 7 τ1 2 := hr1.to (s7 7 (by omega)) (s7 8 (by omega))
  obtain ⟨σ4, x4, k4, p4⟩ := X_goTo (v := 10) hh1 (by decide) hr3 o3
  have f4 : lrO 107 σ3 σ4 := ⟨fun q q1 q2 => k4 q (by omega) (by omega), fun j _ _ => by rw [k4 107 (by omega) (by omega)], k4 _ (by omega) (by omega), k4 _ (by omega) (by omega)⟩
  have hI4 := hI3.lr (Or.inl rfl) f4
  have hr4 : HR σ4 7 τ1 2 := hr3.to (k4 7 (by decide) (by decide)) (k4 8 (by decide) (by decide))
  have kn4 : KN σ4 107 τ1 s 2 (-1) n 0 := KN_s (f4.2.2.1.trans k3.2.2.1) (f4.2.2.2.trans k3.2.2.2) n5
  have t10 := hh1.2.1
  have xp := X_paid hr4 hh1 p4 (τ1 1 2).toNat FU 0 (by omega) (FU_gt (by omega))
  have xa := X_askedFor (B := Bo τ1 s 2 (-1) Y) hh1.2.1 p4 (fun r r0 r1 => by rw [k4 13 (by decide) (by decide)]; exact b3 r r0 r1) (fun r r0 r1 => by rw [k4 13 (by decide) (by decide)]; exact z3 r r0 r1) 10 FU 0 (by omega) (FU_gt (by omega))
  have x10 : (10 : Int).toNat = 10 := by decide
  generalize Pp τ1 2 (Od τ1 s 2 (-1) Y) (10 : Int).toNat = P at e2 xp xa
  have xp' : p_X1_paid 9 7 σ4 = some (sm (paF τ1 2 P) (τ1 1 2).toNat, σ4) := by
    unfold p_X1_paid
    exact xp
  have xa' : p_X1_askedFor 9 σ4 = some (sm (afF P (Bo τ1 s 2 (-1) Y)) (τ1 1 2).toNat, σ4) := by
    rw [if_pos (by omega)] at xa
    unfold p_X1_askedFor
    exact xa
  generalize sm (paF τ1 2 P) (τ1 1 2).toNat = A at e2 xp'
  generalize sm (afF P (Bo τ1 s 2 (-1) Y)) (τ1 1 2).toNat = B at e2 xa'
  have md := M_pd4 w2 (τ2 1 2).toNat FU 0 (by have := w2.1.2.2.2.2.1.2.1; omega) (FU_gt (by have := w2.1.2.2.2.2.1.2.1; omega))
  have t21 : τ2 1 2 = τ1 1 2 := by rw [f2.1 1 (by decide) (by decide)]
  have pe : sm (pOf τ2 s 2 (-1) Y) (τ2 1 2).toNat = sm (pOf τ1 s 2 (-1) Y) (τ1 1 2).toNat := by
    rw [t21]
    exact sm_congr _ (fun i _ _ => pOf_c f2.T s 2 (-1) Y i)
  have pb := sm_bd (f := pOf τ1 s 2 (-1) Y) (fun i => pOf_01 τ1 s 2 (-1) Y i) (τ1 1 2).toNat
  refine ⟨σ4, τ2, τ2, A - B, sm (pOf τ1 s 2 (-1) Y) (τ1 1 2).toNat, fun K5 acc v2 => ?_, fun v3 => ?_, ?_, hI4.l f2, HR_k (eH.of f2.T) hh1 hr4, HOK_c f2.T.symm hh1, by omega, by rw [k4 7 (by decide) (by decide)]; exact s7 7 (by omega), f2.T.trans o1.T, by rw [f2.2 7 (by decide), o1.2 7 (by omega)]⟩
  · unfold p_X7_painedTrial_5b
    rw [q4.1, zm_eq (a := τ 0 7) (by omega) (by omega), zm_eq (a := s) (by omega) (by omega), if_neg (by omega), gd_pos (by omega), x1]
    simp only [bnd_some]
    rw [x2]
    simp only [bnd_some]
    rw [x3]
    simp only [bnd_some]
    rw [x4]
    simp only [bnd_some]
    rw [xp']
    simp only [bnd_some]
    rw [xa']
    simp only [bnd_some]
    by_cases q : zm v2 ≤ zm (A - B)
    · rw [if_pos q, if_pos q]
      have z := X_pt94 (n := n) hr4 hh1 hY kn4 ⟨n1, n3⟩ K5 v2 acc s (τ1 1 2).toNat FU 0 (by omega) (FU_gt (by omega))
      rw [show sm (pOf τ1 s 2 (-1) Y) 0 = 0 from rfl, Int.add_zero] at z
      exact z
    · rw [if_neg q, if_neg q]
  · unfold p_X8_isEven
    rw [e1]
    simp only [bnd_some]
    rw [e2]
    simp only [bnd_some]
    by_cases q : zm (A - B) < zm v3
    · rw [if_pos q, if_pos q]
    · rw [if_neg q, if_neg q]
  · unfold p_X8_pained
    rw [← pe]
    exact md
theorem set_loop {Y least : Int} (hY : 1 ≤ Y ∧ Y ≤ 30) {v4 v5 v6 : Int} (K55 : Int → Int → Int → Int → Int → St → Option (Int × St)) : ∀ (d f n s : Nat) (σ τ : St) (acc : Int), (s : Int) + d = τ 0 7 → d < f → d < n → Inv σ τ → HR σ 7 τ 2 → HOK τ 2 → (0 ≤ acc ∧ acc ≤ 10 * s) → ∃ (σ' τ' : St) (p v7 v8 : Int), p_X7_painedTrial_5 f Y least acc s σ = some (p, σ') ∧ p_X8_setting_111 K55 n Y least v4 v5 v6 1 acc s τ = p_X8_setting_152 K55 Y least v4 v5 v6 v7 v8 τ' ∧ ((p = -1 ∧ v7 = 0) ∨ (p = v8 ∧ v7 = 1 ∧ 0 ≤ v8 ∧ v8 ≤ 40)) ∧ Inv σ' τ' ∧ HR σ' 7 τ' 2 ∧ HOK τ' 2 ∧ σ' 7 = σ 7 ∧ eqT τ' τ := by
  intro d
  induction d with
  | zero =>
    intro f n s σ τ acc hk hf hn hI hr hh ha
    obtain ⟨f, rfl⟩ := Nat.exists_eq_succ_of_ne_zero (by omega : f ≠ 0)
    obtain ⟨n, rfl⟩ := Nat.exists_eq_succ_of_ne_zero (by omega : n ≠ 0)
    have q4 := hI.2.1.1
    refine ⟨σ, τ, acc, 1, acc, ?_, ?_, Or.inr ⟨rfl, rfl, by omega, by omega⟩, hI, hr, hh, rfl, fun _ _ _ _ => rfl⟩
    · show p_X7_painedTrial_5b (p_X7_painedTrial_5 f) Y least acc s σ = _
      unfold p_X7_painedTrial_5b
      rw [q4.1, zm_eq (a := τ 0 7) (by omega) (by omega), zm_eq (a := (s : Int)) (by omega) (by omega), if_pos (by omega)]
    · show p_X8_setting_111b K55 (p_X8_setting_111 K55 n) Y least v4 v5 v6 1 acc s τ = _
      unfold p_X8_setting_111b
      rw [zm_eq (a := τ 0 7) (by omega) (by omega), zm_eq (a := (s : Int)) (by omega) (by omega), if_pos (by omega)]
  | succ d ih =>
    intro f n s σ τ acc hk hf hn hI hr hh ha
    obtain ⟨f, rfl⟩ := Nat.exists_eq_succ_of_ne_zero (by omega : f ≠ 0)
    obtain ⟨n, rfl⟩ := Nat.exists_eq_succ_of_ne_zero (by omega : n ≠ 0)
    have q4 := hI.2.1.1
    obtain ⟨σ1, τ1, τ2, D, p, X, M1, M2, hI', hr', hh', pb, s7, eT, e7⟩ := set_sort (Y := Y) hI hr hh (s := (s : Int)) (by unfold cS; omega) hY
    have mm : p_X8_setting_111 K55 (n + 1) Y least v4 v5 v6 1 acc s τ = p_X8_setting_111 K55 n Y least v4 v5 v6 (if zm D < zm least then 0 else 1) (acc + p) (s + 1) τ2 := by
      show p_X8_setting_111b K55 (p_X8_setting_111 K55 n) Y least v4 v5 v6 1 acc s τ = _
      unfold p_X8_setting_111b
      rw [zm_eq (a := τ 0 7) (by omega) (by omega), zm_eq (a := (s : Int)) (by omega) (by omega), if_neg (by omega), if_neg (by decide), M1]
      simp only [bnd_some]
      rw [M2]
      simp only [bnd_some]
    have xx : p_X7_painedTrial_5 (f + 1) Y least acc s σ = if zm least ≤ zm D then p_X7_painedTrial_5 f Y least (acc + p) (s + 1) σ1 else some (-1, σ1) := X (p_X7_painedTrial_5 f) acc least
    by_cases q : zm least ≤ zm D
    · rw [if_pos q] at xx
      rw [if_neg (by omega)] at mm
      obtain ⟨σ', τ', p', v7, v8, y1, y2, y3, y4, y5, y6, y7, y8⟩ := ih f n (s + 1) σ1 τ2 (acc + p) (by omega) (by omega) (by omega) hI' hr' hh' (by omega)
      exact ⟨σ', τ', p', v7, v8, xx.trans y1, mm.trans y2, y3, y4, y5, y6, y7.trans s7, y8.trans eT⟩
    · rw [if_neg q] at xx
      rw [if_pos (by omega)] at mm
      refine ⟨σ1, τ2, -1, 0, acc + p, xx, mm.trans ?_, Or.inl ⟨rfl, rfl⟩, hI', hr', hh', s7, eT⟩
      cases n with
      | zero => omega
      | succ n =>
        show p_X8_setting_111b K55 (p_X8_setting_111 K55 n) Y least v4 v5 v6 0 (acc + p) (s + 1) τ2 = _
        unfold p_X8_setting_111b
        rw [if_pos (show zm 0 = 0 by decide)]
        by_cases c : zm (τ2 0 7) ≤ zm ((s : Int) + 1)
        · rw [if_pos c]
        · rw [if_neg c]
