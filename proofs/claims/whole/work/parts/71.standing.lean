/-! standing, odds, even -/
theorem X_rk23 {o : Int} {t : St} {s h ru Y : Int} (hY : 1 ≤ Y ∧ Y ≤ 30) : ∀ (d f r : Nat) (σ : St), (r : Int) + d = t 1 h → d < f → PC σ o t s h ru → (ru < 0 → ∃ n, Y ≤ n ∧ n ≤ 30 ∧ KN σ o t s h ru n 0) → (∀ r : Int, 0 ≤ r → r < 10 → σ (o + 1) r = 0) → (∀ r' : Int, 0 ≤ r' → r' < r → (∀ k, 0 ≤ k → k ≤ 3 → σ 12 (4 * r' + k) = Od t s h ru Y r' k) ∧ σ 13 r' = Bo t s h ru Y r') → ∃ σ', p_X1_reckon_23 f 9 o Y r σ = some (0, σ') ∧ lrO o σ σ' ∧ (∀ r' : Int, 0 ≤ r' → r' < t 1 h → (∀ k, 0 ≤ k → k ≤ 3 → σ' 12 (4 * r' + k) = Od t s h ru Y r' k) ∧ σ' 13 r' = Bo t s h ru Y r') ∧ (∀ j : Int, t 1 h ≤ j → σ' 13 j = σ 13 j) := by
  intro d
  induction d with
  | zero =>
    intro f r σ hr hf hc hk hz hv
    obtain ⟨f, rfl⟩ := Nat.exists_eq_succ_of_ne_zero (by omega : f ≠ 0)
    have h10 := hc.2.2.2.2.1.2.1
    refine ⟨σ, ?_, lrO.rf, fun r' r0 r1 => hv r' r0 (by omega), fun _ _ => rfl⟩
    show p_X1_reckon_23b (p_X1_reckon_23 f) 9 o Y r σ = _
    unfold p_X1_reckon_23b
    rw [gd_pos hc.2.2.1.1, hc.2.2.1.2.1, zm_eq (a := t 1 h) (by omega) (by omega), zm_eq (a := (r : Int)) (by omega) (by omega), if_pos (by omega)]
  | succ d ih =>
    intro f r σ hr hf hc hk hz hv
    obtain ⟨f, rfl⟩ := Nat.exists_eq_succ_of_ne_zero (by omega : f ≠ 0)
    have h10 := hc.2.2.2.2.1.2.1
    obtain ⟨σ1, e1, f1, _, o1, o2, b1, b2⟩ := X_reckonRung hc hY (r := (r : Int)) (by omega) hk hz
    obtain ⟨σ', e', f', v', j'⟩ := ih f (r + 1) σ1 (by omega) (by omega) (hc.lr f1) (fun q => by
      obtain ⟨n, n1, n2, kn⟩ := hk q
      exact ⟨n, n1, n2, KN_s f1.2.2.1 f1.2.2.2 kn⟩) (fun r r0 r1 => by rw [f1.2.2.1]; exact hz r r0 r1) (fun r' r0 r1 => by
      by_cases e : r' = r
      · rw [e]
        exact ⟨o1, b1⟩
      · have q := hv r' r0 (by omega)
        exact ⟨fun k k0 k3 => by rw [o2 _ (by omega)]; exact q.1 k k0 k3, by rw [b2 _ e]; exact q.2⟩)
    refine ⟨σ', ?_, f1.tr f', v', fun j hj => by rw [j' j hj, b2 j (by omega)]⟩
    refine Eq.trans ?_ e'
    show p_X1_reckon_23b (p_X1_reckon_23 f) 9 o Y r σ = _
    unfold p_X1_reckon_23b
    rw [gd_pos hc.2.2.1.1, hc.2.2.1.2.1, zm_eq (a := t 1 h) (by omega) (by omega), zm_eq (a := (r : Int)) (by omega) (by omega), if_neg (by omega), e1]
    simp only [bnd_some]
    rfl
theorem X_rk2 {o Y : Int} : ∀ (d f r : Nat) (σ : St), r + d = 10 → d < f → ∃ σ', p_X1_reckon_2 f 9 o Y r σ = p_X1_reckon_23 FU 9 o Y 0 σ' ∧ (∀ q : Int, q ≠ 13 → σ' q = σ q) ∧ (∀ j : Int, j < r → σ' 13 j = σ 13 j) ∧ ∀ j : Int, r ≤ j → j < 10 → σ' 13 j = 0 := by
  intro d
  induction d with
  | zero =>
    intro f r σ hk hf
    obtain ⟨f, rfl⟩ := Nat.exists_eq_succ_of_ne_zero (by omega : f ≠ 0)
    refine ⟨σ, ?_, fun _ _ => rfl, fun _ _ => rfl, fun j q1 q2 => by omega⟩
    show p_X1_reckon_2b (p_X1_reckon_2 f) 9 o Y r σ = _
    unfold p_X1_reckon_2b
    rw [zm_eq (a := (r : Int)) (by omega) (by omega), if_pos (by omega)]
  | succ d ih =>
    intro f r σ hk hf
    obtain ⟨f, rfl⟩ := Nat.exists_eq_succ_of_ne_zero (by omega : f ≠ 0)
    obtain ⟨σ1, e1, a1, b1, c1⟩ := su_ex σ 13 r 0
    obtain ⟨σ', e', a', b', c'⟩ := ih f (r + 1) σ1 (by omega) (by omega)
    refine ⟨σ', ?_, fun q hq => by rw [a' q hq, a1 q hq], fun j hj => by rw [b' j (by omega), c1 j (by omega)], fun j q1 q2 => ?_⟩
    · refine Eq.trans ?_ e'
      show p_X1_reckon_2b (p_X1_reckon_2 f) 9 o Y r σ = _
      unfold p_X1_reckon_2b
      simp only [c94]
      rw [zm_eq (a := (r : Int)) (by omega) (by omega), if_neg (by omega), gd_pos (by omega), nx_eq, e1]
      rfl
    · by_cases e : j = r
      · subst e
        rw [b' _ (by omega), b1]
      · rw [c' j (by omega) q2]
theorem X_reckon {σ : St} {o : Int} {t : St} {s h ru Y : Int} (hY : 1 ≤ Y ∧ Y ≤ 30) (hc : PC σ o t s h ru) (hk : ru < 0 → ∃ n, Y ≤ n ∧ n ≤ 30 ∧ KN σ o t s h ru n 0) (hz : ∀ r : Int, 0 ≤ r → r < 10 → σ (o + 1) r = 0) : ∃ σ', p_X1_reckon 9 o Y σ = some (0, σ') ∧ lrO o σ σ' ∧ (∀ r k : Int, 0 ≤ r → r < t 1 h → 0 ≤ k → k ≤ 3 → σ' 12 (4 * r + k) = Od t s h ru Y r k) ∧ (∀ r : Int, 0 ≤ r → r < t 1 h → σ' 13 r = Bo t s h ru Y r) ∧ (∀ r : Int, t 1 h ≤ r → r < 10 → σ' 13 r = 0) := by
  have h10 := hc.2.2.2.2.1.2.1
  have k3 := kx3 hc.1
  obtain ⟨σ1, e1, a1, _, c1⟩ := X_rk2 (o := o) (Y := Y) 10 FU 0 σ (by omega) (FU_gt (by omega))
  have f1 : lrO o σ σ1 := ⟨fun q h1 h2 => a1 q (by omega), fun j _ _ => by rw [a1 o (by omega)], a1 _ (by omega), a1 _ (by omega)⟩
  obtain ⟨σ2, e2, f2, v2, j2⟩ := X_rk23 hY (t 1 h).toNat FU 0 σ1 (by omega) (FU_gt (by omega)) (hc.lr f1) (fun q => by
      obtain ⟨n, n1, n2, kn⟩ := hk q
      exact ⟨n, n1, n2, KN_s f1.2.2.1 f1.2.2.2 kn⟩) (fun r r0 r1 => by rw [f1.2.2.1]; exact hz r r0 r1) (fun r' r0 r1 => by omega)
  refine ⟨σ2, ?_, f1.tr f2, fun r k r0 r1 k0 k3 => (v2 r r0 r1).1 k k0 k3, fun r r0 r1 => (v2 r r0 r1).2, fun r r0 r1 => by rw [j2 r r0, c1 r (by omega) r1]⟩
  unfold p_X1_reckon
  have z0 : ((0 : Nat) : Int) = 0 := rfl
  rw [z0] at e1 e2
  rw [e1, e2]
abbrev paF (t : St) (h : Int) (P : Int → Int) : Int → Int := fun r => (zl (zm (P r) * zm (t 2 (10 * h + r)))).tdiv 1000
abbrev afF (P B : Int → Int) : Int → Int := fun r => (zl (zm (P r) * zm (B r))).tdiv 1000000
theorem X_paid {σ t : St} {oh h : Int} {P : Int → Int} (hr : HR σ oh t h) (hh : HOK t h) (hP : ∀ r, 0 ≤ r → r < t 1 h → σ 10 r = P r) : ∀ (d f r : Nat), (r : Int) + d = t 1 h → d < f → p_X1_paid_4 f 9 oh (sm (paF t h P) r) r σ = some (sm (paF t h P) (t 1 h).toNat, σ) := by
  have h10 := hh.2.1
  intro d
  induction d with
  | zero =>
    intro f r hk hf
    obtain ⟨f, rfl⟩ := Nat.exists_eq_succ_of_ne_zero (by omega : f ≠ 0)
    have er : r = (t 1 h).toNat := by omega
    subst er
    show p_X1_paid_4b (p_X1_paid_4 f) 9 oh _ _ σ = _
    unfold p_X1_paid_4b
    rw [hr.2.1, zm_eq (a := t 1 h) (by omega) (by omega), zm_eq (a := ((t 1 h).toNat : Int)) (by omega) (by omega), if_pos (by omega)]
  | succ d ih =>
    intro f r hk hf
    obtain ⟨f, rfl⟩ := Nat.exists_eq_succ_of_ne_zero (by omega : f ≠ 0)
    refine Eq.trans ?_ (ih f (r + 1) (by omega) (by omega))
    show p_X1_paid_4b (p_X1_paid_4 f) 9 oh _ _ σ = p_X1_paid_4 f 9 oh (sm (paF t h P) r + paF t h P r) _ σ
    generalize sm (paF t h P) r = A
    unfold p_X1_paid_4b
    simp only [c91]
    rw [hr.2.1, zm_eq (a := t 1 h) (by omega) (by omega), zm_eq (a := (r : Int)) (by omega) (by omega), if_neg (by omega), gd_pos (by omega), hP r (by omega) (by omega), hr.2.2.2.2.2.2.2 r (by omega) (by omega), nz_eq]
    rfl
theorem X_askedFor {σ t : St} {h : Int} {P B : Int → Int} (h10 : 1 ≤ t 1 h ∧ t 1 h ≤ 10) (hP : ∀ r, 0 ≤ r → r < t 1 h → σ 10 r = P r) (hB : ∀ r, 0 ≤ r → r < t 1 h → σ 13 r = B r) (hZ : ∀ r : Int, t 1 h ≤ r → r < 10 → σ 13 r = 0) : ∀ (d f r : Nat), r + d = 10 → d < f → p_X1_askedFor_4 f 9 (if (r : Int) ≤ t 1 h then sm (afF P B) r else sm (afF P B) (t 1 h).toNat) r σ = some (sm (afF P B) (t 1 h).toNat, σ) := by
  intro d
  induction d with
  | zero =>
    intro f r hk hf
    obtain ⟨f, rfl⟩ := Nat.exists_eq_succ_of_ne_zero (by omega : f ≠ 0)
    have e : (if (r : Int) ≤ t 1 h then sm (afF P B) r else sm (afF P B) (t 1 h).toNat) = sm (afF P B) (t 1 h).toNat := by
      by_cases q : (r : Int) ≤ t 1 h
      · rw [if_pos q, show r = (t 1 h).toNat by omega]
      · rw [if_neg q]
    rw [e]
    show p_X1_askedFor_4b (p_X1_askedFor_4 f) 9 _ _ σ = _
    unfold p_X1_askedFor_4b
    rw [zm_eq (a := (r : Int)) (by omega) (by omega), if_pos (by omega)]
  | succ d ih =>
    intro f r hk hf
    obtain ⟨f, rfl⟩ := Nat.exists_eq_succ_of_ne_zero (by omega : f ≠ 0)
    refine Eq.trans ?_ (ih f (r + 1) (by omega) (by omega))
    have e : (if ((r + 1 : Nat) : Int) ≤ t 1 h then sm (afF P B) (r + 1) else sm (afF P B) (t 1 h).toNat) = (if (r : Int) ≤ t 1 h then sm (afF P B) r else sm (afF P B) (t 1 h).toNat) + (zl (zm (σ 10 r) * zm (σ 13 r))).tdiv 1000000 := by
      by_cases q : (r : Int) < t 1 h
      · rw [if_pos (by omega), if_pos (by omega), hP r (by omega) q, hB r (by omega) q]
        rfl
      · rw [if_neg (by omega), hZ r (by omega) (by omega), zm0, Int.mul_zero, show (zl 0).tdiv 1000000 = 0 from by decide, Int.add_zero]
        by_cases q2 : (r : Int) ≤ t 1 h
        · rw [if_pos q2, show r = (t 1 h).toNat by omega]
        · rw [if_neg q2]
    rw [e]
    generalize (if (r : Int) ≤ t 1 h then sm (afF P B) r else sm (afF P B) (t 1 h).toNat) = A
    show p_X1_askedFor_4b (p_X1_askedFor_4 f) 9 _ _ σ = _
    unfold p_X1_askedFor_4b
    simp only [c91, c94]
    rw [zm_eq (a := (r : Int)) (by omega) (by omega), if_neg (by omega), gd_pos (by omega), nz_eq]
    rfl
theorem Bo_bd {t : St} {s h ru Y r : Int} (hs : SOK t s) (hh : HOK t h) : 0 ≤ Bo t s h ru Y r ∧ Bo t s h ru Y r ≤ 12000000 := by
  have hp : pOf t s h ru Y r = 0 ∨ (pOf t s h ru Y r = 1 ∧ 0 ≤ t 11 s) := by
    unfold pOf
    by_cases q : pnd t s h ru (cst t s h ru (Y - 1).toNat) r
    · rw [if_pos q]
      exact Or.inr ⟨rfl, q.2.1⟩
    · rw [if_neg q]
      exact Or.inl rfl
  unfold Bo
  have q := yb_bd (ca := caY t s h ru (pOf t s h ru Y r) r (cst t s h ru (Y - 1).toNat)) (hb := hbY t s h ru (pOf t s h ru Y r) r (cst t s h ru (Y - 1).toNat)) 12 (fun m k _ _ _ _ => caY_bd hs hp m k) (fun m k _ _ _ _ => hbY_bd hs hh hp m k)
  exact ⟨q.1, q.2⟩
theorem M_ea13 {τ0 : St} {s h ru Y v2 : Int} (w : WK τ0 s h ru Y) (hv : 0 ≤ v2 ∧ v2 ≤ 2) {P : Int → Int} : ∀ (d n r : Nat) (τ : St), (r : Int) + d = τ0 1 h → d < n → lf τ0 τ → (∀ q, 0 ≤ q → q < τ0 1 h → τ 23 q = P q) → ∃ τ', p_X8_evenAt_13 n v2 (sm (paF τ0 h P) r) (sm (afF P (Bo τ0 s h ru Y)) r) r τ = some ((if v2 = 0 then sm (paF τ0 h P) (τ0 1 h).toNat else if v2 = 1 then sm (afF P (Bo τ0 s h ru Y)) (τ0 1 h).toNat else sm (paF τ0 h P) (τ0 1 h).toNat - sm (afF P (Bo τ0 s h ru Y)) (τ0 1 h).toNat), τ') ∧ lf τ0 τ' := by
  have hc := w.1
  have hs := hc.2.2.2.1
  have hh := hc.2.2.2.2.1
  have h10 := hh.2.1
  have h3 := hh.1
  intro d
  induction d with
  | zero =>
    intro n r τ hk hn f hP
    obtain ⟨n, rfl⟩ := Nat.exists_eq_succ_of_ne_zero (by omega : n ≠ 0)
    have er : r = (τ0 1 h).toNat := by omega
    subst er
    refine ⟨τ, ?_, f⟩
    show p_X8_evenAt_13b (p_X8_evenAt_13 n) v2 _ _ _ τ = _
    unfold p_X8_evenAt_13b p_X8_evenAt_115
    rw [f.2 29 (by decide), hc.2.1, f.1 1 (by decide) (by decide), zm_eq (a := h) (by omega) (by omega), gd_pos (by omega), zm_eq (a := τ0 1 h) (by omega) (by omega), zm_eq (a := ((τ0 1 h).toNat : Int)) (by omega) (by omega), if_pos (by omega), zm_eq (a := v2) (by omega) (by omega)]
    by_cases q : v2 = 0
    · rw [if_pos q, if_pos q]
    · rw [if_neg q, if_neg q]
      by_cases q1 : v2 = 1
      · rw [if_pos q1, if_pos q1]
      · rw [if_neg q1, if_neg q1]
  | succ d ih =>
    intro n r τ hk hn f hP
    obtain ⟨n, rfl⟩ := Nat.exists_eq_succ_of_ne_zero (by omega : n ≠ 0)
    have t1 : τ 1 h = τ0 1 h := by rw [f.1 1 (by decide) (by decide)]
    obtain ⟨τ1, e1, f1, _, b1⟩ := M_liveYear (f.WK w) (r := (r : Int)) (by omega)
    have f2 := f.tr f1.l
    have p2 : ∀ q, 0 ≤ q → q < τ0 1 h → τ1 23 q = P q := fun q q0 q1 => by rw [f1.1 23 (by decide) (by decide) (by decide)]; exact hP q q0 q1
    obtain ⟨τ', e', r'⟩ := ih n (r + 1) τ1 (by omega) (by omega) f2 p2
    refine ⟨τ', ?_, r'⟩
    refine Eq.trans ?_ e'
    show p_X8_evenAt_13b (p_X8_evenAt_13 n) v2 _ _ _ τ = p_X8_evenAt_13 n v2 (sm (paF τ0 h P) r + paF τ0 h P r) (sm (afF P (Bo τ0 s h ru Y)) r + afF P (Bo τ0 s h ru Y) r) _ τ1
    generalize sm (paF τ0 h P) r = A
    generalize sm (afF P (Bo τ0 s h ru Y)) r = B
    have bb := Bo_bd (ru := ru) (Y := Y) (r := (r : Int)) hs hh
    rw [Bo_c f.T] at b1
    have ea : afF P (Bo τ0 s h ru Y) r = (zl (zm (P r) * Bo τ0 s h ru Y r)).tdiv 1000000 := by
      show (zl (zm (P r) * zm (Bo τ0 s h ru Y r))).tdiv 1000000 = _
      rw [zm_eq (a := Bo τ0 s h ru Y r) (by omega) (by omega)]
    unfold p_X8_evenAt_13b
    rw [f.2 29 (by decide), hc.2.1, f.1 1 (by decide) (by decide), zm_eq (a := h) (by omega) (by omega), gd_pos (by omega), zm_eq (a := τ0 1 h) (by omega) (by omega), zm_eq (a := (r : Int)) (by omega) (by omega), if_neg (by omega), e1]
    simp only [bnd_some]
    have zz : zm (10 * τ1 0 29 + (r : Int)) = 10 * h + r := by
      rw [f2.2 29 (by decide), hc.2.1]
      exact zm_eq (by omega) (by omega)
    rw [gd_pos (by omega), gd_pos (by rw [zz]; omega), zz, p2 r (by omega) (by omega), b1, f2.1 2 (by decide) (by decide), nz_eq, nz_eq, ea]
    rfl
theorem M_evenAt {τ : St} {s h ru Y v v2 : Int} (w : WK τ s h ru Y) (hv : 0 ≤ v ∧ v ≤ 30) (hv2 : 0 ≤ v2 ∧ v2 ≤ 2) : ∃ τ', p_X8_evenAt v v2 τ = some ((if v2 = 0 then sm (paF τ h (Pp τ h (Od τ s h ru Y) v.toNat)) (τ 1 h).toNat else if v2 = 1 then sm (afF (Pp τ h (Od τ s h ru Y) v.toNat) (Bo τ s h ru Y)) (τ 1 h).toNat else sm (paF τ h (Pp τ h (Od τ s h ru Y) v.toNat)) (τ 1 h).toNat - sm (afF (Pp τ h (Od τ s h ru Y) v.toNat) (Bo τ s h ru Y)) (τ 1 h).toNat), τ') ∧ lf τ τ' := by
  have h10 := w.1.2.2.2.2.1.2.1
  obtain ⟨τ1, e1, f1, p1⟩ := M_stand w hv
  obtain ⟨τ2, e2, f2⟩ := M_ea13 w hv2 (τ 1 h).toNat FU 0 τ1 (by omega) (FU_gt (by omega)) f1 p1
  refine ⟨τ2, ?_, f2⟩
  unfold p_X8_evenAt
  rw [e1]
  simp only [bnd_some]
  exact e2
theorem Inv.l {σ τ τ' : St} (hI : Inv σ τ) (f : lf τ τ') : Inv σ τ' := by
  obtain ⟨i1, i2, i3, i4, i5⟩ := hI
  have e : eW τ τ' := eW.of f.T (f.2 7 (by decide)) (f.2 23 (by decide))
  exact ⟨i1.fr rfl rfl rfl (f.2 15 (by decide)) (f.2 14 (by decide)) (f.1 13 (by decide) (by decide)), i2.fr rfl rfl (fun _ _ _ => rfl) (fun _ _ _ => rfl) e, IP.fr i2 i3 (fun _ _ _ => rfl) rfl e, IC.fr i2 i4 (fun j h1 h2 => f.2 j (by omega)) (f.1 16 (by decide) (by decide)) (f.1 17 (by decide) (by decide)) e, i5.fr (fun _ _ _ => rfl) (fun _ _ _ => rfl) ⟨f.2 33 (by decide), f.2 42 (by decide), f.2 47 (by decide)⟩ (fun k hk => f.1 k (by omega) (by omega))⟩
def oOK (o : Int) : Prop := o = 107 ∨ ∃ s h : Int, (0 ≤ s ∧ s < 4) ∧ (0 ≤ h ∧ h < 2) ∧ o = pO s h
theorem Inv.lr {σ σ' τ : St} {o : Int} (hI : Inv σ τ) (ho : oOK o) (f : lrO o σ σ') : Inv σ' τ := by
  rcases ho with rfl | ⟨s, h, hs, hh, rfl⟩
  · refine hI.x (fun k hk => f.1 k (by omega) (by omega)) ⟨fun s h a1 a2 a3 a4 => ?_, fun r r0 r1 => ?_⟩
    · have q : IP1 σ τ s h := hI.2.2.1.1 s h a1 a2 a3 a4
      exact q.fr (fun j _ _ => by rw [f.1 (pO s h) (by unfold pO; omega) (by unfold pO; omega)]) (f.1 _ (by unfold pO; omega) (by unfold pO; omega)) (f.1 _ (by unfold pO; omega) (by unfold pO; omega))
    · have := f.2.2.1
      have e : σ' 108 = σ 108 := this
      rw [e]
      exact hI.2.2.1.2 r r0 r1
  · refine hI.x (fun k hk => f.1 k (by omega) (by unfold pO; omega)) ⟨fun s' h' a1 a2 a3 a4 => ?_, fun r r0 r1 => ?_⟩
    · have q : IP1 σ τ s' h' := hI.2.2.1.1 s' h' a1 a2 a3 a4
      by_cases e : s' = s ∧ h' = h
      · obtain ⟨rfl, rfl⟩ := e
        exact q.fr f.2.1 f.2.2.1 f.2.2.2
      · exact q.fr (fun j _ _ => by rw [f.1 (pO s' h') (by unfold pO; omega) (by unfold pO; omega)]) (f.1 _ (by unfold pO; omega) (by unfold pO; omega)) (f.1 _ (by unfold pO; omega) (by unfold pO; omega))
    · rw [f.1 108 (by omega) (by unfold pO; omega)]
      exact hI.2.2.1.2 r r0 r1
abbrev cB (τ : St) (v : Int) : Prop := v = -1 ∨ cU τ v
theorem X_isWay {σ τ : St} {v : Int} (hw : IW σ τ) (hv : i32 v) : p_X7_isWay v σ = some (if cB τ v then 1 else 0, σ) := by
  unfold p_X7_isWay p_X7_isWay_13
  rw [zm_i hv]
  by_cases c : v = -1
  · rw [if_pos c, if_pos (Or.inl c)]
  · rw [if_neg c, X_isRule hw hv]
    by_cases d : cU τ v
    · rw [if_pos d, if_pos (Or.inr d)]
      simp only [bnd_some, zm1n, if_false]
    · rw [if_neg d, if_neg (fun q => q.elim c d)]
      simp only [bnd_some, zm0t, if_true]
theorem M_isBy {σ τ : St} {v : Int} (hw : IW σ τ) (hv : i32 v) : p_X8_isBy v τ = some (if cB τ v then 1 else 0, τ) := by
  unfold p_X8_isBy p_X8_isBy_13
  rw [zm_i hv]
  by_cases c : v = -1
  · rw [if_pos c, if_pos (Or.inl c)]
  · rw [if_neg c, M_isRule hw hv]
    by_cases d : cU τ v
    · rw [if_pos d, if_pos (Or.inr d)]
      simp only [bnd_some, zm1n, if_false]
    · rw [if_neg d, if_neg (fun q => q.elim c d)]
      simp only [bnd_some, zm0t, if_true]
theorem X_wayOf {σ τ : St} {s h ru Y : Int} (hI : Inv σ τ) (cs : cS τ s) (ch : cH τ h) (cu : ru = -1 ∨ cU τ ru) (hY : 1 ≤ Y ∧ Y ≤ 30) : ∃ o σ', p_X7_wayOf s h ru Y σ = some (o, σ') ∧ oOK o ∧ Inv σ' τ ∧ PC σ' o τ s h ru ∧ (ru < 0 → ∃ n, Y ≤ n ∧ n ≤ 30 ∧ KN σ' o τ s h ru n 0) ∧ (∀ r : Int, 0 ≤ r → r < 10 → σ' (o + 1) r = 0) := by
  have q4 := hI.2.1.1
  have q5 := hI.2.1.2.1
  rcases cu with rfl | cu
  · obtain ⟨σ', x, fr, hI2, hc, n, n1, n2, kn⟩ := X_planOf hI cs ch (Y := Y) (by omega)
    refine ⟨pO s h, σ', ?_, Or.inr ⟨s, h, by omega, ch.1, rfl⟩, hI2, hc, fun _ => ⟨n, n1, n2, kn⟩, ?_⟩
    · unfold p_X7_wayOf
      rw [zm_eq (a := -1) (by decide) (by decide), if_pos rfl, x]
      simp only [bnd_some]
      rw [gd_pos hc.1]
    · have q : IP1 σ' τ s h := hI2.2.2.1.1 s h cs.1 (by omega) ch.1.1 ch.1.2
      exact q.2.2.2.2.2.2
  · obtain ⟨hsr, hs⟩ := hI.2.1.2.2.1 s cs.1 cs.2
    obtain ⟨hhr, hh⟩ := hI.2.1.hr ch
    obtain ⟨hrr, hr⟩ := hI.2.1.2.2.2.2 ru cu.1 cu.2
    obtain ⟨σ1, x1, f1, hc, z5, _, kn⟩ := X_trial (n3 := 115 + 6 * ru) (ru := ru) hsr hs hhr hh (Or.inr ⟨hrr, hr⟩) hI.2.2.1.2
    have e8 : σ1 108 = σ 108 := f1 108 (by decide)
    refine ⟨107, σ1, ?_, Or.inl rfl, hI.tr (fun k hk => f1 k (by omega)) (fun r _ _ => by rw [e8]), hc, fun q => by omega, fun r r0 r1 => ?_⟩
    · unfold p_X7_wayOf
      rw [zm_eq (a := ru) (by omega) (by omega), if_neg (by omega), zm_eq (a := s) (by omega) (by omega), zm_eq (a := h) (by omega) (by omega), gd_pos (by omega), gd_pos (by omega), gd_pos (by omega), x1]
      simp only [bnd_some]
    · show σ1 108 r = 0
      rw [e8]
      exact hI.2.2.1.2 r r0 r1
theorem ok_odds {a1 a2 a3 a4 a5 a6 : Int} (h1 : i32 a1) (h2 : i32 a2) (h3 : i32 a3) (h4 : i32 a4) (h5 : i32 a5) (h6 : i32 a6) : StepOK Inv (p_X7_odds a1 a2 a3 a4 a5 a6) (p_X8_odds a1 a2 a3 a4 a5 a6) := fun σ τ hI => by
  have hw := hI.2.1
  by_cases c1 : cS τ a1
  rotate_left
  · refine st_eq (a := -1000000001) ?_ ?_ hI
    · unfold p_X7_odds
      rw [X_isSort hw h1, if_neg c1]
      simp only [bnd_some, zm0t, zm1n, if_true, if_false]
    · unfold p_X8_odds
      rw [M_isSort hw h1, if_neg c1]
      simp only [bnd_some, zm0t, zm1n, if_true, if_false]
  by_cases c2 : cG τ a2 a5
  rotate_left
  · refine st_eq (a := -1000000001) ?_ ?_ hI
    · unfold p_X7_odds
      rw [X_isSort hw h1, if_pos c1]
      simp only [bnd_some, zm0t, zm1n, if_true, if_false]
      rw [X_isRung hw h2 h5, if_neg c2]
      simp only [bnd_some, zm0t, zm1n, if_true, if_false]
    · unfold p_X8_odds
      rw [M_isSort hw h1, if_pos c1]
      simp only [bnd_some, zm0t, zm1n, if_true, if_false]
      rw [M_isRung hw h2 h5, if_neg c2]
      simp only [bnd_some, zm0t, zm1n, if_true, if_false]
  by_cases c3 : cB τ a3
  rotate_left
  · refine st_eq (a := -1000000001) ?_ ?_ hI
    · unfold p_X7_odds
      rw [X_isSort hw h1, if_pos c1]
      simp only [bnd_some, zm0t, zm1n, if_true, if_false]
      rw [X_isRung hw h2 h5, if_pos c2]
      simp only [bnd_some, zm0t, zm1n, if_true, if_false]
      rw [X_isWay hw h3, if_neg c3]
      simp only [bnd_some, zm0t, zm1n, if_true, if_false]
    · unfold p_X8_odds
      rw [M_isSort hw h1, if_pos c1]
      simp only [bnd_some, zm0t, zm1n, if_true, if_false]
      rw [M_isRung hw h2 h5, if_pos c2]
      simp only [bnd_some, zm0t, zm1n, if_true, if_false]
      rw [M_isBy hw h3, if_neg c3]
      simp only [bnd_some, zm0t, zm1n, if_true, if_false]
  by_cases c4 : 1 ≤ a4 ∧ a4 ≤ 30
  rotate_left
  · refine st_eq (a := -1000000002) ?_ ?_ hI
    · unfold p_X7_odds
      rw [X_isSort hw h1, if_pos c1]
      simp only [bnd_some, zm0t, zm1n, if_true, if_false]
      rw [X_isRung hw h2 h5, if_pos c2]
      simp only [bnd_some, zm0t, zm1n, if_true, if_false]
      rw [X_isWay hw h3, if_pos c3]
      simp only [bnd_some, zm0t, zm1n, if_true, if_false]
      rw [X_isOut h4 ⟨by decide, by decide⟩ ⟨by decide, by decide⟩, if_neg c4]
      simp only [bnd_some, zm0t, zm1n, if_true, if_false]
    · unfold p_X8_odds
      rw [M_isSort hw h1, if_pos c1]
      simp only [bnd_some, zm0t, zm1n, if_true, if_false]
      rw [M_isRung hw h2 h5, if_pos c2]
      simp only [bnd_some, zm0t, zm1n, if_true, if_false]
      rw [M_isBy hw h3, if_pos c3]
      simp only [bnd_some, zm0t, zm1n, if_true, if_false]
      rw [M_isTime h4, if_neg c4]
      simp only [bnd_some, zm0t, zm1n, if_true, if_false]
  by_cases c5 : 0 ≤ a6 ∧ a6 ≤ 3
  rotate_left
  · refine st_eq (a := -1000000002) ?_ ?_ hI
    · unfold p_X7_odds
      rw [X_isSort hw h1, if_pos c1]
      simp only [bnd_some, zm0t, zm1n, if_true, if_false]
      rw [X_isRung hw h2 h5, if_pos c2]
      simp only [bnd_some, zm0t, zm1n, if_true, if_false]
      rw [X_isWay hw h3, if_pos c3]
      simp only [bnd_some, zm0t, zm1n, if_true, if_false]
      rw [X_isOut h4 ⟨by decide, by decide⟩ ⟨by decide, by decide⟩, if_pos c4]
      simp only [bnd_some, zm0t, zm1n, if_true, if_false]
      rw [X_isOut h6 ⟨by decide, by decide⟩ ⟨by decide, by decide⟩, if_neg c5]
      simp only [bnd_some, zm0t, zm1n, if_true, if_false]
    · unfold p_X8_odds
      rw [M_isSort hw h1, if_pos c1]
      simp only [bnd_some, zm0t, zm1n, if_true, if_false]
      rw [M_isRung hw h2 h5, if_pos c2]
      simp only [bnd_some, zm0t, zm1n, if_true, if_false]
      rw [M_isBy hw h3, if_pos c3]
      simp only [bnd_some, zm0t, zm1n, if_true, if_false]
      rw [M_isTime h4, if_pos c4]
      simp only [bnd_some, zm0t, zm1n, if_true, if_false]
      rw [M_wi h6 ⟨by decide, by decide⟩ ⟨by decide, by decide⟩, if_neg c5]
      simp only [bnd_some, zm0t, zm1n, if_true, if_false]
  obtain ⟨τ', e, o, w, hI', cs, ch, cu⟩ := M_wk hI c1 c2.1 c3 c4
  obtain ⟨ob, σ1, x1, ho, hI1, hc, hk, hz⟩ := X_wayOf hI' cs ch cu c4
  have t1 : τ' 1 a2 = τ 1 a2 := by rw [o.1 1 (by decide) (by decide) (by decide)]
  have g1 := c2.1.1
  have h10 := hw.rg g1.1 g1.2
  have g2 := c2.2
  obtain ⟨τ2, e2, f2, v2, _⟩ := M_liveYear w (r := a5) (by omega)
  obtain ⟨σ2, x2, k2, _, o2, _, _, _⟩ := X_reckonRung hc c4 (r := a5) (by omega) hk hz
  have hI2 := (hI1.lr ho k2).l f2.l
  refine st_eq (a := Od τ' a1 a2 a3 a4 a5 a6) ?_ ?_ hI2
  · unfold p_X7_odds
    rw [X_isSort hw h1, if_pos c1]
    simp only [bnd_some, zm0t, zm1n, if_true, if_false]
    rw [X_isRung hw h2 h5, if_pos c2]
    simp only [bnd_some, zm0t, zm1n, if_true, if_false]
    rw [X_isWay hw h3, if_pos c3]
    simp only [bnd_some, zm0t, zm1n, if_true, if_false]
    rw [X_isOut h4 ⟨by decide, by decide⟩ ⟨by decide, by decide⟩, if_pos c4]
    simp only [bnd_some, zm0t, zm1n, if_true, if_false]
    rw [X_isOut h6 ⟨by decide, by decide⟩ ⟨by decide, by decide⟩, if_pos c5]
    simp only [bnd_some, zm0t, zm1n, if_true, if_false]
    rw [x1]
    simp only [bnd_some]
    rw [gd_pos hc.1, x2]
    simp only [bnd_some]
    unfold p_X1_oddsOf
    rw [zm_eq (a := a5 * 4 + a6) (by omega) (by omega), gd_pos (by omega), c93, show a5 * 4 + a6 = 4 * a5 + a6 by omega, o2 a6 c5.1 c5.2]
    simp only [bnd_some]
  · unfold p_X8_odds
    rw [M_isSort hw h1, if_pos c1]
    simp only [bnd_some, zm0t, zm1n, if_true, if_false]
    rw [M_isRung hw h2 h5, if_pos c2]
    simp only [bnd_some, zm0t, zm1n, if_true, if_false]
    rw [M_isBy hw h3, if_pos c3]
    simp only [bnd_some, zm0t, zm1n, if_true, if_false]
    rw [M_isTime h4, if_pos c4]
    simp only [bnd_some, zm0t, zm1n, if_true, if_false]
    rw [M_wi h6 ⟨by decide, by decide⟩ ⟨by decide, by decide⟩, if_pos c5]
    simp only [bnd_some, zm0t, zm1n, if_true, if_false]
    rw [e]
    simp only [bnd_some]
    rw [e2]
    simp only [bnd_some]
    rw [zm_i h6, gd_pos (by omega), v2 a6 c5.1 c5.2]
theorem ok_standing {a1 a2 a3 a4 a5 a6 : Int} (h1 : i32 a1) (h2 : i32 a2) (h3 : i32 a3) (h4 : i32 a4) (h5 : i32 a5) (h6 : i32 a6) : StepOK Inv (p_X7_standing a1 a2 a3 a4 a5 a6) (p_X8_standing a1 a2 a3 a4 a5 a6) := fun σ τ hI => by
  have hw := hI.2.1
  by_cases c1 : cS τ a1
  rotate_left
  · refine st_eq (a := -1000000001) ?_ ?_ hI
    · unfold p_X7_standing
      rw [X_isSort hw h1, if_neg c1]
      simp only [bnd_some, zm0t, zm1n, if_true, if_false]
    · unfold p_X8_standing
      rw [M_isSort hw h1, if_neg c1]
      simp only [bnd_some, zm0t, zm1n, if_true, if_false]
  by_cases c2 : cG τ a2 a6
  rotate_left
  · refine st_eq (a := -1000000001) ?_ ?_ hI
    · unfold p_X7_standing
      rw [X_isSort hw h1, if_pos c1]
      simp only [bnd_some, zm0t, zm1n, if_true, if_false]
      rw [X_isRung hw h2 h6, if_neg c2]
      simp only [bnd_some, zm0t, zm1n, if_true, if_false]
    · unfold p_X8_standing
      rw [M_isSort hw h1, if_pos c1]
      simp only [bnd_some, zm0t, zm1n, if_true, if_false]
      rw [M_isRung hw h2 h6, if_neg c2]
      simp only [bnd_some, zm0t, zm1n, if_true, if_false]
  by_cases c3 : cB τ a3
  rotate_left
  · refine st_eq (a := -1000000001) ?_ ?_ hI
    · unfold p_X7_standing
      rw [X_isSort hw h1, if_pos c1]
      simp only [bnd_some, zm0t, zm1n, if_true, if_false]
      rw [X_isRung hw h2 h6, if_pos c2]
      simp only [bnd_some, zm0t, zm1n, if_true, if_false]
      rw [X_isWay hw h3, if_neg c3]
      simp only [bnd_some, zm0t, zm1n, if_true, if_false]
    · unfold p_X8_standing
      rw [M_isSort hw h1, if_pos c1]
      simp only [bnd_some, zm0t, zm1n, if_true, if_false]
      rw [M_isRung hw h2 h6, if_pos c2]
      simp only [bnd_some, zm0t, zm1n, if_true, if_false]
      rw [M_isBy hw h3, if_neg c3]
      simp only [bnd_some, zm0t, zm1n, if_true, if_false]
  by_cases c4 : 1 ≤ a4 ∧ a4 ≤ 30
  rotate_left
  · refine st_eq (a := -1000000002) ?_ ?_ hI
    · unfold p_X7_standing
      rw [X_isSort hw h1, if_pos c1]
      simp only [bnd_some, zm0t, zm1n, if_true, if_false]
      rw [X_isRung hw h2 h6, if_pos c2]
      simp only [bnd_some, zm0t, zm1n, if_true, if_false]
      rw [X_isWay hw h3, if_pos c3]
      simp only [bnd_some, zm0t, zm1n, if_true, if_false]
      rw [X_isOut h4 ⟨by decide, by decide⟩ ⟨by decide, by decide⟩, if_neg c4]
      simp only [bnd_some, zm0t, zm1n, if_true, if_false]
    · unfold p_X8_standing
      rw [M_isSort hw h1, if_pos c1]
      simp only [bnd_some, zm0t, zm1n, if_true, if_false]
      rw [M_isRung hw h2 h6, if_pos c2]
      simp only [bnd_some, zm0t, zm1n, if_true, if_false]
      rw [M_isBy hw h3, if_pos c3]
      simp only [bnd_some, zm0t, zm1n, if_true, if_false]
      rw [M_isTime h4, if_neg c4]
      simp only [bnd_some, zm0t, zm1n, if_true, if_false]
  by_cases c5 : 0 ≤ a5 ∧ a5 ≤ 30
  rotate_left
  · refine st_eq (a := -1000000002) ?_ ?_ hI
    · unfold p_X7_standing
      rw [X_isSort hw h1, if_pos c1]
      simp only [bnd_some, zm0t, zm1n, if_true, if_false]
      rw [X_isRung hw h2 h6, if_pos c2]
      simp only [bnd_some, zm0t, zm1n, if_true, if_false]
      rw [X_isWay hw h3, if_pos c3]
      simp only [bnd_some, zm0t, zm1n, if_true, if_false]
      rw [X_isOut h4 ⟨by decide, by decide⟩ ⟨by decide, by decide⟩, if_pos c4]
      simp only [bnd_some, zm0t, zm1n, if_true, if_false]
      rw [X_isOut h5 ⟨by decide, by decide⟩ ⟨by decide, by decide⟩, if_neg c5]
      simp only [bnd_some, zm0t, zm1n, if_true, if_false]
    · unfold p_X8_standing
      rw [M_isSort hw h1, if_pos c1]
      simp only [bnd_some, zm0t, zm1n, if_true, if_false]
      rw [M_isRung hw h2 h6, if_pos c2]
      simp only [bnd_some, zm0t, zm1n, if_true, if_false]
      rw [M_isBy hw h3, if_pos c3]
      simp only [bnd_some, zm0t, zm1n, if_true, if_false]
      rw [M_isTime h4, if_pos c4]
      simp only [bnd_some, zm0t, zm1n, if_true, if_false]
      rw [M_wi h5 ⟨by decide, by decide⟩ ⟨by decide, by decide⟩, if_neg c5]
      simp only [bnd_some, zm0t, zm1n, if_true, if_false]
  obtain ⟨τ', e, o, w, hI', cs, ch, cu⟩ := M_wk hI c1 c2.1 c3 c4
  obtain ⟨ob, σ1, x1, ho, hI1, hc, hk, hz⟩ := X_wayOf hI' cs ch cu c4
  have t1 : τ' 1 a2 = τ 1 a2 := by rw [o.1 1 (by decide) (by decide) (by decide)]
  have g1 := c2.1.1
  have h10 := hw.rg g1.1 g1.2
  have g2 := c2.2
  obtain ⟨τ2, e2, f2, v2⟩ := M_stand w c5
  obtain ⟨σ2, x2, k2, o2, _, _⟩ := X_reckon c4 hc hk hz
  have hh := hc.2.2.2.2.1
  have hI2 := hI1.lr ho k2
  obtain ⟨hhr, _⟩ := hI2.2.1.hr ch
  obtain ⟨σ3, x3, k3, p3⟩ := X_goTo (v := a5) hh c5 hhr o2
  have kx := kx3 hc.1
  have hI3 := (hI2.lr ho ⟨fun q q1 q2 => k3 q (by omega) (by omega), fun j _ _ => by rw [k3 ob (by omega) (by omega)], k3 _ (by omega) (by omega), k3 _ (by omega) (by omega)⟩).l f2
  refine st_eq (a := Pp τ' a2 (Od τ' a1 a2 a3 a4) a5.toNat a6) ?_ ?_ hI3
  · unfold p_X7_standing
    rw [X_isSort hw h1, if_pos c1]
    simp only [bnd_some, zm0t, zm1n, if_true, if_false]
    rw [X_isRung hw h2 h6, if_pos c2]
    simp only [bnd_some, zm0t, zm1n, if_true, if_false]
    rw [X_isWay hw h3, if_pos c3]
    simp only [bnd_some, zm0t, zm1n, if_true, if_false]
    rw [X_isOut h4 ⟨by decide, by decide⟩ ⟨by decide, by decide⟩, if_pos c4]
    simp only [bnd_some, zm0t, zm1n, if_true, if_false]
    rw [X_isOut h5 ⟨by decide, by decide⟩ ⟨by decide, by decide⟩, if_pos c5]
    simp only [bnd_some, zm0t, zm1n, if_true, if_false]
    rw [x1]
    simp only [bnd_some]
    rw [gd_pos hc.1, x2]
    simp only [bnd_some]
    rw [zm_i h2, gd_pos (by omega), x3]
    simp only [bnd_some]
    rw [zm_i h6, gd_pos (by omega), c91, p3 a6 (by omega) (by omega)]
  · unfold p_X8_standing
    rw [M_isSort hw h1, if_pos c1]
    simp only [bnd_some, zm0t, zm1n, if_true, if_false]
    rw [M_isRung hw h2 h6, if_pos c2]
    simp only [bnd_some, zm0t, zm1n, if_true, if_false]
    rw [M_isBy hw h3, if_pos c3]
    simp only [bnd_some, zm0t, zm1n, if_true, if_false]
    rw [M_isTime h4, if_pos c4]
    simp only [bnd_some, zm0t, zm1n, if_true, if_false]
    rw [M_wi h5 ⟨by decide, by decide⟩ ⟨by decide, by decide⟩, if_pos c5]
    simp only [bnd_some, zm0t, zm1n, if_true, if_false]
    rw [e]
    simp only [bnd_some]
    rw [e2]
    simp only [bnd_some]
    rw [zm_i h6, gd_pos (by omega), v2 a6 (by omega) (by omega)]
theorem ok_even {a1 a2 a3 a4 a5 a6 : Int} (h1 : i32 a1) (h2 : i32 a2) (h3 : i32 a3) (h4 : i32 a4) (h5 : i32 a5) (h6 : i32 a6) : StepOK Inv (p_X7_even a1 a2 a3 a4 a5 a6) (p_X8_even a1 a2 a3 a4 a5 a6) := fun σ τ hI => by
  have hw := hI.2.1
  by_cases c1 : cS τ a1
  rotate_left
  · refine st_eq (a := -1000000001) ?_ ?_ hI
    · unfold p_X7_even
      rw [X_isSort hw h1, if_neg c1]
      simp only [bnd_some, zm0t, zm1n, if_true, if_false]
    · unfold p_X8_even
      rw [M_isSort hw h1, if_neg c1]
      simp only [bnd_some, zm0t, zm1n, if_true, if_false]
  by_cases c2 : cH τ a2
  rotate_left
  · refine st_eq (a := -1000000001) ?_ ?_ hI
    · unfold p_X7_even
      rw [X_isSort hw h1, if_pos c1]
      simp only [bnd_some, zm0t, zm1n, if_true, if_false]
      rw [X_isHouse hw h2, if_neg c2]
      simp only [bnd_some, zm0t, zm1n, if_true, if_false]
    · unfold p_X8_even
      rw [M_isSort hw h1, if_pos c1]
      simp only [bnd_some, zm0t, zm1n, if_true, if_false]
      rw [M_isHouse hw h2, if_neg c2]
      simp only [bnd_some, zm0t, zm1n, if_true, if_false]
  by_cases c3 : cB τ a3
  rotate_left
  · refine st_eq (a := -1000000001) ?_ ?_ hI
    · unfold p_X7_even
      rw [X_isSort hw h1, if_pos c1]
      simp only [bnd_some, zm0t, zm1n, if_true, if_false]
      rw [X_isHouse hw h2, if_pos c2]
      simp only [bnd_some, zm0t, zm1n, if_true, if_false]
      rw [X_isWay hw h3, if_neg c3]
      simp only [bnd_some, zm0t, zm1n, if_true, if_false]
    · unfold p_X8_even
      rw [M_isSort hw h1, if_pos c1]
      simp only [bnd_some, zm0t, zm1n, if_true, if_false]
      rw [M_isHouse hw h2, if_pos c2]
      simp only [bnd_some, zm0t, zm1n, if_true, if_false]
      rw [M_isBy hw h3, if_neg c3]
      simp only [bnd_some, zm0t, zm1n, if_true, if_false]
  by_cases c4 : 1 ≤ a4 ∧ a4 ≤ 30
  rotate_left
  · refine st_eq (a := -1000000002) ?_ ?_ hI
    · unfold p_X7_even
      rw [X_isSort hw h1, if_pos c1]
      simp only [bnd_some, zm0t, zm1n, if_true, if_false]
      rw [X_isHouse hw h2, if_pos c2]
      simp only [bnd_some, zm0t, zm1n, if_true, if_false]
      rw [X_isWay hw h3, if_pos c3]
      simp only [bnd_some, zm0t, zm1n, if_true, if_false]
      rw [X_isOut h4 ⟨by decide, by decide⟩ ⟨by decide, by decide⟩, if_neg c4]
      simp only [bnd_some, zm0t, zm1n, if_true, if_false]
    · unfold p_X8_even
      rw [M_isSort hw h1, if_pos c1]
      simp only [bnd_some, zm0t, zm1n, if_true, if_false]
      rw [M_isHouse hw h2, if_pos c2]
      simp only [bnd_some, zm0t, zm1n, if_true, if_false]
      rw [M_isBy hw h3, if_pos c3]
      simp only [bnd_some, zm0t, zm1n, if_true, if_false]
      rw [M_isTime h4, if_neg c4]
      simp only [bnd_some, zm0t, zm1n, if_true, if_false]
  by_cases c5 : 0 ≤ a5 ∧ a5 ≤ 30
  rotate_left
  · refine st_eq (a := -1000000002) ?_ ?_ hI
    · unfold p_X7_even
      rw [X_isSort hw h1, if_pos c1]
      simp only [bnd_some, zm0t, zm1n, if_true, if_false]
      rw [X_isHouse hw h2, if_pos c2]
      simp only [bnd_some, zm0t, zm1n, if_true, if_false]
      rw [X_isWay hw h3, if_pos c3]
      simp only [bnd_some, zm0t, zm1n, if_true, if_false]
      rw [X_isOut h4 ⟨by decide, by decide⟩ ⟨by decide, by decide⟩, if_pos c4]
      simp only [bnd_some, zm0t, zm1n, if_true, if_false]
      rw [X_isOut h5 ⟨by decide, by decide⟩ ⟨by decide, by decide⟩, if_neg c5]
      simp only [bnd_some, zm0t, zm1n, if_true, if_false]
    · unfold p_X8_even
      rw [M_isSort hw h1, if_pos c1]
      simp only [bnd_some, zm0t, zm1n, if_true, if_false]
      rw [M_isHouse hw h2, if_pos c2]
      simp only [bnd_some, zm0t, zm1n, if_true, if_false]
      rw [M_isBy hw h3, if_pos c3]
      simp only [bnd_some, zm0t, zm1n, if_true, if_false]
      rw [M_isTime h4, if_pos c4]
      simp only [bnd_some, zm0t, zm1n, if_true, if_false]
      rw [M_wi h5 ⟨by decide, by decide⟩ ⟨by decide, by decide⟩, if_neg c5]
      simp only [bnd_some, zm0t, zm1n, if_true, if_false]
  by_cases c6 : 0 ≤ a6 ∧ a6 ≤ 2
  rotate_left
  · refine st_eq (a := -1000000002) ?_ ?_ hI
    · unfold p_X7_even
      rw [X_isSort hw h1, if_pos c1]
      simp only [bnd_some, zm0t, zm1n, if_true, if_false]
      rw [X_isHouse hw h2, if_pos c2]
      simp only [bnd_some, zm0t, zm1n, if_true, if_false]
      rw [X_isWay hw h3, if_pos c3]
      simp only [bnd_some, zm0t, zm1n, if_true, if_false]
      rw [X_isOut h4 ⟨by decide, by decide⟩ ⟨by decide, by decide⟩, if_pos c4]
      simp only [bnd_some, zm0t, zm1n, if_true, if_false]
      rw [X_isOut h5 ⟨by decide, by decide⟩ ⟨by decide, by decide⟩, if_pos c5]
      simp only [bnd_some, zm0t, zm1n, if_true, if_false]
      rw [X_isOut h6 ⟨by decide, by decide⟩ ⟨by decide, by decide⟩, if_neg c6]
      simp only [bnd_some, zm0t, zm1n, if_true, if_false]
    · unfold p_X8_even
      rw [M_isSort hw h1, if_pos c1]
      simp only [bnd_some, zm0t, zm1n, if_true, if_false]
      rw [M_isHouse hw h2, if_pos c2]
      simp only [bnd_some, zm0t, zm1n, if_true, if_false]
      rw [M_isBy hw h3, if_pos c3]
      simp only [bnd_some, zm0t, zm1n, if_true, if_false]
      rw [M_isTime h4, if_pos c4]
      simp only [bnd_some, zm0t, zm1n, if_true, if_false]
      rw [M_wi h5 ⟨by decide, by decide⟩ ⟨by decide, by decide⟩, if_pos c5]
      simp only [bnd_some, zm0t, zm1n, if_true, if_false]
      rw [M_wi h6 ⟨by decide, by decide⟩ ⟨by decide, by decide⟩, if_neg c6]
      simp only [bnd_some, zm0t, zm1n, if_true, if_false]
  obtain ⟨τ', e, o, w, hI', cs, ch, cu⟩ := M_wk hI c1 c2 c3 c4
  obtain ⟨ob, σ1, x1, ho, hI1, hc, hk, hz⟩ := X_wayOf hI' cs ch cu c4
  have t1 : τ' 1 a2 = τ 1 a2 := by rw [o.1 1 (by decide) (by decide) (by decide)]
  have g1 := c2.1
  have h10 := hw.rg g1.1 g1.2
  obtain ⟨τ2, e2, f2⟩ := M_evenAt (v := a5) (v2 := a6) w c5 c6
  obtain ⟨σ2, x2, k2, o2, b2, z2⟩ := X_reckon c4 hc hk hz
  have hh := hc.2.2.2.2.1
  have hI2 := hI1.lr ho k2
  obtain ⟨hhr, _⟩ := hI2.2.1.hr ch
  obtain ⟨σ3, x3, k3, p3⟩ := X_goTo (v := a5) hh c5 hhr o2
  have kx := kx3 hc.1
  have hI3 := (hI2.lr ho ⟨fun q q1 q2 => k3 q (by omega) (by omega), fun j _ _ => by rw [k3 ob (by omega) (by omega)], k3 _ (by omega) (by omega), k3 _ (by omega) (by omega)⟩).l f2
  have hhr3 : HR σ3 (23 + 2 * a2) τ' a2 := hhr.to (k3 _ (by omega) (by omega)) (k3 _ (by omega) (by omega))
  have xp := X_paid hhr3 hh p3 (τ' 1 a2).toNat FU 0 (by omega) (FU_gt (by omega))
  have xa := X_askedFor (B := Bo τ' a1 a2 a3 a4) hh.2.1 p3 (fun r r0 r1 => by rw [k3 13 (by decide) (by decide)]; exact b2 r r0 r1) (fun r r0 r1 => by rw [k3 13 (by decide) (by decide)]; exact z2 r r0 r1) 10 FU 0 (by omega) (FU_gt (by omega))
  generalize Pp τ' a2 (Od τ' a1 a2 a3 a4) a5.toNat = P at e2 xp xa
  have xp' : p_X1_paid 9 (23 + 2 * a2) σ3 = some (sm (paF τ' a2 P) (τ' 1 a2).toNat, σ3) := by
    unfold p_X1_paid
    exact xp
  have xa' : p_X1_askedFor 9 σ3 = some (sm (afF P (Bo τ' a1 a2 a3 a4)) (τ' 1 a2).toNat, σ3) := by
    rw [if_pos (by omega)] at xa
    unfold p_X1_askedFor
    exact xa
  generalize sm (paF τ' a2 P) (τ' 1 a2).toNat = A at e2 xp'
  generalize sm (afF P (Bo τ' a1 a2 a3 a4)) (τ' 1 a2).toNat = B at e2 xa'
  refine st_eq (a := if a6 = 0 then A else if a6 = 1 then B else A - B) ?_ ?_ hI3
  · unfold p_X7_even
    rw [X_isSort hw h1, if_pos c1]
    simp only [bnd_some, zm0t, zm1n, if_true, if_false]
    rw [X_isHouse hw h2, if_pos c2]
    simp only [bnd_some, zm0t, zm1n, if_true, if_false]
    rw [X_isWay hw h3, if_pos c3]
    simp only [bnd_some, zm0t, zm1n, if_true, if_false]
    rw [X_isOut h4 ⟨by decide, by decide⟩ ⟨by decide, by decide⟩, if_pos c4]
    simp only [bnd_some, zm0t, zm1n, if_true, if_false]
    rw [X_isOut h5 ⟨by decide, by decide⟩ ⟨by decide, by decide⟩, if_pos c5]
    simp only [bnd_some, zm0t, zm1n, if_true, if_false]
    rw [X_isOut h6 ⟨by decide, by decide⟩ ⟨by decide, by decide⟩, if_pos c6]
    simp only [bnd_some, zm0t, zm1n, if_true, if_false]
    rw [x1]
    simp only [bnd_some]
    rw [gd_pos hc.1, x2]
    simp only [bnd_some]
    rw [zm_i h2, gd_pos (by omega), x3]
    simp only [bnd_some]
    rw [xp']
    simp only [bnd_some]
    rw [xa']
    simp only [bnd_some]
    rw [zm_i h6]
    by_cases q : a6 = 0
    · rw [if_pos q, if_pos q]
    · rw [if_neg q, if_neg q]
      by_cases q1 : a6 = 1
      · rw [if_pos q1, if_pos q1]
      · rw [if_neg q1, if_neg q1]
  · unfold p_X8_even
    rw [M_isSort hw h1, if_pos c1]
    simp only [bnd_some, zm0t, zm1n, if_true, if_false]
    rw [M_isHouse hw h2, if_pos c2]
    simp only [bnd_some, zm0t, zm1n, if_true, if_false]
    rw [M_isBy hw h3, if_pos c3]
    simp only [bnd_some, zm0t, zm1n, if_true, if_false]
    rw [M_isTime h4, if_pos c4]
    simp only [bnd_some, zm0t, zm1n, if_true, if_false]
    rw [M_wi h5 ⟨by decide, by decide⟩ ⟨by decide, by decide⟩, if_pos c5]
    simp only [bnd_some, zm0t, zm1n, if_true, if_false]
    rw [M_wi h6 ⟨by decide, by decide⟩ ⟨by decide, by decide⟩, if_pos c6]
    simp only [bnd_some, zm0t, zm1n, if_true, if_false]
    rw [e]
    simp only [bnd_some]
    rw [e2]
    simp only [bnd_some]
