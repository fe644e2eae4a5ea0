/-! what the house thinks: the program -/
theorem X_ws44 {τ : St} {h Y c R : Int} (ch : cH τ h) (hY : 1 ≤ Y ∧ Y ≤ 30) (hc : τ 0 7 = c ∧ 0 ≤ c ∧ c ≤ 4) (hR : τ 0 42 = R ∧ 0 ≤ R ∧ R ≤ 8) (hD : ∀ i, 0 ≤ i → i < R → (0 ≤ τ 25 i ∧ τ 25 i < τ 1 h) ∧ 0 ≤ τ 26 i ∧ τ 26 i ≤ 3) {w : Int → Int} {i : Nat} (hi : (i : Int) < R) (hw : ∀ s : Int, 0 ≤ s → s < c → 0 ≤ w s ∧ w s ≤ 100000) (K27 : Int → Int → Int → St → Option (Int × St)) : ∀ (d f s : Nat) (σ : St), (s : Int) + d = c → d < f → Inv σ τ → (∀ s' : Int, 0 ≤ s' → s' < c → σ 15 s' = (if s' < s then uS (oT τ h Y) w i s' else w s')) → ∃ σ', p_X7_weighSorts_44 K27 f h Y i (mxS (uS (oT τ h Y) w i) s) s σ = p_X7_weighSorts_146 K27 FU h Y i (mxS (uS (oT τ h Y) w i) c.toNat) 0 σ' ∧ Inv σ' τ ∧ (∀ s' : Int, 0 ≤ s' → s' < c → σ' 15 s' = uS (oT τ h Y) w i s') := by
  obtain ⟨D1, D2⟩ := hD i (by omega) hi
  intro d
  induction d with
  | zero =>
    intro f s σ hs hf hI v
    obtain ⟨f, rfl⟩ := Nat.exists_eq_succ_of_ne_zero (by omega : f ≠ 0)
    have q4 := hI.2.1.1
    have es : s = c.toNat := by omega
    subst es
    refine ⟨σ, ?_, hI, fun s' a b => by rw [v s' a b, if_pos (by omega)]⟩
    show p_X7_weighSorts_44b K27 (p_X7_weighSorts_44 K27 f) h Y i _ _ σ = _
    unfold p_X7_weighSorts_44b
    rw [q4.1, hc.1, zm_eq (a := c) (by omega) (by omega), zm_eq (a := (c.toNat : Int)) (by omega) (by omega), if_pos (by omega)]
  | succ d ih =>
    intro f s σ hs hf hI v
    obtain ⟨f, rfl⟩ := Nat.exists_eq_succ_of_ne_zero (by omega : f ≠ 0)
    have q4 := hI.2.1.1
    have cs : cS τ s := by unfold cS; omega
    obtain ⟨σ1, x1, f1, hI1, hp1, n, n1, n2, kn⟩ := X_planOf hI cs ch (Y := Y) (by omega)
    have m1 := hI1.2.2.2.2.1.2.2.2.2.1 i (by omega) (by omega)
    have z1 : ∀ r : Int, 0 ≤ r → r < 10 → σ1 (pO s h + 1) r = 0 := by
      have q : IP1 σ1 τ s h := hI1.2.2.1.1 s h cs.1 (by omega) ch.1.1 ch.1.2
      exact q.2.2.2.2.2.2
    obtain ⟨σ2, x2, f2, _, o2, _, _, _⟩ := X_reckonRung hp1 hY (r := τ 25 i) D1 (fun _ => ⟨n, n1, n2, kn⟩) z1
    have oo : oOK (pO s h) := Or.inr ⟨s, h, by omega, ch.1, rfl⟩
    have hI2 := hI1.lr oo f2
    have m2 := hI2.2.2.2.2.1.2.2.2.2.1 i (by omega) (by omega)
    have k15 : σ2 15 = σ 15 := by rw [f2.1 15 (by omega) (by unfold pO; omega), f1 15 (by unfold pO; omega)]
    have hs1 := hp1.2.2.2.1
    have ob : 0 ≤ oT τ h Y s i ∧ oT τ h Y s i ≤ 1000000 := Od_bd hs1 D2
    have h10 := hp1.2.2.2.2.1.2.1
    have us := uS_bd (o := oT τ h Y) (w := w) (i := i) (s := s) (hw s (by omega) (by omega)) ob
    have mb := (mxS_bd (u := uS (oT τ h Y) w i) s (fun s' a b => uS_bd (hw s' a (by omega)) (Od_bd (hI.2.1.2.2.1 s' a (by omega)).2 D2))).1
    obtain ⟨σ3, e3, a3, b3, c3⟩ := su_ex σ2 15 s (uS (oT τ h Y) w i s)
    have hI3 : Inv σ3 τ := hI2.tr (fun k hk => a3 k (by omega)) (fun r _ _ => by rw [a3 108 (by decide)])
    obtain ⟨σ', e', r'⟩ := ih f (s + 1) σ3 (by omega) (by omega) hI3 (fun s' a b => by
      by_cases e : s' = s
      · rw [e, b3, if_pos (by omega)]
      · rw [c3 s' e, k15, v s' a b]
        by_cases q : s' < s
        · rw [if_pos q, if_pos (by omega)]
        · rw [if_neg q, if_neg (by omega)])
    refine ⟨σ', ?_, r'⟩
    refine Eq.trans ?_ e'
    show p_X7_weighSorts_44b K27 (p_X7_weighSorts_44 K27 f) h Y i (mxS (uS (oT τ h Y) w i) s) s σ = p_X7_weighSorts_44 K27 f h Y i (if mxS (uS (oT τ h Y) w i) s < uS (oT τ h Y) w i s then uS (oT τ h Y) w i s else mxS (uS (oT τ h Y) w i) s) _ σ3
    generalize mxS (uS (oT τ h Y) w i) s = V at mb ⊢
    unfold p_X7_weighSorts_44b
    rw [q4.1, hc.1, zm_eq (a := c) (by omega) (by omega), zm_eq (a := (s : Int)) (by omega) (by omega), if_neg (by omega), x1]
    simp only [bnd_some]
    rw [gd_pos hp1.1, zm_eq (a := (i : Int)) (by omega) (by omega), gd_pos (by omega), m1.1, x2]
    simp only [bnd_some]
    rw [gd_pos (by omega), m2.1, m2.2.1]
    unfold p_X1_oddsOf
    rw [zm_eq (a := τ 25 i * 4 + τ 26 i) (by omega) (by omega), gd_pos (by omega), c93, show τ 25 i * 4 + τ 26 i = 4 * τ 25 i + τ 26 i by omega, o2 _ D2.1 D2.2]
    simp only [bnd_some]
    rw [k15, v s (by omega) (by omega), if_neg (by omega), show (zl (w s * zm (Od τ s h (-1) Y (τ 25 i) (τ 26 i)))).tdiv 1000000 = uS (oT τ h Y) w i s from rfl, nx_eq, e3, b3, nz_eq, zl_eq (a := V) (by omega) (by omega), zl_eq (a := uS (oT τ h Y) w i s) (by omega) (by omega)]
    by_cases q : V < uS (oT τ h Y) w i s
    · rw [if_pos q, if_neg (by omega)]
      rfl
    · rw [if_neg q]
      by_cases q2 : uS (oT τ h Y) w i s < V
      · rw [if_pos q2]
        rfl
      · rw [if_neg q2, show uS (oT τ h Y) w i s = V by omega]
        rfl
theorem X_ws146 {τ : St} {h Y c g : Int} {u : Int → Int} {i : Int} (hc : τ 0 7 = c ∧ 0 ≤ c ∧ c ≤ 4) (hg : 0 ≤ g ∧ g ≤ 100000) (K27 : Int → Int → Int → St → Option (Int × St)) : ∀ (d f s : Nat) (σ : St), (s : Int) + d = c → d < f → Inv σ τ → (∀ s' : Int, 0 ≤ s' → s' < c → σ 15 s' = (if s' < s then wN u g s' else u s')) → ∃ σ', p_X7_weighSorts_146 K27 f h Y i g s σ = K27 h Y (i + 1) σ' ∧ Inv σ' τ ∧ (∀ s' : Int, 0 ≤ s' → s' < c → σ' 15 s' = wN u g s') := by
  have zz := zcmp_gt g 0
  rw [zl_eq (a := g) (by omega) (by omega), zl_eq (a := 0) (by decide) (by decide)] at zz
  intro d
  induction d with
  | zero =>
    intro f s σ hs hf hI v
    obtain ⟨f, rfl⟩ := Nat.exists_eq_succ_of_ne_zero (by omega : f ≠ 0)
    have q4 := hI.2.1.1
    refine ⟨σ, ?_, hI, fun s' a b => by rw [v s' a b, if_pos (by omega)]⟩
    show p_X7_weighSorts_146b K27 (p_X7_weighSorts_146 K27 f) h Y i g s σ = _
    unfold p_X7_weighSorts_146b p_X7_weighSorts_189
    rw [q4.1, hc.1, zm_eq (a := c) (by omega) (by omega), zm_eq (a := (s : Int)) (by omega) (by omega), if_pos (by omega)]
  | succ d ih =>
    intro f s σ hs hf hI v
    obtain ⟨f, rfl⟩ := Nat.exists_eq_succ_of_ne_zero (by omega : f ≠ 0)
    have q4 := hI.2.1.1
    by_cases q : 0 < g
    · obtain ⟨σ1, e1, a1, b1, c1⟩ := su_ex σ 15 s (wN u g s)
      have hI1 : Inv σ1 τ := hI.tr (fun k hk => a1 k (by omega)) (fun r _ _ => by rw [a1 108 (by decide)])
      obtain ⟨σ', e', r'⟩ := ih f (s + 1) σ1 (by omega) (by omega) hI1 (fun s' a b => by
        by_cases e : s' = s
        · rw [e, b1, if_pos (by omega)]
        · rw [c1 s' e, v s' a b]
          by_cases q : s' < s
          · rw [if_pos q, if_pos (by omega)]
          · rw [if_neg q, if_neg (by omega)])
      refine ⟨σ', ?_, r'⟩
      refine Eq.trans ?_ e'
      show p_X7_weighSorts_146b K27 (p_X7_weighSorts_146 K27 f) h Y i g s σ = _
      have ew : wN u g s = (zl (u s * 100000)).tdiv (zl g) := by
        unfold wN
        rw [if_neg (by omega)]
      unfold p_X7_weighSorts_146b
      rw [q4.1, hc.1, zm_eq (a := c) (by omega) (by omega), zm_eq (a := (s : Int)) (by omega) (by omega), if_neg (by omega), if_neg (by have := zz.2 q; omega), gd_pos (by omega), gd_pos (by rw [zl_eq (a := g) (by omega) (by omega)]; omega), v s (by omega) (by omega), if_neg (by omega), ← ew, nx_eq, e1]
      rfl
    · have ew : ∀ s', wN u g s' = u s' := fun s' => by
        unfold wN
        rw [if_pos (by omega)]
      refine ⟨σ, ?_, hI, fun s' a b => by
        rw [v s' a b, ew]
        by_cases z : s' < s
        · rw [if_pos z]
        · rw [if_neg z]⟩
      show p_X7_weighSorts_146b K27 (p_X7_weighSorts_146 K27 f) h Y i g s σ = _
      unfold p_X7_weighSorts_146b p_X7_weighSorts_189
      rw [q4.1, hc.1, zm_eq (a := c) (by omega) (by omega), zm_eq (a := (s : Int)) (by omega) (by omega), if_neg (by omega), if_pos (by
        by_cases z : 0 < zm (zcmp g 0)
        · exact absurd (zz.1 z) q
        · omega)]
theorem X_ws27 {τ : St} {h Y c R : Int} (ch : cH τ h) (hY : 1 ≤ Y ∧ Y ≤ 30) (hc : τ 0 7 = c ∧ 0 ≤ c ∧ c ≤ 4) (hR : τ 0 42 = R ∧ 0 ≤ R ∧ R ≤ 8) (hD : ∀ i, 0 ≤ i → i < R → (0 ≤ τ 25 i ∧ τ 25 i < τ 1 h) ∧ 0 ≤ τ 26 i ∧ τ 26 i ≤ 3) : ∀ (d f i : Nat) (σ : St), (i : Int) + d = R → d < f → Inv σ τ → (∀ s' : Int, 0 ≤ s' → s' < c → σ 15 s' = wt (oT τ h Y) c.toNat i s') → ∃ σ', p_X7_weighSorts_27 f h Y i σ = some (0, σ') ∧ Inv σ' τ ∧ (∀ s' : Int, 0 ≤ s' → s' < c → σ' 15 s' = wt (oT τ h Y) c.toNat R.toNat s') := by
  intro d
  induction d with
  | zero =>
    intro f i σ hi hf hI v
    obtain ⟨f, rfl⟩ := Nat.exists_eq_succ_of_ne_zero (by omega : f ≠ 0)
    have m6 := hI.2.2.2.2.1.2.2.2.1
    have ei : i = R.toNat := by omega
    subst ei
    refine ⟨σ, ?_, hI, v⟩
    show p_X7_weighSorts_27b (p_X7_weighSorts_27 f) h Y _ σ = _
    unfold p_X7_weighSorts_27b
    rw [m6.1, hR.1, zm_eq (a := R) (by omega) (by omega), zm_eq (a := (R.toNat : Int)) (by omega) (by omega), if_pos (by omega)]
  | succ d ih =>
    intro f i σ hi hf hI v
    obtain ⟨f, rfl⟩ := Nat.exists_eq_succ_of_ne_zero (by omega : f ≠ 0)
    have m6 := hI.2.2.2.2.1.2.2.2.1
    have ob : ∀ s i : Int, 0 ≤ s → s < c → 0 ≤ i → i < R → 0 ≤ oT τ h Y s i ∧ oT τ h Y s i ≤ 1000000 := fun s i a b c' d' => Od_bd (hI.2.1.2.2.1 s a (by omega)).2 (hD i c' d').2
    have wb := wt_bd (o := oT τ h Y) (c := c.toNat) i (fun s i' a b c' d' => ob s i' a (by omega) c' (by omega))
    have hw : ∀ s : Int, 0 ≤ s → s < c → 0 ≤ wt (oT τ h Y) c.toNat i s ∧ wt (oT τ h Y) c.toNat i s ≤ 100000 := fun s a b => wb s a (by omega)
    have mb := (mxS_bd (u := uS (oT τ h Y) (wt (oT τ h Y) c.toNat i) i) c.toNat (fun s' a b => uS_bd (hw s' a (by omega)) (ob s' i a (by omega) (by omega) (by omega)))).1
    obtain ⟨σ1, e1, hI1, v1⟩ := X_ws44 (Y := Y) ch hY hc hR hD (w := wt (oT τ h Y) c.toNat i) (i := i) (by omega) hw (p_X7_weighSorts_27 f) c.toNat FU 0 σ (by omega) (FU_gt (by omega)) hI (fun s' a b => by rw [if_neg (by omega)]; exact v s' a b)
    obtain ⟨σ2, e2, hI2, v2⟩ := X_ws146 (h := h) (Y := Y) (u := uS (oT τ h Y) (wt (oT τ h Y) c.toNat i) i) (g := mxS (uS (oT τ h Y) (wt (oT τ h Y) c.toNat i) i) c.toNat) (i := (i : Int)) hc mb (p_X7_weighSorts_27 f) c.toNat FU 0 σ1 (by omega) (FU_gt (by omega)) hI1 (fun s' a b => by rw [if_neg (by omega)]; exact v1 s' a b)
    obtain ⟨σ', e', r'⟩ := ih f (i + 1) σ2 (by omega) (by omega) hI2 v2
    refine ⟨σ', ?_, r'⟩
    refine Eq.trans ?_ e'
    show p_X7_weighSorts_27b (p_X7_weighSorts_27 f) h Y i σ = _
    unfold p_X7_weighSorts_27b
    rw [m6.1, hR.1, zm_eq (a := R) (by omega) (by omega), zm_eq (a := (i : Int)) (by omega) (by omega), if_neg (by omega)]
    have z0 : ((0 : Nat) : Int) = 0 := rfl
    rw [z0] at e1 e2
    have m0 : mxS (uS (oT τ h Y) (wt (oT τ h Y) c.toNat i) i) 0 = 0 := rfl
    rw [m0] at e1
    rw [e1, e2]
    rfl
theorem X_ws2 {τ : St} {h Y c : Int} (hc : τ 0 7 = c ∧ 0 ≤ c ∧ c ≤ 4) : ∀ (d f s : Nat) (σ : St), (s : Int) + d = c → d < f → Inv σ τ → (∀ s' : Int, 0 ≤ s' → s' < s → σ 15 s' = 100000) → ∃ σ', p_X7_weighSorts_2 f h Y s σ = p_X7_weighSorts_27 FU h Y 0 σ' ∧ Inv σ' τ ∧ (∀ s' : Int, 0 ≤ s' → s' < c → σ' 15 s' = 100000) := by
  intro d
  induction d with
  | zero =>
    intro f s σ hs hf hI v
    obtain ⟨f, rfl⟩ := Nat.exists_eq_succ_of_ne_zero (by omega : f ≠ 0)
    have q4 := hI.2.1.1
    refine ⟨σ, ?_, hI, fun s' a b => v s' a (by omega)⟩
    show p_X7_weighSorts_2b (p_X7_weighSorts_2 f) h Y s σ = _
    unfold p_X7_weighSorts_2b
    rw [q4.1, hc.1, zm_eq (a := c) (by omega) (by omega), zm_eq (a := (s : Int)) (by omega) (by omega), if_pos (by omega)]
  | succ d ih =>
    intro f s σ hs hf hI v
    obtain ⟨f, rfl⟩ := Nat.exists_eq_succ_of_ne_zero (by omega : f ≠ 0)
    have q4 := hI.2.1.1
    obtain ⟨σ1, e1, a1, b1, c1⟩ := su_ex σ 15 s 100000
    have hI1 : Inv σ1 τ := hI.tr (fun k hk => a1 k (by omega)) (fun r _ _ => by rw [a1 108 (by decide)])
    obtain ⟨σ', e', r'⟩ := ih f (s + 1) σ1 (by omega) (by omega) hI1 (fun s' a b => by
      by_cases e : s' = s
      · rw [e, b1]
      · rw [c1 s' e]
        exact v s' a (by omega))
    refine ⟨σ', ?_, r'⟩
    refine Eq.trans ?_ e'
    show p_X7_weighSorts_2b (p_X7_weighSorts_2 f) h Y s σ = _
    unfold p_X7_weighSorts_2b
    rw [q4.1, hc.1, zm_eq (a := c) (by omega) (by omega), zm_eq (a := (s : Int)) (by omega) (by omega), if_neg (by omega), gd_pos (by omega), nx_eq, e1]
    rfl
theorem X_weigh {σ τ : St} {h Y c R : Int} (hI : Inv σ τ) (ch : cH τ h) (hY : 1 ≤ Y ∧ Y ≤ 30) (hc : τ 0 7 = c ∧ 0 ≤ c ∧ c ≤ 4) (hR : τ 0 42 = R ∧ 0 ≤ R ∧ R ≤ 8) (hD : ∀ i, 0 ≤ i → i < R → (0 ≤ τ 25 i ∧ τ 25 i < τ 1 h) ∧ 0 ≤ τ 26 i ∧ τ 26 i ≤ 3) : ∃ σ', p_X7_weighSorts h Y σ = some (0, σ') ∧ Inv σ' τ ∧ (∀ s' : Int, 0 ≤ s' → s' < c → σ' 15 s' = wt (oT τ h Y) c.toNat R.toNat s') := by
  obtain ⟨σ1, e1, hI1, v1⟩ := X_ws2 (h := h) (Y := Y) hc c.toNat FU 0 σ (by omega) (FU_gt (by omega)) hI (fun s' a b => by omega)
  obtain ⟨σ2, e2, hI2, v2⟩ := X_ws27 (Y := Y) ch hY hc hR hD R.toNat FU 0 σ1 (by omega) (FU_gt (by omega)) hI1 v1
  refine ⟨σ2, ?_, hI2, v2⟩
  unfold p_X7_weighSorts
  have z0 : ((0 : Nat) : Int) = 0 := rfl
  rw [z0] at e1 e2
  rw [e1, e2]
theorem X_hr4 {σ : St} {D : Int → Int} {R H : Int} (h6 : σ 16 6 = R) (hR : 0 ≤ R ∧ R ≤ 8) (hD : ∀ i, 0 ≤ i → i < R → σ (16 + 4) i = D i ∧ 0 ≤ D i ∧ D i ≤ 9) : ∀ (d f i : Nat) (v : Int), (i : Int) + d = R → d < f → (-1 ≤ v ∧ v ≤ 9) → ∃ a, p_X2_highestRung_4 f 16 v i σ = some (a, σ) ∧ (-1 ≤ a ∧ a ≤ 9) ∧ (a < H ↔ (v < H ∧ ∀ j : Int, i ≤ j → j < R → D j < H)) := by
  intro d
  induction d with
  | zero =>
    intro f i v hi hf hv
    obtain ⟨f, rfl⟩ := Nat.exists_eq_succ_of_ne_zero (by omega : f ≠ 0)
    refine ⟨v, ?_, hv, ⟨fun q => ⟨q, fun j a b => by omega⟩, fun q => q.1⟩⟩
    show p_X2_highestRung_4b (p_X2_highestRung_4 f) 16 v i σ = _
    unfold p_X2_highestRung_4b
    rw [h6, zm_eq (a := R) (by omega) (by omega), zm_eq (a := (i : Int)) (by omega) (by omega), if_pos (by omega)]
  | succ d ih =>
    intro f i v hi hf hv
    obtain ⟨f, rfl⟩ := Nat.exists_eq_succ_of_ne_zero (by omega : f ≠ 0)
    obtain ⟨d1, d2⟩ := hD i (by omega) (by omega)
    obtain ⟨a, e, b, q⟩ := ih f (i + 1) (if v < D i then D i else v) (by omega) (by omega) (by split <;> omega)
    refine ⟨a, ?_, b, ?_⟩
    · refine Eq.trans ?_ e
      show p_X2_highestRung_4b (p_X2_highestRung_4 f) 16 v i σ = _
      unfold p_X2_highestRung_4b
      rw [h6, zm_eq (a := R) (by omega) (by omega), zm_eq (a := (i : Int)) (by omega) (by omega), if_neg (by omega), gd_pos (by omega), d1, zm_eq (a := v) (by omega) (by omega), zm_eq (a := D i) (by omega) (by omega), nz_eq]
      rfl
    · rw [q]
      constructor
      · rintro ⟨q1, q2⟩
        by_cases z : v < D i
        · rw [if_pos z] at q1
          refine ⟨by omega, fun j a b => ?_⟩
          by_cases e : j = i
          · rw [e]; exact q1
          · exact q2 j (by omega) b
        · rw [if_neg z] at q1
          refine ⟨by omega, fun j a b => ?_⟩
          by_cases e : j = i
          · rw [e]; omega
          · exact q2 j (by omega) b
      · rintro ⟨q1, q2⟩
        have := q2 i (by omega) (by omega)
        refine ⟨by split <;> omega, fun j a b => q2 j (by omega) b⟩
theorem M_th32 {τ : St} {s h Y R : Int} (h3 : 0 ≤ h ∧ h < 3) (h42 : τ 0 42 = R) (hR : 0 ≤ R ∧ R ≤ 8) (hH : 0 ≤ τ 1 h ∧ τ 1 h ≤ 10) (hD : ∀ i, 0 ≤ i → i < R → 0 ≤ τ 25 i ∧ τ 25 i ≤ 9) : ∀ (d n i : Nat), (i : Int) + d = R → d < n → ((∀ j : Int, i ≤ j → j < R → τ 25 j < τ 1 h) → p_X8_think_32 n s h Y i τ = Option.bind (p_X8_weigh h Y τ) fun x69 => p_X8_think_78 FU s 0 0 x69.2) ∧ (¬ (∀ j : Int, i ≤ j → j < R → τ 25 j < τ 1 h) → p_X8_think_32 n s h Y i τ = some (-1000000003, τ)) := by
  intro d
  induction d with
  | zero =>
    intro n i hi hn
    obtain ⟨n, rfl⟩ := Nat.exists_eq_succ_of_ne_zero (by omega : n ≠ 0)
    refine ⟨fun _ => ?_, fun q => absurd (fun j a b => by omega) q⟩
    show p_X8_think_32b (p_X8_think_32 n) s h Y i τ = _
    unfold p_X8_think_32b
    rw [h42, zm_eq (a := R) (by omega) (by omega), zm_eq (a := (i : Int)) (by omega) (by omega), if_pos (by omega)]
  | succ d ih =>
    intro n i hi hn
    obtain ⟨n, rfl⟩ := Nat.exists_eq_succ_of_ne_zero (by omega : n ≠ 0)
    have i1 := ih n (i + 1) (by omega) (by omega)
    have d1 := hD i (by omega) (by omega)
    have e : p_X8_think_32 (n + 1) s h Y i τ = if τ 25 i < τ 1 h then p_X8_think_32 n s h Y (i + 1) τ else some (-1000000003, τ) := by
      show p_X8_think_32b (p_X8_think_32 n) s h Y i τ = _
      unfold p_X8_think_32b
      rw [h42, zm_eq (a := R) (by omega) (by omega), zm_eq (a := (i : Int)) (by omega) (by omega), if_neg (by omega), gd_pos (by omega), zm_eq (a := h) (by omega) (by omega), gd_pos (by omega), zm_eq (a := τ 25 i) (by omega) (by omega), zm_eq (a := τ 1 h) (by omega) (by omega)]
    refine ⟨fun q => ?_, fun q => ?_⟩
    · rw [e, if_pos (q i (by omega) (by omega))]
      exact i1.1 (fun j a b => q j (by omega) b)
    · rw [e]
      by_cases z : τ 25 i < τ 1 h
      · rw [if_pos z]
        refine i1.2 (fun y => q (fun j a b => ?_))
        by_cases ej : j = i
        · rw [ej]; exact z
        · exact y j (by omega) b
      · rw [if_neg z]
theorem sm_wb {f : Int → Int} : ∀ n : Nat, (∀ i : Int, 0 ≤ i → i < n → 0 ≤ f i ∧ f i ≤ 100000) → 0 ≤ sm f n ∧ sm f n ≤ 100000 * (n : Int)
  | 0, _ => by
    show (0 : Int) ≤ 0 ∧ (0 : Int) ≤ 100000 * ((0 : Nat) : Int)
    omega
  | n + 1, h => by
    have i := sm_wb n (fun i a b => h i a (by omega))
    have q := h n (by omega) (by omega)
    show 0 ≤ sm f n + f n ∧ sm f n + f n ≤ 100000 * ((n + 1 : Nat) : Int)
    omega
theorem X_th66 {σ : St} {s c : Int} {w : Int → Int} (h11 : σ 0 11 = c) (hc : 0 ≤ c ∧ c ≤ 4) (hs : 0 ≤ s ∧ s < c) (hw : ∀ s' : Int, 0 ≤ s' → s' < c → σ 15 s' = w s') (hb : ∀ i : Int, 0 ≤ i → i < c → 0 ≤ w i ∧ w i ≤ 100000) : ∀ (d f i : Nat), (i : Int) + d = c → d < f → p_X7_think_66 f s (sm w i) i σ = some (if sm w c.toNat ≤ 0 then 0 else (zl (100 * w s)).tdiv (zl (sm w c.toNat)), σ) := by
  have sb := sm_wb (f := w) c.toNat (fun i a b => hb i a (by omega))
  have zz := zcmp_gt (sm w c.toNat) 0
  rw [zl_eq (a := sm w c.toNat) (by omega) (by omega), zl_eq (a := 0) (by decide) (by decide)] at zz
  intro d
  induction d with
  | zero =>
    intro f i hi hf
    obtain ⟨f, rfl⟩ := Nat.exists_eq_succ_of_ne_zero (by omega : f ≠ 0)
    have ei : i = c.toNat := by omega
    subst ei
    show p_X7_think_66b (p_X7_think_66 f) s _ _ σ = _
    unfold p_X7_think_66b
    rw [h11, zm_eq (a := c) (by omega) (by omega), zm_eq (a := (c.toNat : Int)) (by omega) (by omega), if_pos (by omega)]
    by_cases q : sm w c.toNat ≤ 0
    · rw [if_pos q, if_pos (by
        by_cases z : 0 < zm (zcmp (sm w c.toNat) 0)
        · have := zz.1 z; omega
        · omega)]
    · rw [if_neg q, if_neg (by have := zz.2 (by omega); omega), zm_eq (a := s) (by omega) (by omega), gd_pos (by omega), gd_pos (by rw [zl_eq (a := sm w c.toNat) (by omega) (by omega)]; omega), hw s hs.1 hs.2]
  | succ d ih =>
    intro f i hi hf
    obtain ⟨f, rfl⟩ := Nat.exists_eq_succ_of_ne_zero (by omega : f ≠ 0)
    refine Eq.trans ?_ (ih f (i + 1) (by omega) (by omega))
    show p_X7_think_66b (p_X7_think_66 f) s _ _ σ = p_X7_think_66 f s (sm w i + w i) _ σ
    generalize sm w i = A
    unfold p_X7_think_66b
    rw [h11, zm_eq (a := c) (by omega) (by omega), zm_eq (a := (i : Int)) (by omega) (by omega), if_neg (by omega), gd_pos (by omega), hw i (by omega) (by omega)]
    rfl
theorem M_th78 {τ : St} {s c : Int} {w : Int → Int} (h7 : τ 0 7 = c) (hc : 0 ≤ c ∧ c ≤ 4) (hs : 0 ≤ s ∧ s < c) (hw : ∀ s' : Int, 0 ≤ s' → s' < c → τ 27 s' = w s') (hb : ∀ i : Int, 0 ≤ i → i < c → 0 ≤ w i ∧ w i ≤ 100000) : ∀ (d n i : Nat), (i : Int) + d = c → d < n → p_X8_think_78 n s (sm w i) i τ = some (if sm w c.toNat ≤ 0 then 0 else (zl (100 * w s)).tdiv (zl (sm w c.toNat)), τ) := by
  have sb := sm_wb (f := w) c.toNat (fun i a b => hb i a (by omega))
  have zz := zcmp_eq (sm w c.toNat) 0
  rw [zl_eq (a := sm w c.toNat) (by omega) (by omega), zl_eq (a := 0) (by decide) (by decide)] at zz
  intro d
  induction d with
  | zero =>
    intro n i hi hn
    obtain ⟨n, rfl⟩ := Nat.exists_eq_succ_of_ne_zero (by omega : n ≠ 0)
    have ei : i = c.toNat := by omega
    subst ei
    show p_X8_think_78b (p_X8_think_78 n) s _ _ τ = _
    unfold p_X8_think_78b
    rw [h7, zm_eq (a := c) (by omega) (by omega), zm_eq (a := (c.toNat : Int)) (by omega) (by omega), if_pos (by omega)]
    by_cases q : sm w c.toNat ≤ 0
    · rw [if_pos q, if_pos (zz.2 (by omega))]
    · rw [if_neg q, if_neg (fun z => by have := zz.1 z; omega), zm_eq (a := s) (by omega) (by omega), gd_pos (by omega), gd_pos (by rw [zl_eq (a := sm w c.toNat) (by omega) (by omega)]; omega), hw s hs.1 hs.2]
  | succ d ih =>
    intro n i hi hn
    obtain ⟨n, rfl⟩ := Nat.exists_eq_succ_of_ne_zero (by omega : n ≠ 0)
    refine Eq.trans ?_ (ih n (i + 1) (by omega) (by omega))
    show p_X8_think_78b (p_X8_think_78 n) s _ _ τ = p_X8_think_78 n s (sm w i + w i) _ τ
    generalize sm w i = A
    unfold p_X8_think_78b
    rw [h7, zm_eq (a := c) (by omega) (by omega), zm_eq (a := (i : Int)) (by omega) (by omega), if_neg (by omega), gd_pos (by omega), hw i (by omega) (by omega)]
    rfl
theorem ok_think {a1 a2 a3 : Int} (h1 : i32 a1) (h2 : i32 a2) (h3 : i32 a3) : StepOK Inv (p_X7_think a1 a2 a3) (p_X8_think a1 a2 a3) := fun σ τ hI => by
  have hw := hI.2.1
  by_cases c1 : cS τ a1
  rotate_left
  · refine st_eq (a := -1000000001) ?_ ?_ hI
    · unfold p_X7_think
      rw [X_isSort hw h1, if_neg c1]
      simp only [bnd_some, zm0t, zm1n, if_true, if_false]
    · unfold p_X8_think
      rw [M_isSort hw h1, if_neg c1]
      simp only [bnd_some, zm0t, zm1n, if_true, if_false]
  by_cases c2 : cH τ a2
  rotate_left
  · refine st_eq (a := -1000000001) ?_ ?_ hI
    · unfold p_X7_think
      rw [X_isSort hw h1, if_pos c1]
      simp only [bnd_some, zm0t, zm1n, if_true, if_false]
      rw [X_isHouse hw h2, if_neg c2]
      simp only [bnd_some, zm0t, zm1n, if_true, if_false]
    · unfold p_X8_think
      rw [M_isSort hw h1, if_pos c1]
      simp only [bnd_some, zm0t, zm1n, if_true, if_false]
      rw [M_isHouse hw h2, if_neg c2]
      simp only [bnd_some, zm0t, zm1n, if_true, if_false]
  by_cases c3 : 1 ≤ a3 ∧ a3 ≤ 30
  rotate_left
  · refine st_eq (a := -1000000002) ?_ ?_ hI
    · unfold p_X7_think
      rw [X_isSort hw h1, if_pos c1]
      simp only [bnd_some, zm0t, zm1n, if_true, if_false]
      rw [X_isHouse hw h2, if_pos c2]
      simp only [bnd_some, zm0t, zm1n, if_true, if_false]
      rw [X_isOut h3 ⟨by decide, by decide⟩ ⟨by decide, by decide⟩, if_neg c3]
      simp only [bnd_some, zm0t, zm1n, if_true, if_false]
    · unfold p_X8_think
      rw [M_isSort hw h1, if_pos c1]
      simp only [bnd_some, zm0t, zm1n, if_true, if_false]
      rw [M_isHouse hw h2, if_pos c2]
      simp only [bnd_some, zm0t, zm1n, if_true, if_false]
      rw [M_isTime h3, if_neg c3]
      simp only [bnd_some, zm0t, zm1n, if_true, if_false]
  have q4 := hw.1
  have g1 := c2.1
  have h10 := hw.rg g1.1 g1.2
  have hM := hI.2.2.2.2.1
  have m6 := hM.2.2.2.1
  have mD := hM.2.2.2.2.1
  obtain ⟨hhr, hh⟩ := hw.hr c2
  obtain ⟨a, ea, ab, ai⟩ := X_hr4 (σ := σ) (D := τ 25) (R := τ 0 42) (H := τ 1 a2) m6.1 m6.2 (fun i i0 i1 => ⟨(mD i i0 i1).1, (mD i i0 i1).2.2.1, (mD i i0 i1).2.2.2.1⟩) (τ 0 42).toNat FU 0 (-1) (by omega) (FU_gt (by omega)) (by decide)
  have ea' : p_X2_highestRung 16 σ = some (a, σ) := by
    unfold p_X2_highestRung
    exact ea
  obtain ⟨mt1, mt2⟩ := M_th32 (s := a1) (h := a2) (Y := a3) (R := τ 0 42) (by omega) rfl m6.2 h10.2 (fun i i0 i1 => ⟨(mD i i0 i1).2.2.1, (mD i i0 i1).2.2.2.1⟩) (τ 0 42).toNat FU 0 (by omega) (FU_gt (by omega))
  have xx : p_X7_think a1 a2 a3 σ = if a < τ 1 a2 then (Option.bind (p_X7_weighSorts a2 a3 σ) fun x57 => p_X7_think_66 FU a1 0 0 x57.2) else some (-1000000003, σ) := by
    unfold p_X7_think
    rw [X_isSort hw h1, if_pos c1]
    simp only [bnd_some, zm0t, zm1n, if_true, if_false]
    rw [X_isHouse hw h2, if_pos c2]
    simp only [bnd_some, zm0t, zm1n, if_true, if_false]
    rw [X_isOut h3 ⟨by decide, by decide⟩ ⟨by decide, by decide⟩, if_pos c3]
    simp only [bnd_some, zm0t, zm1n, if_true, if_false]
    rw [ea']
    simp only [bnd_some]
    rw [zm_i h2, gd_pos (by omega), hhr.2.1, zm_eq (a := a) (by omega) (by omega), zm_eq (a := τ 1 a2) (by omega) (by omega)]
  have mm : p_X8_think a1 a2 a3 τ = p_X8_think_32 FU a1 a2 a3 0 τ := by
    unfold p_X8_think
    rw [M_isSort hw h1, if_pos c1]
    simp only [bnd_some, zm0t, zm1n, if_true, if_false]
    rw [M_isHouse hw h2, if_pos c2]
    simp only [bnd_some, zm0t, zm1n, if_true, if_false]
    rw [M_isTime h3, if_pos c3]
    simp only [bnd_some, zm0t, zm1n, if_true, if_false]
  by_cases q : a < τ 1 a2
  · have qa := (ai.1 q).2
    have hD : ∀ i, 0 ≤ i → i < τ 0 42 → (0 ≤ τ 25 i ∧ τ 25 i < τ 1 a2) ∧ 0 ≤ τ 26 i ∧ τ 26 i ≤ 3 := fun i i0 i1 => ⟨⟨(mD i i0 i1).2.2.1, qa i i0 i1⟩, (mD i i0 i1).2.2.2.2⟩
    rw [if_pos q] at xx
    obtain ⟨τ1, e1, hI1, T1, t25, t26, t7, t42, v1⟩ := M_weigh (Y := a3) hI c2 c3 ⟨rfl, q4.2⟩ hD ⟨rfl, m6.2⟩
    have u1 : τ1 1 = τ 1 := T1 1 (by decide) (by decide) (by decide)
    have oe : oT τ1 a2 a3 = oT τ a2 a3 := by
      funext s i
      show Od τ1 s a2 (-1) a3 (τ1 25 i) (τ1 26 i) = Od τ s a2 (-1) a3 (τ 25 i) (τ 26 i)
      rw [t25, t26, Od_c T1]
    obtain ⟨σ1, x1, hI2, w1⟩ := X_weigh (Y := a3) hI1 (h := a2) (by unfold cH; rw [u1]; exact c2) c3 ⟨t7, q4.2⟩ ⟨t42, m6.2⟩ (by rw [t25, t26, u1]; exact hD)
    rw [oe] at w1
    have wb := wt_bd (o := oT τ a2 a3) (c := (τ 0 7).toNat) (τ 0 42).toNat (fun s i a b c' d' => Od_bd (hw.2.2.1 s a (by omega)).2 (hD i c' (by omega)).2)
    have hb : ∀ i : Int, 0 ≤ i → i < τ 0 7 → 0 ≤ wt (oT τ a2 a3) (τ 0 7).toNat (τ 0 42).toNat i ∧ wt (oT τ a2 a3) (τ 0 7).toNat (τ 0 42).toNat i ≤ 100000 := fun i a b => wb i a (by omega)
    have q41 := hI2.2.1.1
    have fx := X_th66 (σ := σ1) (s := a1) (c := τ 0 7) (by rw [q41.1, t7]) q4.2 c1 w1 hb (τ 0 7).toNat FU 0 (by omega) (FU_gt (by omega))
    have fm := M_th78 (τ := τ1) (s := a1) (c := τ 0 7) t7 q4.2 c1 v1 hb (τ 0 7).toNat FU 0 (by omega) (FU_gt (by omega))
    have mm2 := mm.trans (mt1 (fun j j0 j1 => qa j j0 j1))
    rw [x1] at xx
    rw [e1] at mm2
    simp only [bnd_some] at xx mm2
    exact st_eq (xx.trans fx) (mm2.trans fm) hI2
  · rw [if_neg q] at xx
    refine st_eq xx (mm.trans (mt2 (fun y => q (ai.2 ⟨by omega, fun j j0 j1 => y j j0 j1⟩)))) hI
