/-! what the house thinks: the weights -/
def uS (o : Int → Int → Int) (w : Int → Int) (i : Int) : Int → Int := fun s => (zl (w s * zm (o s i))).tdiv 1000000
def mxS (u : Int → Int) : Nat → Int
  | 0 => 0
  | n + 1 => if mxS u n < u n then u n else mxS u n
def wN (u : Int → Int) (g : Int) : Int → Int := fun s => if g ≤ 0 then u s else (zl (u s * 100000)).tdiv (zl g)
def wt (o : Int → Int → Int) (c : Nat) : Nat → Int → Int
  | 0 => fun _ => 100000
  | i + 1 => wN (uS o (wt o c i) i) (mxS (uS o (wt o c i) i) c)
theorem mxS_bd {u : Int → Int} : ∀ (n : Nat), (∀ s : Int, 0 ≤ s → s < n → 0 ≤ u s ∧ u s ≤ 100000) → (0 ≤ mxS u n ∧ mxS u n ≤ 100000) ∧ ∀ s : Int, 0 ≤ s → s < n → u s ≤ mxS u n
  | 0, _ => ⟨by show (0 : Int) ≤ 0 ∧ (0 : Int) ≤ 100000; decide, fun s s0 s1 => by omega⟩
  | n + 1, h => by
    obtain ⟨i1, i2⟩ := mxS_bd n (fun s s0 s1 => h s s0 (by omega))
    have q := h n (by omega) (by omega)
    show (0 ≤ (if mxS u n < u n then u n else mxS u n) ∧ (if mxS u n < u n then u n else mxS u n) ≤ 100000) ∧ ∀ s : Int, 0 ≤ s → s < ((n + 1 : Nat) : Int) → u s ≤ (if mxS u n < u n then u n else mxS u n)
    by_cases c : mxS u n < u n
    · rw [if_pos c]
      refine ⟨q, fun s s0 s1 => ?_⟩
      by_cases e : s = n
      · rw [e]; omega
      · have := i2 s s0 (by omega); omega
    · rw [if_neg c]
      refine ⟨i1, fun s s0 s1 => ?_⟩
      by_cases e : s = n
      · rw [e]; omega
      · exact i2 s s0 (by omega)
theorem uS_bd {o : Int → Int → Int} {w : Int → Int} {i s : Int} (hw : 0 ≤ w s ∧ w s ≤ 100000) (ho : 0 ≤ o s i ∧ o s i ≤ 1000000) : 0 ≤ uS o w i s ∧ uS o w i s ≤ 100000 := by
  have h1 : 0 ≤ w s * o s i := Int.mul_nonneg hw.1 ho.1
  have h2 : w s * o s i ≤ w s * 1000000 := Int.mul_le_mul_of_nonneg_left ho.2 hw.1
  unfold uS
  rw [zm_eq (a := o s i) (by omega) (by omega), zl_eq (by omega) (by omega), Int.tdiv_eq_ediv_of_nonneg h1]
  omega
theorem wN_bd {u : Int → Int} {g s : Int} (hu : 0 ≤ u s ∧ u s ≤ 100000) (hg : u s ≤ g ∧ g ≤ 100000) : 0 ≤ wN u g s ∧ wN u g s ≤ 100000 := by
  unfold wN
  by_cases c : g ≤ 0
  · rw [if_pos c]; exact hu
  · rw [if_neg c, zl_eq (by omega) (by omega), zl_eq (a := g) (by omega) (by omega), Int.tdiv_eq_ediv_of_nonneg (by omega)]
    have h1 : u s * 100000 ≤ 100000 * g := by omega
    have h2 := Int.ediv_le_ediv (show 0 < g by omega) h1
    rw [Int.mul_ediv_cancel _ (by omega)] at h2
    exact ⟨Int.ediv_nonneg (by omega) (by omega), h2⟩
theorem wt_bd {o : Int → Int → Int} {c : Nat} : ∀ (n : Nat), (∀ s i : Int, 0 ≤ s → s < c → 0 ≤ i → i < n → 0 ≤ o s i ∧ o s i ≤ 1000000) → ∀ s : Int, 0 ≤ s → s < c → 0 ≤ wt o c n s ∧ wt o c n s ≤ 100000
  | 0, _, s, _, _ => by
    show (0 : Int) ≤ 100000 ∧ (100000 : Int) ≤ 100000
    decide
  | n + 1, h, s, s0, s1 => by
    have ih := wt_bd n (fun s i a b c d => h s i a b c (by omega))
    have ub : ∀ s : Int, 0 ≤ s → s < c → 0 ≤ uS o (wt o c n) n s ∧ uS o (wt o c n) n s ≤ 100000 := fun s a b => uS_bd (ih s a b) (h s n a b (by omega) (by omega))
    have mb := mxS_bd c ub
    exact wN_bd (ub s s0 s1) ⟨mb.2 s s0 s1, mb.1.2⟩
theorem Od_bd {t : St} {s h ru Y r k : Int} (hs : SOK t s) (hk : 0 ≤ k ∧ k ≤ 3) : 0 ≤ Od t s h ru Y r k ∧ Od t s h ru Y r k ≤ 1000000 := by
  have hp : pOf t s h ru Y r = 0 ∨ (pOf t s h ru Y r = 1 ∧ 0 ≤ t 11 s) := by
    unfold pOf
    by_cases q : pnd t s h ru (cst t s h ru (Y - 1).toNat) r
    · rw [if_pos q]
      exact Or.inr ⟨rfl, q.2.1⟩
    · rw [if_neg q]
      exact Or.inl rfl
  have q := yq_bd (ca := caY t s h ru (pOf t s h ru Y r) r (cst t s h ru (Y - 1).toNat)) 12 (fun m k _ _ _ _ => caY_bd hs hp m k)
  unfold Od
  obtain ⟨q0, q1, q2, q3, q4⟩ := q
  rcases (by omega : k = 0 ∨ k = 1 ∨ k = 2 ∨ k = 3) with rfl | rfl | rfl | rfl <;> omega
abbrev oT (t : St) (h Y : Int) : Int → Int → Int := fun s i => Od t s h (-1) Y (t 25 i) (t 26 i)
/-! the reference -/
def lg (τ0 τ : St) : Prop := (∀ q : Int, q ≠ 0 → (q < 21 ∨ (24 < q ∧ q < 27) ∨ 28 < q) → τ q = τ0 q) ∧ ∀ j : Int, j ≠ 39 → τ 0 j = τ0 0 j
theorem lg.T {τ0 τ : St} (h : lg τ0 τ) : eqT τ τ0 := fun q h1 h2 _ => h.1 q (by omega) (by omega)
theorem lg.rf {τ : St} : lg τ τ := ⟨fun _ _ _ => rfl, fun _ _ => rfl⟩
theorem lg.tr {a b c : St} (h : lg a b) (g : lg b c) : lg a c := ⟨fun q h1 h2 => (g.1 q h1 h2).trans (h.1 q h1 h2), fun j hj => (g.2 j hj).trans (h.2 j hj)⟩
theorem LF.lg {a b : St} (h : LF a b) : lg a b := ⟨fun q h1 h2 => h.1 q h1 (by omega) (by omega), h.2⟩
theorem lg.WK {τ0 τ : St} {s h ru Y : Int} (f : lg τ0 τ) (w : WK τ0 s h ru Y) : WK τ s h ru Y := WK_k (fun j h1 h2 => f.2 j (by omega)) (f.1 16 (by decide) (by decide)) (f.1 17 (by decide) (by decide)) (eqK_of (eS.of f.T) (eH.of f.T) (fun _ => eU.of f.T)) w
theorem Inv.lg {σ τ τ' : St} (hI : Inv σ τ) (f : lg τ τ') : Inv σ τ' := by
  obtain ⟨i1, i2, i3, i4, i5⟩ := hI
  have e : eW τ τ' := eW.of f.T (f.2 7 (by decide)) (f.2 23 (by decide))
  exact ⟨i1.fr rfl rfl rfl (f.2 15 (by decide)) (f.2 14 (by decide)) (f.1 13 (by decide) (by decide)), i2.fr rfl rfl (fun _ _ _ => rfl) (fun _ _ _ => rfl) e, IP.fr i2 i3 (fun _ _ _ => rfl) rfl e, IC.fr i2 i4 (fun j h1 h2 => f.2 j (by omega)) (f.1 16 (by decide) (by decide)) (f.1 17 (by decide) (by decide)) e, i5.fr (fun _ _ _ => rfl) (fun _ _ _ => rfl) ⟨f.2 33 (by decide), f.2 42 (by decide), f.2 47 (by decide)⟩ (fun k hk => f.1 k (by omega) (by omega))⟩
theorem lgS {τ τ' : St} {k j v : Int} (hk : k = 27 ∨ k = 28) (e : su τ k j v = τ') : lg τ τ' := by
  obtain ⟨τ1, e1, a1, b1, c1⟩ := su_ex τ k j v
  have : τ' = τ1 := e.symm.trans e1
  subst this
  exact ⟨fun q h1 h2 => a1 q (by omega), fun j _ => by rw [a1 0 (by omega)]⟩
theorem M_we30 {τ0 : St} {s h Y R : Int} (hs : 0 ≤ s ∧ s < 4) (hD : ∀ i, 0 ≤ i → i < R → (0 ≤ τ0 25 i ∧ τ0 25 i < τ0 1 h) ∧ 0 ≤ τ0 26 i ∧ τ0 26 i ≤ 3) (hR : τ0 0 42 = R ∧ 0 ≤ R ∧ R ≤ 8) (K2 : Int → Int → Int → St → Option (Int × St)) : ∀ (d n i : Nat) (τ : St), (i : Int) + d = R → d < n → lg τ0 τ → WK τ0 s h (-1) Y → (∀ i' : Int, 0 ≤ i' → i' < i → τ 28 (8 * s + i') = oT τ0 h Y s i') → (∀ j : Int, (j < 8 * s ∨ 8 * s + 7 < j) → τ 28 j = τ0 28 j) → τ 27 = τ0 27 → ∃ τ', p_X8_weigh_30 K2 n h Y s i τ = K2 h Y (s + 1) τ' ∧ lg τ0 τ' ∧ (∀ i' : Int, 0 ≤ i' → i' < R → τ' 28 (8 * s + i') = oT τ0 h Y s i') ∧ (∀ j : Int, (j < 8 * s ∨ 8 * s + 7 < j) → τ' 28 j = τ0 28 j) ∧ τ' 27 = τ0 27 := by
  intro d
  induction d with
  | zero =>
    intro n i τ hi hn f w v1 v2 v3
    obtain ⟨n, rfl⟩ := Nat.exists_eq_succ_of_ne_zero (by omega : n ≠ 0)
    refine ⟨τ, ?_, f, fun i' a b => v1 i' a (by omega), v2, v3⟩
    show p_X8_weigh_30b K2 (p_X8_weigh_30 K2 n) h Y s i τ = _
    unfold p_X8_weigh_30b
    rw [f.2 42 (by decide), hR.1, zm_eq (a := R) (by omega) (by omega), zm_eq (a := (i : Int)) (by omega) (by omega), if_pos (by omega)]
  | succ d ih =>
    intro n i τ hi hn f w v1 v2 v3
    obtain ⟨n, rfl⟩ := Nat.exists_eq_succ_of_ne_zero (by omega : n ≠ 0)
    obtain ⟨d1, d2⟩ := hD i (by omega) (by omega)
    have t1 : τ 1 h = τ0 1 h := by rw [f.1 1 (by decide) (by decide)]
    have t25 : τ 25 = τ0 25 := f.1 25 (by decide) (by decide)
    obtain ⟨τ1, e1, f1, q1, _⟩ := M_liveYear (f.WK w) (r := τ0 25 i) (by omega)
    have t26 : τ1 26 = τ0 26 := (f1.1 26 (by decide) (by decide) (by decide)).trans (f.1 26 (by decide) (by decide))
    obtain ⟨τ2, e2, a2, b2, c2⟩ := su_ex τ1 28 (8 * s + i) (oT τ0 h Y s i)
    have g2 : lg τ τ2 := (f1.lg).tr (lgS (Or.inr rfl) e2)
    obtain ⟨τ', e', r'⟩ := ih n (i + 1) τ2 (by omega) (by omega) (f.tr g2) w (fun i' a b => by
      by_cases e : i' = i
      · rw [e, b2]
      · rw [c2 _ (by omega), f1.1 28 (by decide) (by decide) (by decide)]
        exact v1 i' a (by omega)) (fun j hj => by rw [c2 _ (by omega), f1.1 28 (by decide) (by decide) (by decide)]; exact v2 j hj) (by rw [a2 27 (by decide), f1.1 27 (by decide) (by decide) (by decide)]; exact v3)
    refine ⟨τ', ?_, r'⟩
    refine Eq.trans ?_ e'
    show p_X8_weigh_30b K2 (p_X8_weigh_30 K2 n) h Y s i τ = _
    unfold p_X8_weigh_30b
    rw [f.2 42 (by decide), hR.1, zm_eq (a := R) (by omega) (by omega), zm_eq (a := (i : Int)) (by omega) (by omega), if_neg (by omega), gd_pos (by omega), t25, e1]
    simp only [bnd_some]
    have z26 : zm (τ1 26 i) = τ0 26 i := by rw [t26]; exact zm_eq (by omega) (by omega)
    rw [gd_pos (by rw [z26]; omega), z26, zm_eq (a := 8 * s + (i : Int)) (by omega) (by omega), gd_pos (by omega), q1 _ d2.1 d2.2, Od_c f.T, nx_eq, e2]
    rfl
theorem M_we2 {σ τ0 : St} {h Y c R : Int} (ch : cH τ0 h) (hY : 1 ≤ Y ∧ Y ≤ 30) (hc : τ0 0 7 = c ∧ 0 ≤ c ∧ c ≤ 4) (hD : ∀ i, 0 ≤ i → i < R → (0 ≤ τ0 25 i ∧ τ0 25 i < τ0 1 h) ∧ 0 ≤ τ0 26 i ∧ τ0 26 i ≤ 3) (hR : τ0 0 42 = R ∧ 0 ≤ R ∧ R ≤ 8) : ∀ (d n s : Nat) (τ : St), (s : Int) + d = c → d < n → Inv σ τ → eqT τ τ0 → τ 25 = τ0 25 → τ 26 = τ0 26 → τ 0 7 = c → τ 0 42 = R → (∀ s' : Int, 0 ≤ s' → s' < s → τ 27 s' = 100000 ∧ ∀ i : Int, 0 ≤ i → i < R → τ 28 (8 * s' + i) = oT τ0 h Y s' i) → ∃ τ', p_X8_weigh_2 n h Y s τ = p_X8_weigh_88 FU 0 τ' ∧ Inv σ τ' ∧ eqT τ' τ0 ∧ τ' 25 = τ0 25 ∧ τ' 26 = τ0 26 ∧ τ' 0 7 = c ∧ τ' 0 42 = R ∧ (∀ s' : Int, 0 ≤ s' → s' < c → τ' 27 s' = 100000 ∧ ∀ i : Int, 0 ≤ i → i < R → τ' 28 (8 * s' + i) = oT τ0 h Y s' i) := by
  intro d
  induction d with
  | zero =>
    intro n s τ hi hn hI eT t25 t26 t7 t42 v
    obtain ⟨n, rfl⟩ := Nat.exists_eq_succ_of_ne_zero (by omega : n ≠ 0)
    refine ⟨τ, ?_, hI, eT, t25, t26, t7, t42, fun s' a b => v s' a (by omega)⟩
    show p_X8_weigh_2b (p_X8_weigh_2 n) h Y s τ = _
    unfold p_X8_weigh_2b
    rw [t7, zm_eq (a := c) (by omega) (by omega), zm_eq (a := (s : Int)) (by omega) (by omega), if_pos (by omega)]
  | succ d ih =>
    intro n s τ hi hn hI eT t25 t26 t7 t42 v
    obtain ⟨n, rfl⟩ := Nat.exists_eq_succ_of_ne_zero (by omega : n ≠ 0)
    obtain ⟨τ1, e1, a1, b1, c1⟩ := su_ex τ 27 s 100000
    have g1 : lg τ τ1 := lgS (Or.inl rfl) e1
    have hI1 := hI.lg g1
    have u1 : τ1 1 = τ0 1 := by rw [a1 1 (by decide)]; exact eT 1 (by decide) (by decide) (by decide)
    obtain ⟨τ2, e2, o2, w2, hI2, _, _, _⟩ := M_wk (s := (s : Int)) (h := h) (ru := -1) (Y := Y) hI1 (by unfold cS; rw [a1 0 (by decide)]; omega) (by unfold cH; rw [u1]; exact ch) (Or.inl rfl) hY
    have T2 : eqT τ2 τ0 := o2.T.trans (g1.T.trans eT)
    have s25 : τ2 25 = τ0 25 := by rw [o2.1 25 (by decide) (by decide) (by decide), a1 25 (by decide), t25]
    have s26 : τ2 26 = τ0 26 := by rw [o2.1 26 (by decide) (by decide) (by decide), a1 26 (by decide), t26]
    have s1 : τ2 1 = τ0 1 := T2 1 (by decide) (by decide) (by decide)
    have s42 : τ2 0 42 = R := by rw [o2.2 42 (by omega), a1 0 (by decide), t42]
    obtain ⟨τ3, e3, g3, v3, v4, v5⟩ := M_we30 (τ0 := τ2) (s := (s : Int)) (h := h) (Y := Y) (R := R) (by omega) (by rw [s25, s26, s1]; exact hD) ⟨s42, hR.2⟩ (p_X8_weigh_2 n) R.toNat FU 0 τ2 (by omega) (FU_gt (by omega)) lg.rf w2 (fun i' a b => by omega) (fun _ _ => rfl) rfl
    obtain ⟨τ', e', r'⟩ := ih n (s + 1) τ3 (by omega) (by omega) (hI2.lg g3) (g3.T.trans T2) (by rw [g3.1 25 (by decide) (by decide), s25]) (by rw [g3.1 26 (by decide) (by decide), s26]) (by rw [g3.2 7 (by decide), o2.2 7 (by omega), a1 0 (by decide), t7]) (by rw [g3.2 42 (by decide), s42]) (fun s' a b => by
      have k28 : τ2 28 = τ 28 := by rw [o2.1 28 (by decide) (by decide) (by decide), a1 28 (by decide)]
      by_cases e : s' = s
      · rw [e, v5, o2.1 27 (by decide) (by decide) (by decide), b1]
        refine ⟨rfl, fun i i0 i1 => ?_⟩
        rw [v3 i i0 i1]
        show Od τ2 s h (-1) Y (τ2 25 i) (τ2 26 i) = Od τ0 s h (-1) Y (τ0 25 i) (τ0 26 i)
        rw [s25, s26, Od_c T2]
      · obtain ⟨z1, z2⟩ := v s' a (by omega)
        rw [v5, o2.1 27 (by decide) (by decide) (by decide), c1 s' e]
        exact ⟨z1, fun i i0 i1 => by rw [v4 _ (by omega), k28]; exact z2 i i0 i1⟩)
    refine ⟨τ', ?_, r'⟩
    refine Eq.trans ?_ e'
    show p_X8_weigh_2b (p_X8_weigh_2 n) h Y s τ = _
    unfold p_X8_weigh_2b
    rw [t7, zm_eq (a := c) (by omega) (by omega), zm_eq (a := (s : Int)) (by omega) (by omega), if_neg (by omega), gd_pos (by omega), nx_eq, e1, e2]
    simp only [bnd_some]
    exact e3
theorem M_we102 {τ0 : St} {c : Int} {o : Int → Int → Int} {w : Int → Int} {i : Nat} (hc : τ0 0 7 = c ∧ 0 ≤ c ∧ c ≤ 4) (hi : (i : Int) < 8) (ho : ∀ s : Int, 0 ≤ s → s < c → τ0 28 (8 * s + i) = o s i ∧ 0 ≤ o s i ∧ o s i ≤ 1000000) (hw : ∀ s : Int, 0 ≤ s → s < c → 0 ≤ w s ∧ w s ≤ 100000) (K88 : Int → St → Option (Int × St)) : ∀ (d n s : Nat) (τ : St), (s : Int) + d = c → d < n → (∀ q : Int, q ≠ 27 → τ q = τ0 q) → (∀ s' : Int, 0 ≤ s' → s' < c → τ 27 s' = (if s' < s then uS o w i s' else w s')) → ∃ τ', p_X8_weigh_102 K88 n i (mxS (uS o w i) s) s τ = p_X8_weigh_179 K88 FU i (mxS (uS o w i) c.toNat) 0 τ' ∧ (∀ q : Int, q ≠ 27 → τ' q = τ0 q) ∧ (∀ s' : Int, 0 ≤ s' → s' < c → τ' 27 s' = uS o w i s') := by
  intro d
  induction d with
  | zero =>
    intro n s τ hs hn f v
    obtain ⟨n, rfl⟩ := Nat.exists_eq_succ_of_ne_zero (by omega : n ≠ 0)
    have es : s = c.toNat := by omega
    subst es
    refine ⟨τ, ?_, f, fun s' a b => by rw [v s' a b, if_pos (by omega)]⟩
    show p_X8_weigh_102b K88 (p_X8_weigh_102 K88 n) i _ _ τ = _
    unfold p_X8_weigh_102b
    rw [f 0 (by decide), hc.1, zm_eq (a := c) (by omega) (by omega), zm_eq (a := (c.toNat : Int)) (by omega) (by omega), if_pos (by omega)]
  | succ d ih =>
    intro n s τ hs hn f v
    obtain ⟨n, rfl⟩ := Nat.exists_eq_succ_of_ne_zero (by omega : n ≠ 0)
    have ub : ∀ s : Int, 0 ≤ s → s < c → 0 ≤ uS o w i s ∧ uS o w i s ≤ 100000 := fun s a b => uS_bd (hw s a b) (ho s a b).2
    have mb := (mxS_bd s (fun s' a b => ub s' a (by omega))).1
    have us := ub s (by omega) (by omega)
    obtain ⟨τ1, e1, a1, b1, c1⟩ := su_ex τ 27 s (uS o w i s)
    obtain ⟨τ', e', r'⟩ := ih n (s + 1) τ1 (by omega) (by omega) (fun q hq => by rw [a1 q hq, f q hq]) (fun s' a b => by
      by_cases e : s' = s
      · rw [e, b1, if_pos (by omega)]
      · rw [c1 s' e, v s' a b]
        by_cases q : s' < s
        · rw [if_pos q, if_pos (by omega)]
        · rw [if_neg q, if_neg (by omega)])
    refine ⟨τ', ?_, r'⟩
    refine Eq.trans ?_ e'
    show p_X8_weigh_102b K88 (p_X8_weigh_102 K88 n) i (mxS (uS o w i) s) s τ = p_X8_weigh_102 K88 n i (if mxS (uS o w i) s < uS o w i s then uS o w i s else mxS (uS o w i) s) _ τ1
    generalize mxS (uS o w i) s = V at mb ⊢
    unfold p_X8_weigh_102b p_X8_weigh_168
    rw [f 0 (by decide), hc.1, zm_eq (a := c) (by omega) (by omega), zm_eq (a := (s : Int)) (by omega) (by omega), if_neg (by omega), gd_pos (by omega), zm_eq (a := 8 * (s : Int) + i) (by omega) (by omega), gd_pos (by omega), v s (by omega) (by omega), if_neg (by omega), f 28 (by decide), (ho s (by omega) (by omega)).1, show (zl (w s * zm (o s i))).tdiv 1000000 = uS o w i s from rfl, nx_eq, e1, b1]
    have zz := zcmp_gt (uS o w i s) V
    rw [zl_eq (a := V) (by omega) (by omega), zl_eq (a := uS o w i s) (by omega) (by omega)] at zz
    by_cases q : V < uS o w i s
    · rw [if_pos q, if_neg (by have := zz.2 q; omega)]
      rfl
    · rw [if_neg q, if_pos (by
        by_cases z : 0 < zm (zcmp (uS o w i s) V)
        · exact absurd (zz.1 z) q
        · omega)]
      rfl
theorem M_we179 {τ0 : St} {c g : Int} {u : Int → Int} {i : Int} (hc : τ0 0 7 = c ∧ 0 ≤ c ∧ c ≤ 4) (hg : 0 ≤ g ∧ g ≤ 100000) (K88 : Int → St → Option (Int × St)) : ∀ (d n s : Nat) (τ : St), (s : Int) + d = c → d < n → (∀ q : Int, q ≠ 27 → τ q = τ0 q) → (∀ s' : Int, 0 ≤ s' → s' < c → τ 27 s' = (if s' < s then wN u g s' else u s')) → ∃ τ', p_X8_weigh_179 K88 n i g s τ = K88 (i + 1) τ' ∧ (∀ q : Int, q ≠ 27 → τ' q = τ0 q) ∧ (∀ s' : Int, 0 ≤ s' → s' < c → τ' 27 s' = wN u g s') := by
  have zz := zcmp_gt g 0
  rw [zl_eq (a := g) (by omega) (by omega), zl_eq (a := 0) (by decide) (by decide)] at zz
  intro d
  induction d with
  | zero =>
    intro n s τ hs hn f v
    obtain ⟨n, rfl⟩ := Nat.exists_eq_succ_of_ne_zero (by omega : n ≠ 0)
    refine ⟨τ, ?_, f, fun s' a b => by rw [v s' a b, if_pos (by omega)]⟩
    show p_X8_weigh_179b K88 (p_X8_weigh_179 K88 n) i g s τ = _
    unfold p_X8_weigh_179b p_X8_weigh_222
    rw [f 0 (by decide), hc.1, zm_eq (a := c) (by omega) (by omega), zm_eq (a := (s : Int)) (by omega) (by omega), if_pos (by omega)]
  | succ d ih =>
    intro n s τ hs hn f v
    obtain ⟨n, rfl⟩ := Nat.exists_eq_succ_of_ne_zero (by omega : n ≠ 0)
    by_cases q : 0 < g
    · obtain ⟨τ1, e1, a1, b1, c1⟩ := su_ex τ 27 s (wN u g s)
      obtain ⟨τ', e', r'⟩ := ih n (s + 1) τ1 (by omega) (by omega) (fun q hq => by rw [a1 q hq, f q hq]) (fun s' a b => by
        by_cases e : s' = s
        · rw [e, b1, if_pos (by omega)]
        · rw [c1 s' e, v s' a b]
          by_cases q : s' < s
          · rw [if_pos q, if_pos (by omega)]
          · rw [if_neg q, if_neg (by omega)])
      refine ⟨τ', ?_, r'⟩
      refine Eq.trans ?_ e'
      show p_X8_weigh_179b K88 (p_X8_weigh_179 K88 n) i g s τ = _
      have ew : wN u g s = (zl (u s * 100000)).tdiv (zl g) := by
        unfold wN
        rw [if_neg (by omega)]
      unfold p_X8_weigh_179b
      rw [f 0 (by decide), hc.1, zm_eq (a := c) (by omega) (by omega), zm_eq (a := (s : Int)) (by omega) (by omega), if_neg (by omega), if_neg (by have := zz.2 q; omega), gd_pos (by omega), gd_pos (by rw [zl_eq (a := g) (by omega) (by omega)]; omega), v s (by omega) (by omega), if_neg (by omega), ← ew, nx_eq, e1]
      rfl
    · have ew : ∀ s', wN u g s' = u s' := fun s' => by
        unfold wN
        rw [if_pos (by omega)]
      refine ⟨τ, ?_, f, fun s' a b => by
        rw [v s' a b, ew]
        by_cases z : s' < s
        · rw [if_pos z]
        · rw [if_neg z]⟩
      show p_X8_weigh_179b K88 (p_X8_weigh_179 K88 n) i g s τ = _
      unfold p_X8_weigh_179b p_X8_weigh_222
      rw [f 0 (by decide), hc.1, zm_eq (a := c) (by omega) (by omega), zm_eq (a := (s : Int)) (by omega) (by omega), if_neg (by omega), if_pos (by
        by_cases z : 0 < zm (zcmp g 0)
        · exact absurd (zz.1 z) q
        · omega)]
theorem M_we88 {τ0 : St} {c R : Int} {o : Int → Int → Int} (hc : τ0 0 7 = c ∧ 0 ≤ c ∧ c ≤ 4) (hR : τ0 0 42 = R ∧ 0 ≤ R ∧ R ≤ 8) (ho : ∀ s i : Int, 0 ≤ s → s < c → 0 ≤ i → i < R → τ0 28 (8 * s + i) = o s i ∧ 0 ≤ o s i ∧ o s i ≤ 1000000) : ∀ (d n i : Nat) (τ : St), (i : Int) + d = R → d < n → (∀ q : Int, q ≠ 27 → τ q = τ0 q) → (∀ s' : Int, 0 ≤ s' → s' < c → τ 27 s' = wt o c.toNat i s') → ∃ τ', p_X8_weigh_88 n i τ = some (0, τ') ∧ (∀ q : Int, q ≠ 27 → τ' q = τ0 q) ∧ (∀ s' : Int, 0 ≤ s' → s' < c → τ' 27 s' = wt o c.toNat R.toNat s') := by
  intro d
  induction d with
  | zero =>
    intro n i τ hi hn f v
    obtain ⟨n, rfl⟩ := Nat.exists_eq_succ_of_ne_zero (by omega : n ≠ 0)
    have ei : i = R.toNat := by omega
    subst ei
    refine ⟨τ, ?_, f, v⟩
    show p_X8_weigh_88b (p_X8_weigh_88 n) _ τ = _
    unfold p_X8_weigh_88b
    rw [f 0 (by decide), hR.1, zm_eq (a := R) (by omega) (by omega), zm_eq (a := (R.toNat : Int)) (by omega) (by omega), if_pos (by omega)]
  | succ d ih =>
    intro n i τ hi hn f v
    obtain ⟨n, rfl⟩ := Nat.exists_eq_succ_of_ne_zero (by omega : n ≠ 0)
    have wb := wt_bd (o := o) (c := c.toNat) i (fun s i' a b c' d' => (ho s i' a (by omega) c' (by omega)).2)
    have hw : ∀ s : Int, 0 ≤ s → s < c → 0 ≤ wt o c.toNat i s ∧ wt o c.toNat i s ≤ 100000 := fun s a b => wb s a (by omega)
    have ub : ∀ s : Int, 0 ≤ s → s < c → 0 ≤ uS o (wt o c.toNat i) i s ∧ uS o (wt o c.toNat i) i s ≤ 100000 := fun s a b => uS_bd (hw s a b) (ho s i a b (by omega) (by omega)).2
    have mb := (mxS_bd c.toNat (fun s' a b => ub s' a (by omega))).1
    obtain ⟨τ1, e1, f1, v1⟩ := M_we102 (w := wt o c.toNat i) (o := o) hc (i := i) (by omega) (fun s a b => ho s i a b (by omega) (by omega)) hw (p_X8_weigh_88 n) c.toNat FU 0 τ (by omega) (FU_gt (by omega)) f (fun s' a b => by rw [if_neg (by omega)]; exact v s' a b)
    obtain ⟨τ2, e2, f2, v2⟩ := M_we179 (u := uS o (wt o c.toNat i) i) (g := mxS (uS o (wt o c.toNat i) i) c.toNat) (i := (i : Int)) hc mb (p_X8_weigh_88 n) c.toNat FU 0 τ1 (by omega) (FU_gt (by omega)) f1 (fun s' a b => by rw [if_neg (by omega)]; exact v1 s' a b)
    obtain ⟨τ', e', r'⟩ := ih n (i + 1) τ2 (by omega) (by omega) f2 v2
    refine ⟨τ', ?_, r'⟩
    refine Eq.trans ?_ e'
    show p_X8_weigh_88b (p_X8_weigh_88 n) i τ = _
    unfold p_X8_weigh_88b
    rw [f 0 (by decide), hR.1, zm_eq (a := R) (by omega) (by omega), zm_eq (a := (i : Int)) (by omega) (by omega), if_neg (by omega)]
    have z0 : ((0 : Nat) : Int) = 0 := rfl
    rw [z0] at e1 e2
    have m0 : mxS (uS o (wt o c.toNat i) i) 0 = 0 := rfl
    rw [m0] at e1
    rw [e1, e2]
    rfl
theorem M_weigh {σ τ : St} {h Y c R : Int} (hI : Inv σ τ) (ch : cH τ h) (hY : 1 ≤ Y ∧ Y ≤ 30) (hc : τ 0 7 = c ∧ 0 ≤ c ∧ c ≤ 4) (hD : ∀ i, 0 ≤ i → i < R → (0 ≤ τ 25 i ∧ τ 25 i < τ 1 h) ∧ 0 ≤ τ 26 i ∧ τ 26 i ≤ 3) (hR : τ 0 42 = R ∧ 0 ≤ R ∧ R ≤ 8) : ∃ τ', p_X8_weigh h Y τ = some (0, τ') ∧ Inv σ τ' ∧ eqT τ' τ ∧ τ' 25 = τ 25 ∧ τ' 26 = τ 26 ∧ τ' 0 7 = c ∧ τ' 0 42 = R ∧ (∀ s : Int, 0 ≤ s → s < c → τ' 27 s = wt (oT τ h Y) c.toNat R.toNat s) := by
  obtain ⟨τ1, e1, hI1, T1, t25, t26, t7, t42, v1⟩ := M_we2 (σ := σ) ch hY hc hD hR c.toNat FU 0 τ (by omega) (FU_gt (by omega)) hI (fun _ _ _ _ => rfl) rfl rfl hc.1 hR.1 (fun s' a b => by omega)
  have ob : ∀ s i : Int, 0 ≤ s → s < c → 0 ≤ i → i < R → 0 ≤ oT τ h Y s i ∧ oT τ h Y s i ≤ 1000000 := fun s i a b c' d' => Od_bd (hI.2.1.2.2.1 s a (by omega)).2 (hD i c' d').2
  obtain ⟨τ2, e2, f2, v2⟩ := M_we88 (o := oT τ h Y) ⟨t7, hc.2⟩ ⟨t42, hR.2⟩ (fun s i a b c' d' => ⟨(v1 s a b).2 i c' d', ob s i a b c' d'⟩) R.toNat FU 0 τ1 (by omega) (FU_gt (by omega)) (fun _ _ => rfl) (fun s a b => (v1 s a b).1)
  have g2 : lg τ1 τ2 := ⟨fun q h1 h2 => f2 q (by omega), fun j _ => by rw [f2 0 (by decide)]⟩
  refine ⟨τ2, ?_, hI1.lg g2, g2.T.trans T1, by rw [f2 25 (by decide), t25], by rw [f2 26 (by decide), t26], by rw [f2 0 (by decide), t7], by rw [f2 0 (by decide), t42], v2⟩
  unfold p_X8_weigh
  have z0 : ((0 : Nat) : Int) = 0 := rfl
  rw [z0] at e1 e2
  rw [e1, e2]
