/-! the people of the long run: the reference -/
theorem pOf_c {a b : St} (h : eqT a b) (s q ru Y r : Int) : pOf a s q ru Y r = pOf b s q ru Y r := by
  have e := funext (cst_c h s q ru (Y - 1).toNat)
  have i : pnd a s q ru (cst a s q ru (Y - 1).toNat) r ↔ pnd b s q ru (cst b s q ru (Y - 1).toNat) r := by
    unfold pnd
    rw [e, inM_c h, inM_c h, h 11 (by decide) (by decide) (by decide)]
  unfold pOf
  by_cases c : pnd a s q ru (cst a s q ru (Y - 1).toNat) r
  · rw [if_pos c, if_pos (i.1 c)]
  · rw [if_neg c, if_neg (fun x => c (i.2 x))]
theorem caY_c {a b : St} (h : eqT a b) (s q ru p r : Int) (c : Int → Int) (m k : Int) : caY a s q ru p r c m k = caY b s q ru p r c m k := by
  show asm a s q ru r m k (inM a s q ru p r c (11 - m).toNat) (od a s p) = asm b s q ru r m k (inM b s q ru p r c (11 - m).toNat) (od b s p)
  rw [asm_c h, funext (inM_c h s q ru p r c _), asm_f (fun i _ _ => od_c h s p i)]
theorem hbY_c {a b : St} (h : eqT a b) (s q ru p r : Int) (c : Int → Int) (m k : Int) : hbY a s q ru p r c m k = hbY b s q ru p r c m k := by
  show asm a s q ru r m k (inM a s q ru p r c (11 - m).toNat) (qD a s q p) = asm b s q ru r m k (inM b s q ru p r c (11 - m).toNat) (qD b s q p)
  rw [asm_c h, funext (inM_c h s q ru p r c _), asm_f (fun i _ _ => by show od a s p i * (a 9 _ - bea a q (a 9 _)) = _; rw [od_c h s p i, bea_c h, h 9 (by decide) (by decide) (by decide)])]
theorem Od_c {a b : St} (h : eqT a b) (s q ru Y r k : Int) : Od a s q ru Y r k = Od b s q ru Y r k := by
  unfold Od
  rw [pOf_c h, funext (cst_c h s q ru (Y - 1).toNat)]
  exact yq_c 12 (fun m k _ _ _ _ => caY_c h s q ru _ r _ m k) k
theorem Bo_c {a b : St} (h : eqT a b) (s q ru Y r : Int) : Bo a s q ru Y r = Bo b s q ru Y r := by
  unfold Bo
  rw [pOf_c h, funext (cst_c h s q ru (Y - 1).toNat)]
  exact yb_c 12 (fun m k _ _ _ _ => caY_c h s q ru _ r _ m k) (fun m k _ _ _ _ => hbY_c h s q ru _ r _ m k)
/-- all but what the long run is reckoned in -/
def lf (τ0 τ : St) : Prop := (∀ q : Int, q ≠ 0 → (q < 21 ∨ 24 < q) → τ q = τ0 q) ∧ ∀ j : Int, j ≠ 39 → τ 0 j = τ0 0 j
theorem lf.T {τ0 τ : St} (h : lf τ0 τ) : eqT τ τ0 := fun q h1 h2 _ => h.1 q (by omega) (by omega)
theorem lf.rf {τ : St} : lf τ τ := ⟨fun _ _ _ => rfl, fun _ _ => rfl⟩
theorem lf.tr {a b c : St} (h : lf a b) (g : lf b c) : lf a c := ⟨fun q h1 h2 => (g.1 q h1 h2).trans (h.1 q h1 h2), fun j hj => (g.2 j hj).trans (h.2 j hj)⟩
theorem LF.l {a b : St} (h : LF a b) : lf a b := ⟨fun q h1 h2 => h.1 q h1 (by omega) (by omega), h.2⟩
theorem lf.WK {τ0 τ : St} {s h ru Y : Int} (f : lf τ0 τ) (w : WK τ0 s h ru Y) : WK τ s h ru Y := WK_k (fun j h1 h2 => f.2 j (by omega)) (f.1 16 (by decide) (by decide)) (f.1 17 (by decide) (by decide)) (eqK_of (eS.of f.T) (eH.of f.T) (fun _ => eU.of f.T)) w
theorem nxt_lf {τ0 τ : St} (f : lf τ0 τ) (q r k : Int) : nxt τ q r k = nxt τ0 q r k := nxt_c f.T q r k
theorem M_sd102 {τ0 : St} {s h ru Y : Int} (hc : MC τ0 s h ru) {P : Int → Int} (K51 : Int → Int → Int → St → Option (Int × St)) (K87 : Int → Int → Int → Int → Int → St → Option (Int × St)) {v1 v2 v3 : Int} {r : Nat} (hr : (r : Int) < τ0 1 h) : ∀ (d n k : Nat) (τ : St), k + d = 4 → d < n → lf τ0 τ → (∀ k, 0 ≤ k → k ≤ 3 → τ 21 k = Od τ0 s h ru Y r k) → (∀ q, 0 ≤ q → q < τ0 1 h → τ 23 q = P q) → (∀ q, 0 ≤ q → q < τ0 1 h → τ 24 q = (wS τ0 h P (Od τ0 s h ru Y) (4 * r + k)).1 q) → ∃ τ', p_X8_stand_102 K51 K87 n v1 v2 v3 (wS τ0 h P (Od τ0 s h ru Y) (4 * r + k)).2 r k τ = K87 v1 v2 v3 (wS τ0 h P (Od τ0 s h ru Y) (4 * (r + 1))).2 (r + 1) τ' ∧ lf τ0 τ' ∧ (∀ q, 0 ≤ q → q < τ0 1 h → τ' 23 q = P q) ∧ (∀ q, 0 ≤ q → q < τ0 1 h → τ' 24 q = (wS τ0 h P (Od τ0 s h ru Y) (4 * (r + 1))).1 q) := by
  have hh := hc.2.2.2.2.1
  have h10 := hh.2.1
  have h3 := hh.1
  intro d
  induction d with
  | zero =>
    intro n k τ hk hn f hO hP hW
    obtain ⟨n, rfl⟩ := Nat.exists_eq_succ_of_ne_zero (by omega : n ≠ 0)
    have k4 : 4 * r + k = 4 * (r + 1) := by omega
    rw [k4] at hW ⊢
    refine ⟨τ, ?_, f, hP, hW⟩
    show p_X8_stand_102b K51 K87 (p_X8_stand_102 K51 K87 n) v1 v2 v3 _ r k τ = _
    unfold p_X8_stand_102b
    rw [zm_eq (a := (k : Int)) (by omega) (by omega), if_pos (by omega)]
  | succ d ih =>
    intro n k τ hk hn f hO hP hW
    obtain ⟨n, rfl⟩ := Nat.exists_eq_succ_of_ne_zero (by omega : n ≠ 0)
    have hhτ : HOK τ h := HOK_c f.T.symm hh
    have t1 : τ 1 h = τ0 1 h := by rw [f.1 1 (by decide) (by decide)]
    have nb := nxt_bd hh (r := (r : Int)) (k := (k : Int)) (by omega) (by omega)
    obtain ⟨N, hN⟩ : ∃ N, nxt τ0 h r k = N := ⟨_, rfl⟩
    rw [hN] at nb
    obtain ⟨τ1, e1, a1, b1, c1⟩ := su_ex τ 24 N (τ 24 N + ptX P (Od τ0 s h ru Y) r k)
    obtain ⟨τ', e', r'⟩ := ih n (k + 1) τ1 (by omega) (by omega) (f.tr ⟨fun q _ h2 => a1 q (by omega), fun j _ => by rw [a1 0 (by decide)]⟩) (fun k k0 k3 => by rw [a1 21 (by decide)]; exact hO k k0 k3) (fun q q0 q1 => by rw [a1 23 (by decide)]; exact hP q q0 q1) (fun q q0 q1 => by
      rw [wS_1 (by omega), hN]
      by_cases e : q = N
      · rw [if_pos e, e, b1, hW N (by omega) (by omega)]
      · rw [if_neg e, c1 q e, hW q q0 q1])
    refine ⟨τ', ?_, r'⟩
    refine Eq.trans ?_ e'
    show p_X8_stand_102b K51 K87 (p_X8_stand_102 K51 K87 n) v1 v2 v3 (wS τ0 h P (Od τ0 s h ru Y) (4 * r + k)).2 r k τ = _
    rw [wS_2 (by omega)]
    generalize (wS τ0 h P (Od τ0 s h ru Y) (4 * r + k)).2 = L
    unfold p_X8_stand_102b
    rw [zm_eq (a := (k : Int)) (by omega) (by omega), if_neg (by omega), zm_eq (a := (r : Int)) (by omega) (by omega), gd_pos (by omega), gd_pos (by omega), hP r (by omega) hr, hO k (by omega) (by omega), show (zl (zm (P r) * zm (Od τ0 s h ru Y r k))).tdiv 1000000 = ptX P (Od τ0 s h ru Y) r k from rfl, nz_eq, f.2 29 (by decide), hc.2.1, M_nextOf hhτ (by omega) (by omega)]
    simp only [bnd_some]
    rw [nxt_lf f, hN, zm_eq (a := N) (by omega) (by omega), gd_pos (by omega), nx_eq, e1]
    rfl
theorem M_sd176 {τ0 : St} {h : Int} (h10 : 1 ≤ τ0 1 h ∧ τ0 1 h ≤ 10) {W : Int → Int} {L : Int} (K51 : Int → Int → Int → St → Option (Int × St)) {v1 v3 : Int} : ∀ (d n r : Nat) (τ : St), (r : Int) + d = τ0 1 h → d < n → lf τ0 τ → (∀ q, 0 ≤ q → q < τ0 1 h → τ 24 q = W q) → (∀ q : Int, 0 ≤ q → q < r → τ 23 q = W q + (if q = 0 then L else 0)) → ∃ τ', p_X8_stand_176 K51 n v1 (τ0 1 h) v3 L r τ = K51 v1 (τ0 1 h) (v3 + 1) τ' ∧ lf τ0 τ' ∧ (∀ q, 0 ≤ q → q < τ0 1 h → τ' 23 q = W q + (if q = 0 then L else 0)) := by
  intro d
  induction d with
  | zero =>
    intro n r τ hk hn f hW hP
    obtain ⟨n, rfl⟩ := Nat.exists_eq_succ_of_ne_zero (by omega : n ≠ 0)
    refine ⟨τ, ?_, f, fun q q0 q1 => hP q q0 (by omega)⟩
    show p_X8_stand_176b K51 (p_X8_stand_176 K51 n) v1 (τ0 1 h) v3 L r τ = _
    unfold p_X8_stand_176b
    rw [zm_eq (a := τ0 1 h) (by omega) (by omega), zm_eq (a := (r : Int)) (by omega) (by omega), if_pos (by omega)]
  | succ d ih =>
    intro n r τ hk hn f hW hP
    obtain ⟨n, rfl⟩ := Nat.exists_eq_succ_of_ne_zero (by omega : n ≠ 0)
    obtain ⟨τ1, e1, a1, b1, c1⟩ := su_ex τ 23 r (W r + (if (r : Int) = 0 then L else 0))
    obtain ⟨τ', e', r'⟩ := ih n (r + 1) τ1 (by omega) (by omega) (f.tr ⟨fun q _ h2 => a1 q (by omega), fun j _ => by rw [a1 0 (by decide)]⟩) (fun q q0 q1 => by rw [a1 24 (by decide)]; exact hW q q0 q1) (fun q q0 q1 => by
      by_cases e : q = r
      · rw [e, b1]
      · rw [c1 q e]
        exact hP q q0 (by omega))
    refine ⟨τ', ?_, r'⟩
    refine Eq.trans ?_ e'
    show p_X8_stand_176b K51 (p_X8_stand_176 K51 n) v1 (τ0 1 h) v3 L r τ = _
    unfold p_X8_stand_176b p_X8_stand_206
    rw [zm_eq (a := τ0 1 h) (by omega) (by omega), zm_eq (a := (r : Int)) (by omega) (by omega), if_neg (by omega), gd_pos (by omega), hW r (by omega) (by omega)]
    by_cases q : (r : Int) = 0
    · rw [if_pos q] at e1
      rw [if_pos q, gd_pos (by omega), nx_eq, e1]
      rfl
    · rw [if_neg q] at e1
      rw [if_neg q, gd_pos (by omega), nx_eq, e1]
      rfl
theorem M_sd87 {τ0 : St} {s h ru Y : Int} (w : WK τ0 s h ru Y) {P : Int → Int} (K51 : Int → Int → Int → St → Option (Int × St)) {v1 v3 : Int} : ∀ (d n r : Nat) (τ : St), (r : Int) + d = τ0 1 h → d < n → lf τ0 τ → (∀ q, 0 ≤ q → q < τ0 1 h → τ 23 q = P q) → (∀ q, 0 ≤ q → q < τ0 1 h → τ 24 q = (wS τ0 h P (Od τ0 s h ru Y) (4 * r)).1 q) → ∃ τ', p_X8_stand_87 K51 n v1 (τ0 1 h) v3 (wS τ0 h P (Od τ0 s h ru Y) (4 * r)).2 r τ = K51 v1 (τ0 1 h) (v3 + 1) τ' ∧ lf τ0 τ' ∧ (∀ q, 0 ≤ q → q < τ0 1 h → τ' 23 q = nY τ0 h P (Od τ0 s h ru Y) q) := by
  have hc := w.1
  have h10 := hc.2.2.2.2.1.2.1
  intro d
  induction d with
  | zero =>
    intro n r τ hk hn f hP hW
    obtain ⟨n, rfl⟩ := Nat.exists_eq_succ_of_ne_zero (by omega : n ≠ 0)
    have er : r = (τ0 1 h).toNat := by omega
    subst er
    obtain ⟨τ', e', f', q'⟩ := M_sd176 (v1 := v1) (v3 := v3) (L := (wS τ0 h P (Od τ0 s h ru Y) (4 * (τ0 1 h).toNat)).2) h10 K51 (τ0 1 h).toNat FU 0 τ (by omega) (FU_gt (by omega)) f hW (fun q q0 q1 => by omega)
    refine ⟨τ', ?_, f', q'⟩
    refine Eq.trans ?_ e'
    show p_X8_stand_87b K51 (p_X8_stand_87 K51 n) v1 (τ0 1 h) v3 _ _ τ = _
    unfold p_X8_stand_87b
    rw [zm_eq (a := τ0 1 h) (by omega) (by omega), zm_eq (a := ((τ0 1 h).toNat : Int)) (by omega) (by omega), if_pos (by omega)]
    rfl
  | succ d ih =>
    intro n r τ hk hn f hP hW
    obtain ⟨n, rfl⟩ := Nat.exists_eq_succ_of_ne_zero (by omega : n ≠ 0)
    have t1 : τ 1 h = τ0 1 h := by rw [f.1 1 (by decide) (by decide)]
    obtain ⟨τ1, e1, f1, q1, _⟩ := M_liveYear (f.WK w) (r := (r : Int)) (by omega)
    obtain ⟨τ2, e2, f2, p2, w2⟩ := M_sd102 (Y := Y) hc K51 (p_X8_stand_87 K51 n) (v1 := v1) (v2 := τ0 1 h) (v3 := v3) (P := P) (r := r) (by omega) 4 FU 0 τ1 (by omega) (FU_gt (by omega)) (f.tr f1.l) (fun k k0 k3 => by rw [q1 k k0 k3, Od_c f.T]) (fun q q0 q1 => by rw [f1.1 23 (by decide) (by decide) (by decide)]; exact hP q q0 q1) (fun q q0 q1 => by rw [f1.1 24 (by decide) (by decide) (by decide)]; exact hW q q0 q1)
    obtain ⟨τ', e', r'⟩ := ih n (r + 1) τ2 (by omega) (by omega) f2 p2 w2
    refine ⟨τ', ?_, r'⟩
    refine Eq.trans ?_ e'
    show p_X8_stand_87b K51 (p_X8_stand_87 K51 n) v1 (τ0 1 h) v3 _ _ τ = _
    unfold p_X8_stand_87b
    rw [zm_eq (a := τ0 1 h) (by omega) (by omega), zm_eq (a := (r : Int)) (by omega) (by omega), if_neg (by omega), e1]
    simp only [bnd_some]
    exact e2
theorem M_sd64 {τ0 : St} {h : Int} (h10 : 1 ≤ τ0 1 h ∧ τ0 1 h ≤ 10) {P : Int → Int} (K51 : Int → Int → Int → St → Option (Int × St)) {v1 v3 L : Int} : ∀ (d n r : Nat) (τ : St), (r : Int) + d = τ0 1 h → d < n → lf τ0 τ → (∀ q, 0 ≤ q → q < τ0 1 h → τ 23 q = P q) → (∀ q : Int, 0 ≤ q → q < r → τ 24 q = 0) → ∃ τ', p_X8_stand_64 K51 n v1 (τ0 1 h) v3 L r τ = p_X8_stand_87 K51 FU v1 (τ0 1 h) v3 L 0 τ' ∧ lf τ0 τ' ∧ (∀ q, 0 ≤ q → q < τ0 1 h → τ' 23 q = P q) ∧ (∀ q, 0 ≤ q → q < τ0 1 h → τ' 24 q = 0) := by
  intro d
  induction d with
  | zero =>
    intro n r τ hk hn f hP hW
    obtain ⟨n, rfl⟩ := Nat.exists_eq_succ_of_ne_zero (by omega : n ≠ 0)
    refine ⟨τ, ?_, f, hP, fun q q0 q1 => hW q q0 (by omega)⟩
    show p_X8_stand_64b K51 (p_X8_stand_64 K51 n) v1 (τ0 1 h) v3 L r τ = _
    unfold p_X8_stand_64b
    rw [zm_eq (a := τ0 1 h) (by omega) (by omega), zm_eq (a := (r : Int)) (by omega) (by omega), if_pos (by omega)]
  | succ d ih =>
    intro n r τ hk hn f hP hW
    obtain ⟨n, rfl⟩ := Nat.exists_eq_succ_of_ne_zero (by omega : n ≠ 0)
    obtain ⟨τ1, e1, a1, b1, c1⟩ := su_ex τ 24 r 0
    obtain ⟨τ', e', r'⟩ := ih n (r + 1) τ1 (by omega) (by omega) (f.tr ⟨fun q _ h2 => a1 q (by omega), fun j _ => by rw [a1 0 (by decide)]⟩) (fun q q0 q1 => by rw [a1 23 (by decide)]; exact hP q q0 q1) (fun q q0 q1 => by
      by_cases e : q = r
      · rw [e, b1]
      · rw [c1 q e]
        exact hW q q0 (by omega))
    refine ⟨τ', ?_, r'⟩
    refine Eq.trans ?_ e'
    show p_X8_stand_64b K51 (p_X8_stand_64 K51 n) v1 (τ0 1 h) v3 L r τ = _
    unfold p_X8_stand_64b
    rw [zm_eq (a := τ0 1 h) (by omega) (by omega), zm_eq (a := (r : Int)) (by omega) (by omega), if_neg (by omega), gd_pos (by omega), nx_eq, e1]
    rfl
theorem M_sd51 {τ0 : St} {s h ru Y v : Int} (w : WK τ0 s h ru Y) (hv : 0 ≤ v ∧ v ≤ 30) : ∀ (d n y : Nat) (τ : St), (y : Int) + d = v → d < n → lf τ0 τ → (∀ q, 0 ≤ q → q < τ0 1 h → τ 23 q = Pp τ0 h (Od τ0 s h ru Y) y q) → ∃ τ', p_X8_stand_51 n v (τ0 1 h) y τ = some (0, τ') ∧ lf τ0 τ' ∧ (∀ q, 0 ≤ q → q < τ0 1 h → τ' 23 q = Pp τ0 h (Od τ0 s h ru Y) v.toNat q) := by
  have h10 := w.1.2.2.2.2.1.2.1
  intro d
  induction d with
  | zero =>
    intro n y τ hk hn f hP
    obtain ⟨n, rfl⟩ := Nat.exists_eq_succ_of_ne_zero (by omega : n ≠ 0)
    have ey : y = v.toNat := by omega
    subst ey
    refine ⟨τ, ?_, f, hP⟩
    show p_X8_stand_51b (p_X8_stand_51 n) v (τ0 1 h) _ τ = _
    unfold p_X8_stand_51b
    rw [zm_eq (a := v) (by omega) (by omega), zm_eq (a := (v.toNat : Int)) (by omega) (by omega), if_pos (by omega)]
  | succ d ih =>
    intro n y τ hk hn f hP
    obtain ⟨n, rfl⟩ := Nat.exists_eq_succ_of_ne_zero (by omega : n ≠ 0)
    obtain ⟨τ1, e1, f1, p1, w1⟩ := M_sd64 (v1 := v) (v3 := (y : Int)) (L := 1000000) h10 (p_X8_stand_51 n) (τ0 1 h).toNat FU 0 τ (by omega) (FU_gt (by omega)) f hP (fun q q0 q1 => by omega)
    obtain ⟨τ2, e2, f2, p2⟩ := M_sd87 w (v1 := v) (v3 := (y : Int)) (p_X8_stand_51 n) (τ0 1 h).toNat FU 0 τ1 (by omega) (FU_gt (by omega)) f1 p1 w1
    obtain ⟨τ', e', r'⟩ := ih n (y + 1) τ2 (by omega) (by omega) f2 p2
    refine ⟨τ', ?_, r'⟩
    refine Eq.trans ?_ e'
    show p_X8_stand_51b (p_X8_stand_51 n) v (τ0 1 h) _ τ = _
    unfold p_X8_stand_51b
    rw [zm_eq (a := v) (by omega) (by omega), zm_eq (a := (y : Int)) (by omega) (by omega), if_neg (by omega)]
    have z0 : ((0 : Nat) : Int) = 0 := rfl
    rw [z0] at e1 e2
    have w0 : (wS τ0 h (Pp τ0 h (Od τ0 s h ru Y) y) (Od τ0 s h ru Y) (4 * 0)).2 = 1000000 := rfl
    rw [w0] at e2
    rw [e1, e2]
    rfl
theorem M_sd12 {τ0 : St} {s h ru Y v : Int} (w : WK τ0 s h ru Y) : ∀ (d n r : Nat) (τ : St), (r : Int) + d = τ0 1 h → d < n → lf τ0 τ → (∀ q : Int, 0 ≤ q → q < r → τ 23 q = (if q = τ0 7 h then 1000000 else 0)) → ∃ τ', p_X8_stand_12 n v (τ0 1 h) r τ = p_X8_stand_51 FU v (τ0 1 h) 0 τ' ∧ lf τ0 τ' ∧ (∀ q, 0 ≤ q → q < τ0 1 h → τ' 23 q = (if q = τ0 7 h then 1000000 else 0)) := by
  have hh := w.1.2.2.2.2.1
  have h10 := hh.2.1
  have h3 := hh.1
  have h7 := hh.2.2.2.2.2.2
  have h29 := w.1.2.1
  intro d
  induction d with
  | zero =>
    intro n r τ hk hn f hP
    obtain ⟨n, rfl⟩ := Nat.exists_eq_succ_of_ne_zero (by omega : n ≠ 0)
    refine ⟨τ, ?_, f, fun q q0 q1 => hP q q0 (by omega)⟩
    show p_X8_stand_12b (p_X8_stand_12 n) v (τ0 1 h) r τ = _
    unfold p_X8_stand_12b
    rw [zm_eq (a := τ0 1 h) (by omega) (by omega), zm_eq (a := (r : Int)) (by omega) (by omega), if_pos (by omega)]
  | succ d ih =>
    intro n r τ hk hn f hP
    obtain ⟨n, rfl⟩ := Nat.exists_eq_succ_of_ne_zero (by omega : n ≠ 0)
    obtain ⟨τ1, e1, a1, b1, c1⟩ := su_ex τ 23 r (if (r : Int) = τ0 7 h then 1000000 else 0)
    obtain ⟨τ', e', r'⟩ := ih n (r + 1) τ1 (by omega) (by omega) (f.tr ⟨fun q _ h2 => a1 q (by omega), fun j _ => by rw [a1 0 (by decide)]⟩) (fun q q0 q1 => by
      by_cases e : q = r
      · rw [e, b1]
      · rw [c1 q e]
        exact hP q q0 (by omega))
    refine ⟨τ', ?_, r'⟩
    refine Eq.trans ?_ e'
    show p_X8_stand_12b (p_X8_stand_12 n) v (τ0 1 h) r τ = _
    unfold p_X8_stand_12b p_X8_stand_42
    rw [zm_eq (a := τ0 1 h) (by omega) (by omega), zm_eq (a := (r : Int)) (by omega) (by omega), if_neg (by omega), f.2 29 (by decide), h29, zm_eq (a := h) (by omega) (by omega), gd_pos (by omega), f.1 7 (by decide) (by decide), zm_eq (a := τ0 7 h) (by omega) (by omega)]
    by_cases q : (r : Int) = τ0 7 h
    · rw [if_pos q] at e1
      rw [if_pos q, gd_pos (by omega), nx_eq, e1]
      rfl
    · rw [if_neg q] at e1
      rw [if_neg q, gd_pos (by omega), nx_eq, e1]
      rfl
theorem M_stand {τ : St} {s h ru Y v : Int} (w : WK τ s h ru Y) (hv : 0 ≤ v ∧ v ≤ 30) : ∃ τ', p_X8_stand v τ = some (0, τ') ∧ lf τ τ' ∧ (∀ q, 0 ≤ q → q < τ 1 h → τ' 23 q = Pp τ h (Od τ s h ru Y) v.toNat q) := by
  have h10 := w.1.2.2.2.2.1.2.1
  have h3 := w.1.2.2.2.2.1.1
  obtain ⟨τ1, e1, f1, p1⟩ := M_sd12 (v := v) w (τ 1 h).toNat FU 0 τ (by omega) (FU_gt (by omega)) lf.rf (fun q q0 q1 => by omega)
  obtain ⟨τ2, e2, f2, p2⟩ := M_sd51 w hv v.toNat FU 0 τ1 (by omega) (FU_gt (by omega)) f1 (fun q q0 q1 => (p1 q q0 q1).trans rfl)
  refine ⟨τ2, ?_, f2, p2⟩
  unfold p_X8_stand
  have z0 : ((0 : Nat) : Int) = 0 := rfl
  rw [z0] at e1 e2
  rw [w.1.2.1, zm_eq (a := h) (by omega) (by omega), gd_pos (by omega), e1, e2]
