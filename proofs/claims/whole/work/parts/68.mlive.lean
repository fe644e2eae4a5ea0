/-! the long run: the reference -/
def LF (τ0 τ : St) : Prop := (∀ q : Int, q ≠ 0 → q ≠ 21 → q ≠ 22 → τ q = τ0 q) ∧ ∀ j : Int, j ≠ 39 → τ 0 j = τ0 0 j
theorem LF.T {τ0 τ : St} (h : LF τ0 τ) : eqT τ τ0 := fun q h1 h2 _ => h.1 q (by omega) (by omega) (by omega)
theorem LF.rf {τ : St} : LF τ τ := ⟨fun _ _ _ _ => rfl, fun _ _ => rfl⟩
theorem LF.tr {a b c : St} (h : LF a b) (g : LF b c) : LF a c := ⟨fun q h1 h2 h3 => (g.1 q h1 h2 h3).trans (h.1 q h1 h2 h3), fun j hj => (g.2 j hj).trans (h.2 j hj)⟩
theorem LF.MC {τ0 τ : St} {s h ru : Int} (f : LF τ0 τ) (hc : MC τ0 s h ru) : MC τ s h ru := by
  obtain ⟨h28, h29, h30, hs, hh, hu⟩ := hc
  exact ⟨by rw [f.2 28 (by decide)]; exact h28, by rw [f.2 29 (by decide)]; exact h29, by rw [f.2 30 (by decide)]; exact h30, SOK_c f.T.symm hs, HOK_c f.T.symm hh, hu.imp id (ROK_c f.T.symm)⟩
abbrev cM (t : St) (s h ru p r : Int) : Int → Int → Int := fun m k => asm t s h ru r m k (gAt t p 0 r (m + 1)) (od t s p)
abbrev bM (t : St) (s h ru p r : Int) : Int → Int → Int := fun m k => asm t s h ru r m k (gAt t p 0 r (m + 1)) (qD t s h p)
theorem M_ly76 {τ : St} {s h ru r p m k : Int} (hc : MC τ s h ru) (hp : p = 0 ∨ (p = 1 ∧ 0 ≤ τ 11 s)) (hr : 0 ≤ r ∧ r < 10) (hm : 0 ≤ m ∧ m ≤ 11) (hk : 0 ≤ k ∧ k ≤ 3) (hg : ∀ k, 0 ≤ k → k ≤ 3 → 0 ≤ gAt τ p 0 r (m + 1) k ∧ gAt τ p 0 r (m + 1) k ≤ 420000000) (K52 : Int → Int → Int → St → Option (Int × St)) (K61 : Int → Int → Int → Int → St → Option (Int × St)) : ∀ (d n i : Nat), (i : Int) + d = τ 8 s → d < n → ∃ τ', p_X8_liveYear_76 K52 K61 n r p m k (sm (fun i => if ask τ h ru r m k (gAt τ p 0 r (m + 1)) (τ 9 (8 * s + i)) then od τ s p i else 0) i) (sm (fun i => if ask τ h ru r m k (gAt τ p 0 r (m + 1)) (τ 9 (8 * s + i)) then qD τ s h p i else 0) i) i τ = K61 r p m (k + 1) τ' ∧ (∀ q : Int, q ≠ 0 → q ≠ 22 → τ' q = τ q) ∧ (∀ j : Int, j ≠ 39 → τ' 0 j = τ 0 j) ∧ τ' 0 39 = τ 0 39 + boX (τ 21) (bM τ s h ru p r m) k ∧ τ' 22 k = goX (τ 21) (cM τ s h ru p r m) k ∧ ∀ j, j ≠ k → τ' 22 j = τ 22 j := by
  obtain ⟨h28, h29, h30, hs, hh, hu⟩ := id hc
  have h4 := hs.1
  have h8 := hs.2.1
  have h3 := hh.1
  have h6 := hh.2.2.2.2.2.1
  have hp01 : 0 ≤ p ∧ p ≤ 1 := by rcases hp with q | ⟨q, _⟩ <;> omega
  intro d
  induction d with
  | zero =>
    intro n i hi hn
    obtain ⟨n, rfl⟩ := Nat.exists_eq_succ_of_ne_zero (by omega : n ≠ 0)
    have ei : i = (τ 8 s).toNat := by omega
    obtain ⟨τ1, e1, a1, b1, c1⟩ := su_ex τ 0 39 (τ 0 39 + boX (τ 21) (bM τ s h ru p r m) k)
    obtain ⟨τ2, e2, a2, b2, c2⟩ := su_ex τ1 22 k (goX (τ 21) (cM τ s h ru p r m) k)
    refine ⟨τ2, ?_, fun q q1 q2 => by rw [a2 q q2, a1 q q1], fun j hj => by rw [a2 0 (by decide), c1 j hj], by rw [a2 0 (by decide), b1], b2, fun j hj => by rw [c2 j hj, a1 22 (by decide)]⟩
    show p_X8_liveYear_76b K52 K61 (p_X8_liveYear_76 K52 K61 n) r p m k _ _ i τ = _
    unfold p_X8_liveYear_76b
    rw [h28, zm_eq (a := s) (by omega) (by omega), gd_pos (by omega), zm_eq (a := τ 8 s) (by omega) (by omega), zm_eq (a := (i : Int)) (by omega) (by omega), if_pos (by omega), zm_eq (a := k) (by omega) (by omega), gd_pos (by omega), ei]
    simp only [nx_eq]
    rw [show (zl (zm (τ 21 k) * sm (fun i => if ask τ h ru r m k (gAt τ p 0 r (m + 1)) (τ 9 (8 * s + i)) then qD τ s h p i else 0) (τ 8 s).toNat)).tdiv 1000000 = boX (τ 21) (bM τ s h ru p r m) k from rfl, e1, a1 21 (by decide), show (zl (zm (τ 21 k) * sm (fun i => if ask τ h ru r m k (gAt τ p 0 r (m + 1)) (τ 9 (8 * s + i)) then od τ s p i else 0) (τ 8 s).toNat)).tdiv 1000 = goX (τ 21) (cM τ s h ru p r m) k from rfl, e2]
  | succ d ih =>
    intro n i hi hn
    obtain ⟨n, rfl⟩ := Nat.exists_eq_succ_of_ne_zero (by omega : n ≠ 0)
    obtain ⟨τ', e', f'⟩ := ih n (i + 1) (by omega) (by omega)
    refine ⟨τ', ?_, f'⟩
    have hS := hs.2.2.1 i (by omega) (by omega)
    have ho := od_bd hs hp (i := i) (by omega) (by omega)
    have hq := hs.2.2.2.1 i (by omega) (by omega)
    rw [show ((i + 1 : Nat) : Int) = (i : Int) + 1 by omega] at e'
    rw [show sm (fun i => if ask τ h ru r m k (gAt τ p 0 r (m + 1)) (τ 9 (8 * s + i)) then od τ s p i else 0) (i + 1) = sm (fun i => if ask τ h ru r m k (gAt τ p 0 r (m + 1)) (τ 9 (8 * s + i)) then od τ s p i else 0) i + (if ask τ h ru r m k (gAt τ p 0 r (m + 1)) (τ 9 (8 * s + i)) then od τ s p i else 0) from rfl, show sm (fun i => if ask τ h ru r m k (gAt τ p 0 r (m + 1)) (τ 9 (8 * s + i)) then qD τ s h p i else 0) (i + 1) = sm (fun i => if ask τ h ru r m k (gAt τ p 0 r (m + 1)) (τ 9 (8 * s + i)) then qD τ s h p i else 0) i + (if ask τ h ru r m k (gAt τ p 0 r (m + 1)) (τ 9 (8 * s + i)) then qD τ s h p i else 0) from rfl] at e'
    generalize sm (fun i => if ask τ h ru r m k (gAt τ p 0 r (m + 1)) (τ 9 (8 * s + i)) then od τ s p i else 0) i = V5 at e' ⊢
    generalize sm (fun i => if ask τ h ru r m k (gAt τ p 0 r (m + 1)) (τ 9 (8 * s + i)) then qD τ s h p i else 0) i = V7 at e' ⊢
    refine Eq.trans ?_ e'
    show p_X8_liveYear_76b K52 K61 (p_X8_liveYear_76 K52 K61 n) r p m k V5 V7 i τ = _
    unfold p_X8_liveYear_76b
    rw [h28, zm_eq (a := s) (by omega) (by omega), gd_pos (by omega), zm_eq (a := τ 8 s) (by omega) (by omega), zm_eq (a := (i : Int)) (by omega) (by omega), if_neg (by omega), zm_eq (a := 8 * s + i) (by omega) (by omega), gd_pos (by omega), M_asks hc hp01 (by decide) hr hm hk hS hg]
    by_cases q : ask τ h ru r m k (gAt τ p 0 r (m + 1)) (τ 9 (8 * s + i))
    · rw [if_pos q, if_pos q, if_pos q]
      simp only [bnd_some, zm1n, if_false]
      have key : p_X8_liveYear_139 K52 K61 (p_X8_liveYear_76 K52 K61 n) r p m k V5 V7 i (τ 9 (8 * s + i)) s i p τ = p_X8_liveYear_76 K52 K61 n r p m k (V5 + od τ s p i) (V7 + qD τ s h p i) (i + 1) τ := by
        unfold p_X8_liveYear_139 p_X8_liveYear_187 p_X8_liveYear_192
        rw [M_oddsOf hs hp (by omega)]
        simp only [bnd_some]
        have z3 : τ 6 (zm (τ 0 29)) = τ 6 h := by rw [h29, zm_eq (a := h) (by omega) (by omega)]
        have z2 : zm (τ 6 h) = τ 6 h := zm_eq (by omega) (by omega)
        have z1 : zm (τ 9 (8 * s + i)) = τ 9 (8 * s + i) := zm_eq (by omega) (by omega)
        have z4 : zm (od τ s p i) = od τ s p i := zm_eq (by omega) (by omega)
        have g : 0 ≤ zm (τ 0 29) ∧ zm (τ 0 29) < 3 := by rw [h29, zm_eq (a := h) (by omega) (by omega)]; omega
        rw [gd_pos g]
        by_cases c : τ 9 (8 * s + i) ≤ τ 6 h
        · have eb : qD τ s h p i = od τ s p i * 0 := by
            show od τ s p i * (τ 9 (8 * s + i) - bea τ h (τ 9 (8 * s + i))) = _
            unfold bea
            by_cases c2 : τ 6 h ≤ τ 9 (8 * s + i)
            · rw [if_pos c2, show τ 9 (8 * s + i) - τ 6 h = 0 by omega]
            · rw [if_neg c2, show τ 9 (8 * s + i) - τ 9 (8 * s + i) = 0 by omega]
          rw [if_pos (by rw [z1, z3, z2]; exact c), z4, zm0, eb]
        · have eb : qD τ s h p i = od τ s p i * (τ 9 (8 * s + i) - τ 6 h) := by
            show od τ s p i * (τ 9 (8 * s + i) - bea τ h (τ 9 (8 * s + i))) = _
            unfold bea
            rw [if_pos (by omega)]
          rw [if_neg (by rw [z1, z3, z2]; exact c), z4, z3, zm_eq (a := τ 9 (8 * s + i) - τ 6 h) (by omega) (by omega), eb]
      rw [h28, zm_eq (a := p) (by omega) (by omega)]
      rcases hp with rfl | ⟨rfl, _⟩
      · rw [if_neg (by decide)]
        exact key
      · rw [if_pos rfl]
        exact key
    · rw [if_neg q, if_neg q, if_neg q]
      simp only [bnd_some, zm0t, if_true]
      unfold p_X8_liveYear_192
      rw [Int.add_zero, Int.add_zero]
theorem M_ly61s {τ : St} {s h ru r p m k : Int} (hc : MC τ s h ru) (hp : p = 0 ∨ (p = 1 ∧ 0 ≤ τ 11 s)) (hr : 0 ≤ r ∧ r < 10) (hm : 0 ≤ m ∧ m ≤ 11) (hk : 0 ≤ k ∧ k ≤ 3) (hg : ∀ k, 0 ≤ k → k ≤ 3 → 0 ≤ gAt τ p 0 r (m + 1) k ∧ gAt τ p 0 r (m + 1) k ≤ 420000000) (K52 : Int → Int → Int → St → Option (Int × St)) (n : Nat) : ∃ τ', p_X8_liveYear_61 K52 (n + 1) r p m k τ = p_X8_liveYear_61 K52 n r p m (k + 1) τ' ∧ (∀ q : Int, q ≠ 0 → q ≠ 22 → τ' q = τ q) ∧ (∀ j : Int, j ≠ 39 → τ' 0 j = τ 0 j) ∧ τ' 0 39 = τ 0 39 + boX (τ 21) (bM τ s h ru p r m) k ∧ τ' 22 k = goX (τ 21) (cM τ s h ru p r m) k ∧ ∀ j, j ≠ k → τ' 22 j = τ 22 j := by
  have h8 := hc.2.2.2.1.2.1
  obtain ⟨τ', e, f⟩ := M_ly76 hc hp hr hm hk hg K52 (p_X8_liveYear_61 K52 n) (τ 8 s).toNat FU 0 (by omega) (FU_gt (by omega))
  refine ⟨τ', ?_, f⟩
  show p_X8_liveYear_61b K52 (p_X8_liveYear_61 K52 n) r p m k τ = _
  unfold p_X8_liveYear_61b
  rw [zm_eq (a := k) (by omega) (by omega), if_neg (by omega)]
  exact e
theorem M_ly254s {τ : St} {r p m k : Int} (hk : 0 ≤ k ∧ k ≤ 2) (K52 : Int → Int → Int → St → Option (Int × St)) (n : Nat) : ∃ τ', p_X8_liveYear_254 K52 (n + 1) r p m k τ = p_X8_liveYear_254 K52 n r p m (k + (-1)) τ' ∧ (∀ q : Int, q ≠ 21 → τ' q = τ q) ∧ τ' 21 k = τ 21 k - τ 22 k ∧ τ' 21 (k + 1) = τ 21 (k + 1) + τ 22 k ∧ ∀ j, j ≠ k → j ≠ k + 1 → τ' 21 j = τ 21 j := by
  obtain ⟨τ1, e1, a1, b1, c1⟩ := su_ex τ 21 k (τ 21 k - τ 22 k)
  obtain ⟨τ2, e2, a2, b2, c2⟩ := su_ex τ1 21 (k + 1) (τ1 21 (k + 1) + τ1 22 k)
  refine ⟨τ2, ?_, fun q hq => by rw [a2 q hq, a1 q hq], by rw [c2 k (by omega), b1], by rw [b2, c1 _ (by omega), a1 22 (by decide)], fun j j1 j2 => by rw [c2 j j2, c1 j j1]⟩
  show p_X8_liveYear_254b K52 (p_X8_liveYear_254 K52 n) r p m k τ = _
  unfold p_X8_liveYear_254b
  simp only [nx_eq]
  rw [zm_eq (a := k) (by omega) (by omega), if_neg (by omega), gd_pos (by omega), e1, zm_eq (a := k + 1) (by omega) (by omega), gd_pos (by omega), e2]
theorem LFa {τ τ' : St} (a : ∀ q : Int, q ≠ 0 → q ≠ 22 → τ' q = τ q) (b : ∀ j : Int, j ≠ 39 → τ' 0 j = τ 0 j) : LF τ τ' := ⟨fun q h1 _ h3 => a q h1 h3, b⟩
theorem LF.g {τ0 τ : St} (f : LF τ0 τ) {p y r m : Int} : gAt τ p y r m = gAt τ0 p y r m := by
  funext k
  show τ 17 _ = τ0 17 _
  rw [f.1 17 (by decide) (by decide) (by decide)]
theorem LF.c {τ0 τ : St} (f : LF τ0 τ) {s h ru p r : Int} (m k : Int) : cM τ s h ru p r m k = cM τ0 s h ru p r m k := by
  show asm τ s h ru r m k (gAt τ p 0 r (m + 1)) (od τ s p) = asm τ0 s h ru r m k (gAt τ0 p 0 r (m + 1)) (od τ0 s p)
  rw [f.g, asm_c f.T, asm_f (fun i _ _ => od_c f.T s p i)]
theorem LF.b {τ0 τ : St} (f : LF τ0 τ) {s h ru p r : Int} (m k : Int) : bM τ s h ru p r m k = bM τ0 s h ru p r m k := by
  show asm τ s h ru r m k (gAt τ p 0 r (m + 1)) (qD τ s h p) = asm τ0 s h ru r m k (gAt τ0 p 0 r (m + 1)) (qD τ0 s h p)
  rw [f.g, asm_c f.T, asm_f (fun i _ _ => by show od τ s p i * (τ 9 _ - bea τ h (τ 9 _)) = _; rw [od_c f.T s p i, bea_c f.T, f.1 9 (by decide) (by decide) (by decide)])]
/-- a month -/
theorem M_lyM {τ : St} {s h ru r p m : Int} (hc : MC τ s h ru) (hp : p = 0 ∨ (p = 1 ∧ 0 ≤ τ 11 s)) (hr : 0 ≤ r ∧ r < 10) (hm : 0 ≤ m ∧ m ≤ 11) (hg : ∀ k, 0 ≤ k → k ≤ 3 → 0 ≤ gAt τ p 0 r (m + 1) k ∧ gAt τ p 0 r (m + 1) k ≤ 420000000) (K52 : Int → Int → Int → St → Option (Int × St)) : ∃ τ', p_X8_liveYear_61 K52 FU r p m 0 τ = K52 r p (m + 1) τ' ∧ LF τ τ' ∧ (∀ k, 0 ≤ k → k ≤ 3 → τ' 21 k = mq (τ 21) (cM τ s h ru p r m) k) ∧ τ' 0 39 = τ 0 39 + mb (τ 21) (bM τ s h ru p r m) := by
  obtain ⟨n, hn⟩ : ∃ n, FU = n + 5 := ⟨99995, rfl⟩
  obtain ⟨τ1, e1, a1, b1, v1, g1, j1⟩ := M_ly61s (k := 0) hc hp hr hm (by decide) hg K52 (n + 4)
  have f1 := LFa a1 b1
  have p1 : p = 0 ∨ (p = 1 ∧ 0 ≤ τ1 11 s) := by rw [f1.1 11 (by decide) (by decide) (by decide)]; exact hp
  obtain ⟨τ2, e2, a2, b2, v2, g2, j2⟩ := M_ly61s (k := 0 + 1) (f1.MC hc) p1 hr hm (by decide) (by rw [f1.g]; exact hg) K52 (n + 3)
  have f2 := f1.tr (LFa a2 b2)
  have p2 : p = 0 ∨ (p = 1 ∧ 0 ≤ τ2 11 s) := by rw [f2.1 11 (by decide) (by decide) (by decide)]; exact hp
  obtain ⟨τ3, e3, a3, b3, v3, g3, j3⟩ := M_ly61s (k := 0 + 1 + 1) (f2.MC hc) p2 hr hm (by decide) (by rw [f2.g]; exact hg) K52 (n + 2)
  have f3 := f2.tr (LFa a3 b3)
  have p3 : p = 0 ∨ (p = 1 ∧ 0 ≤ τ3 11 s) := by rw [f3.1 11 (by decide) (by decide) (by decide)]; exact hp
  obtain ⟨τ4, e4, a4, b4, v4, g4, j4⟩ := M_ly61s (k := 0 + 1 + 1 + 1) (f3.MC hc) p3 hr hm (by decide) (by rw [f3.g]; exact hg) K52 (n + 1)
  have f4 := f3.tr (LFa a4 b4)
  obtain ⟨τ5, e5, a5, x5, y5, z5⟩ := M_ly254s (τ := τ4) (r := r) (p := p) (m := m) (k := 2) (by decide) K52 (n + 4)
  obtain ⟨τ6, e6, a6, x6, y6, z6⟩ := M_ly254s (τ := τ5) (r := r) (p := p) (m := m) (k := 2 + (-1)) (by decide) K52 (n + 3)
  obtain ⟨τ7, e7, a7, x7, y7, z7⟩ := M_ly254s (τ := τ6) (r := r) (p := p) (m := m) (k := 2 + (-1) + (-1)) (by decide) K52 (n + 2)
  have t1 : τ1 21 = τ 21 := a1 21 (by decide) (by decide)
  have t2 : τ2 21 = τ 21 := (a2 21 (by decide) (by decide)).trans t1
  have t3 : τ3 21 = τ 21 := (a3 21 (by decide) (by decide)).trans t2
  have t4 : τ4 21 = τ 21 := (a4 21 (by decide) (by decide)).trans t3
  have G : ∀ (τi : St) (k : Int), τi 21 = τ 21 → LF τ τi → goX (τi 21) (cM τi s h ru p r m) k = goX (τ 21) (cM τ s h ru p r m) k := fun τi k ht f => goX_c (by rw [ht]) (f.c m k)
  have B : ∀ (τi : St) (k : Int), τi 21 = τ 21 → LF τ τi → boX (τi 21) (bM τi s h ru p r m) k = boX (τ 21) (bM τ s h ru p r m) k := fun τi k ht f => boX_c (by rw [ht]) (f.b m k)
  rw [G τ1 _ t1 f1] at g2
  rw [G τ2 _ t2 f2] at g3
  rw [B τ1 _ t1 f1] at v2
  rw [B τ2 _ t2 f2] at v3
  rw [B τ3 _ t3 f3] at v4
  have w0 : τ4 22 0 = goX (τ 21) (cM τ s h ru p r m) 0 := by rw [j4 0 (by decide), j3 0 (by decide), j2 0 (by decide), g1]
  have w1 : τ4 22 1 = goX (τ 21) (cM τ s h ru p r m) 1 := by rw [j4 1 (by decide), j3 1 (by decide)]; exact g2
  have w2 : τ4 22 2 = goX (τ 21) (cM τ s h ru p r m) 2 := by rw [j4 2 (by decide)]; exact g3
  have s5 : τ5 22 = τ4 22 := a5 22 (by decide)
  have s6 : τ6 22 = τ4 22 := (a6 22 (by decide)).trans s5
  have r3 : τ7 21 3 = τ 21 3 + goX (τ 21) (cM τ s h ru p r m) 2 := by
    rw [z7 3 (by decide) (by decide), z6 3 (by decide) (by decide), show τ5 21 3 = τ4 21 3 + τ4 22 2 from y5, t4, w2]
  have r2 : τ7 21 2 = τ 21 2 - goX (τ 21) (cM τ s h ru p r m) 2 + goX (τ 21) (cM τ s h ru p r m) 1 := by
    rw [z7 2 (by decide) (by decide), show τ6 21 2 = τ5 21 2 + τ5 22 1 from y6, x5, s5, t4, w1, w2]
  have r1 : τ7 21 1 = τ 21 1 - goX (τ 21) (cM τ s h ru p r m) 1 + goX (τ 21) (cM τ s h ru p r m) 0 := by
    rw [show τ7 21 1 = τ6 21 1 + τ6 22 0 from y7, show τ6 21 1 = τ5 21 1 - τ5 22 1 from x6, z5 1 (by decide) (by decide), s5, s6, t4, w0, w1]
  have r0 : τ7 21 0 = τ 21 0 - goX (τ 21) (cM τ s h ru p r m) 0 := by
    rw [show τ7 21 0 = τ6 21 0 - τ6 22 0 from x7, z6 0 (by decide) (by decide), z5 0 (by decide) (by decide), s6, t4, w0]
  have f7 : LF τ4 τ7 := ⟨fun q _ h2 _ => by rw [a7 q h2, a6 q h2, a5 q h2], fun j _ => by rw [a7 0 (by decide), a6 0 (by decide), a5 0 (by decide)]⟩
  refine ⟨τ7, ?_, f4.tr f7, fun k k0 k3 => ?_, ?_⟩
  · rw [hn]
    refine e1.trans ?_
    refine e2.trans ?_
    refine e3.trans ?_
    refine e4.trans ?_
    show p_X8_liveYear_61b K52 (p_X8_liveYear_61 K52 n) r p m (0 + 1 + 1 + 1 + 1) τ4 = _
    unfold p_X8_liveYear_61b
    rw [zm_eq (a := 0 + 1 + 1 + 1 + 1) (by decide) (by decide), if_pos (by decide), hn]
    refine e5.trans ?_
    refine e6.trans ?_
    refine e7.trans ?_
    show p_X8_liveYear_254b K52 (p_X8_liveYear_254 K52 (n + 1)) r p m (2 + (-1) + (-1) + (-1)) τ7 = _
    unfold p_X8_liveYear_254b
    rw [zm_eq (a := 2 + (-1) + (-1) + (-1)) (by decide) (by decide), if_pos (by decide)]
  · rcases (by omega : k = 0 ∨ k = 1 ∨ k = 2 ∨ k = 3) with rfl | rfl | rfl | rfl
    · exact r0
    · exact r1
    · exact r2
    · exact r3
  · rw [a7 0 (by decide), a6 0 (by decide), a5 0 (by decide)]
    unfold mb
    have v2' : τ2 0 39 = τ1 0 39 + boX (τ 21) (bM τ s h ru p r m) 1 := v2
    have v3' : τ3 0 39 = τ2 0 39 + boX (τ 21) (bM τ s h ru p r m) 2 := v3
    have v4' : τ4 0 39 = τ3 0 39 + boX (τ 21) (bM τ s h ru p r m) 3 := v4
    omega
theorem M_ly52 {τ0 : St} {s h ru r p : Int} (hc : MC τ0 s h ru) (hp : p = 0 ∨ (p = 1 ∧ 0 ≤ τ0 11 s)) (hr : 0 ≤ r ∧ r < 10) (hg : ∀ m k, 1 ≤ m → m ≤ 12 → 0 ≤ k → k ≤ 3 → 0 ≤ gAt τ0 p 0 r m k ∧ gAt τ0 p 0 r m k ≤ 420000000) : ∀ (d n m : Nat) (τ : St), m + d = 12 → d < n → LF τ0 τ → (∀ k, 0 ≤ k → k ≤ 3 → τ 21 k = yq (cM τ0 s h ru p r) m k) → τ 0 39 = yb (cM τ0 s h ru p r) (bM τ0 s h ru p r) m → ∃ τ', p_X8_liveYear_52 n r p m τ = some (0, τ') ∧ LF τ0 τ' ∧ (∀ k, 0 ≤ k → k ≤ 3 → τ' 21 k = yq (cM τ0 s h ru p r) 12 k) ∧ τ' 0 39 = yb (cM τ0 s h ru p r) (bM τ0 s h ru p r) 12 := by
  intro d
  induction d with
  | zero =>
    intro n m τ hm hn f hq hb
    obtain ⟨n, rfl⟩ := Nat.exists_eq_succ_of_ne_zero (by omega : n ≠ 0)
    have m12 : m = 12 := by omega
    subst m12
    refine ⟨τ, ?_, f, hq, hb⟩
    show p_X8_liveYear_52b (p_X8_liveYear_52 n) r p ((12 : Nat) : Int) τ = _
    unfold p_X8_liveYear_52b
    rw [zm_eq (a := ((12 : Nat) : Int)) (by decide) (by decide), if_pos (by decide)]
  | succ d ih =>
    intro n m τ hm hn f hq hb
    obtain ⟨n, rfl⟩ := Nat.exists_eq_succ_of_ne_zero (by omega : n ≠ 0)
    have p1 : p = 0 ∨ (p = 1 ∧ 0 ≤ τ 11 s) := by rw [f.1 11 (by decide) (by decide) (by decide)]; exact hp
    obtain ⟨τ1, e1, f1, q1, b1⟩ := M_lyM (m := m) (f.MC hc) p1 hr (by omega) (by rw [f.g]; exact fun k k0 k3 => hg (m + 1) k (by omega) (by omega) k0 k3) (p_X8_liveYear_52 n)
    obtain ⟨τ', e', r'⟩ := ih n (m + 1) τ1 (by omega) (by omega) (f.tr f1) (fun k k0 k3 => by
      rw [q1 k k0 k3]
      exact mq_c hq (fun k _ _ => f.c m k) k) (by
      rw [b1, hb, mb_c hq (fun k _ _ => f.b m k)]
      rfl)
    refine ⟨τ', ?_, r'⟩
    show p_X8_liveYear_52b (p_X8_liveYear_52 n) r p m τ = _
    unfold p_X8_liveYear_52b
    rw [zm_eq (a := (m : Int)) (by omega) (by omega), if_neg (by omega)]
    exact e1.trans e'
theorem M_ly22 {r p : Int} : ∀ (d n k : Nat) (τ : St), k + d = 4 → d < n → ∃ τ', p_X8_liveYear_22 n r p k τ = p_X8_liveYear_52 FU r p 0 τ' ∧ (∀ q : Int, q ≠ 21 → τ' q = τ q) ∧ (∀ j : Int, j < k → τ' 21 j = τ 21 j) ∧ ∀ k' : Int, k ≤ k' → k' ≤ 3 → τ' 21 k' = (if k' = 0 then 1000000 else 0) := by
  intro d
  induction d with
  | zero =>
    intro n k τ hk hn
    obtain ⟨n, rfl⟩ := Nat.exists_eq_succ_of_ne_zero (by omega : n ≠ 0)
    refine ⟨τ, ?_, fun _ _ => rfl, fun _ _ => rfl, fun k' q1 q2 => by omega⟩
    show p_X8_liveYear_22b (p_X8_liveYear_22 n) r p k τ = _
    unfold p_X8_liveYear_22b
    rw [zm_eq (a := (k : Int)) (by omega) (by omega), if_pos (by omega)]
  | succ d ih =>
    intro n k τ hk hn
    obtain ⟨n, rfl⟩ := Nat.exists_eq_succ_of_ne_zero (by omega : n ≠ 0)
    obtain ⟨τ1, e1, a1, b1, c1⟩ := su_ex τ 21 k (if (k : Int) = 0 then 1000000 else 0)
    obtain ⟨τ', e', a', b', c'⟩ := ih n (k + 1) τ1 (by omega) (by omega)
    refine ⟨τ', ?_, fun q hq => by rw [a' q hq, a1 q hq], fun j hj => by rw [b' j (by omega), c1 j (by omega)], fun k' q1 q2 => ?_⟩
    · refine Eq.trans ?_ e'
      show p_X8_liveYear_22b (p_X8_liveYear_22 n) r p k τ = _
      unfold p_X8_liveYear_22b p_X8_liveYear_43
      simp only [nx_eq]
      rw [zm_eq (a := (k : Int)) (by omega) (by omega), if_neg (by omega)]
      by_cases q : (k : Int) = 0
      · rw [if_pos q] at e1
        rw [if_pos q, gd_pos (by omega), e1]
        rfl
      · rw [if_neg q] at e1
        rw [if_neg q, gd_pos (by omega), e1]
        rfl
    · by_cases e : k' = k
      · subst e
        rw [b' _ (by omega), b1]
      · rw [c' k' (by omega) q2]
theorem M_isP {τ : St} {s h ru Y r : Int} (w : WK τ s h ru Y) (hr : 0 ≤ r ∧ r < τ 1 h) : p_X8_isPained 0 r τ = some (pOf τ s h ru Y r, τ) := by
  obtain ⟨hc, w31, hY, _, wc, wi⟩ := w
  have hs := hc.2.2.2.1
  have hh := hc.2.2.2.2.1
  have h10 := hh.2.1
  have cb := cst_b (ru := ru) hs hh (n := Y - 1) (by omega)
  have ba := inM_bd (p := 0) (ru := ru) (r := r) hs hh (Or.inl rfl) hr cb 12 0 (by decide) (by decide)
  have bb := fun q => inM_bd (p := 1) (ru := ru) (r := r) hs hh (Or.inr ⟨rfl, q⟩) hr cb 12 0 (by decide) (by decide)
  have wi0 : ∀ p m k : Int, (p = 0 ∨ (p = 1 ∧ cpn τ s ru)) → 0 ≤ m → m ≤ 12 → 0 ≤ k → k ≤ 3 → τ 17 (pl p 0 r m k) = inM τ s h ru p r (cst τ s h ru (Y - 1).toNat) (12 - m).toNat k := fun p m k q m0 m1 k0 k3 => by
    have z := wi 0 r p m k hr.1 hr.2 (by omega) (by omega) q m0 m1 k0 k3
    rw [show Y - 0 - 1 = Y - 1 by omega] at z
    exact z
  have wa := wi0 0 0 0 (Or.inl rfl) (by decide) (by decide) (by decide) (by decide)
  have wb := fun q => wi0 1 0 0 (Or.inr ⟨rfl, q⟩) (by decide) (by decide) (by decide) (by decide)
  have i12 : ((12 : Int) - 0).toNat = 12 := by decide
  rw [i12] at wa
  simp only [i12] at wb
  unfold pOf pnd
  obtain ⟨I0, e0⟩ : ∃ I0, inM τ s h ru 0 r (cst τ s h ru (Y - 1).toNat) 12 0 = I0 := ⟨_, rfl⟩
  obtain ⟨I1, e1⟩ : ∃ I1, inM τ s h ru 1 r (cst τ s h ru (Y - 1).toNat) 12 0 = I1 := ⟨_, rfl⟩
  rw [e0] at wa ba
  simp only [e1] at wb bb
  rw [e0, e1, M_isPained (a := I0) (b := I1) hc (by decide) hr wa (by omega) (fun q => ⟨wb q, (bb q.2).1, by have := (bb q.2).2; omega⟩)]
  by_cases q : cpn τ s ru ∧ 1000 * τ 11 s + I1 < I0
  · rw [if_pos q, if_pos ⟨q.1.1, q.1.2, q.2⟩]
  · rw [if_neg q, if_neg (fun z => q ⟨⟨z.1, z.2.1⟩, z.2.2⟩)]
theorem M_liveYear {τ : St} {s h ru Y r : Int} (w : WK τ s h ru Y) (hr : 0 ≤ r ∧ r < τ 1 h) : ∃ τ', p_X8_liveYear r τ = some (0, τ') ∧ LF τ τ' ∧ (∀ k, 0 ≤ k → k ≤ 3 → τ' 21 k = Od τ s h ru Y r k) ∧ τ' 0 39 = Bo τ s h ru Y r := by
  obtain ⟨hc, w31, hY, _, wc, wi⟩ := id w
  have hs := hc.2.2.2.1
  have hh := hc.2.2.2.2.1
  have h10 := hh.2.1
  have cb := cst_b (ru := ru) hs hh (n := Y - 1) (by omega)
  have wi0 : ∀ p m k : Int, (p = 0 ∨ (p = 1 ∧ cpn τ s ru)) → 0 ≤ m → m ≤ 12 → 0 ≤ k → k ≤ 3 → τ 17 (pl p 0 r m k) = inM τ s h ru p r (cst τ s h ru (Y - 1).toNat) (12 - m).toNat k := fun p m k q m0 m1 k0 k3 => by
    have z := wi 0 r p m k hr.1 hr.2 (by omega) (by omega) q m0 m1 k0 k3
    rw [show Y - 0 - 1 = Y - 1 by omega] at z
    exact z
  have isP := M_isP w hr
  have pc : pOf τ s h ru Y r = 0 ∨ (pOf τ s h ru Y r = 1 ∧ cpn τ s ru) := by
    unfold pOf
    by_cases q : pnd τ s h ru (cst τ s h ru (Y - 1).toNat) r
    · rw [if_pos q]
      exact Or.inr ⟨rfl, q.1, q.2.1⟩
    · rw [if_neg q]
      exact Or.inl rfl
  obtain ⟨P, hP⟩ : ∃ P, pOf τ s h ru Y r = P := ⟨_, rfl⟩
  have cO : ∀ k, Od τ s h ru Y r k = yq (caY τ s h ru P r (cst τ s h ru (Y - 1).toNat)) 12 k := fun k => by
    unfold Od
    rw [hP]
  have cB : Bo τ s h ru Y r = yb (caY τ s h ru P r (cst τ s h ru (Y - 1).toNat)) (hbY τ s h ru P r (cst τ s h ru (Y - 1).toNat)) 12 := by
    unfold Bo
    rw [hP]
  rw [hP] at isP pc
  have pk : P = 0 ∨ (P = 1 ∧ 0 ≤ τ 11 s) := pc.imp id (fun q => ⟨q.1, q.2.2⟩)
  have ge : ∀ m k : Int, 0 ≤ m → m ≤ 12 → 0 ≤ k → k ≤ 3 → gAt τ P 0 r m k = inM τ s h ru P r (cst τ s h ru (Y - 1).toNat) (12 - m).toNat k := fun m k m0 m1 k0 k3 => wi0 P m k pc m0 m1 k0 k3
  have gb : ∀ m k : Int, 1 ≤ m → m ≤ 12 → 0 ≤ k → k ≤ 3 → 0 ≤ gAt τ P 0 r m k ∧ gAt τ P 0 r m k ≤ 420000000 := fun m k m0 m1 k0 k3 => by
    rw [ge m k (by omega) m1 k0 k3]
    have q := inM_bd (p := P) (ru := ru) (r := r) hs hh pk hr cb (12 - m).toNat k k0 k3
    omega
  have ea : ∀ m k : Int, 0 ≤ m → m < (12 : Nat) → 0 ≤ k → k ≤ 3 → cM τ s h ru P r m k = caY τ s h ru P r (cst τ s h ru (Y - 1).toNat) m k := fun m k m0 m1 k0 k3 => asm_g ⟨k0, k3⟩ (Or.inr fun k k0 k3 => by rw [ge (m + 1) k (by omega) (by omega) k0 k3, show 12 - (m + 1) = 11 - m by omega])
  have eb : ∀ m k : Int, 0 ≤ m → m < (12 : Nat) → 0 ≤ k → k ≤ 3 → bM τ s h ru P r m k = hbY τ s h ru P r (cst τ s h ru (Y - 1).toNat) m k := fun m k m0 m1 k0 k3 => asm_g ⟨k0, k3⟩ (Or.inr fun k k0 k3 => by rw [ge (m + 1) k (by omega) (by omega) k0 k3, show 12 - (m + 1) = 11 - m by omega])
  obtain ⟨τ1, e1, a1, b1, c1⟩ := su_ex τ 0 39 0
  obtain ⟨τ2, e2, a2, _, c2⟩ := M_ly22 (r := r) (p := P) 4 FU 0 τ1 (by omega) (FU_gt (by omega))
  have f2 : LF τ τ2 := ⟨fun q h1 h2 _ => by rw [a2 q h2, a1 q h1], fun j hj => by rw [a2 0 (by decide), c1 j hj]⟩
  obtain ⟨τ', e', f', q', b'⟩ := M_ly52 hc pk (by omega) gb 12 FU 0 τ2 (by omega) (FU_gt (by omega)) f2 (fun k k0 k3 => by rw [c2 k k0 k3]; rfl) (by rw [a2 0 (by decide), b1]; rfl)
  refine ⟨τ', ?_, f', fun k k0 k3 => by rw [q' k k0 k3, cO k, yq_c 12 ea k], by rw [b', cB, yb_c 12 ea eb]⟩
  have e14 : p_X8_liveYear_14 r P τ = some (0, τ') := by
    unfold p_X8_liveYear_14
    simp only [nx_eq]
    have z0 : ((0 : Nat) : Int) = 0 := rfl
    rw [z0] at e2 e'
    rw [e1, e2, e']
  unfold p_X8_liveYear
  rw [isP]
  simp only [bnd_some]
  rcases pc with rfl | ⟨rfl, _⟩
  · rw [if_pos (by decide)]
    exact e14
  · rw [if_neg (by decide)]
    exact e14
