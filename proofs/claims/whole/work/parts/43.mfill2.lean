/-! what is reckoned rests on the tables' rows alone -/
def eqT (τ τ0 : St) : Prop := ∀ q : Int, 1 ≤ q → q ≤ 15 → q ≠ 13 → τ q = τ0 q
theorem eqT.symm {a b : St} (h : eqT a b) : eqT b a := fun q h1 h2 h3 => (h q h1 h2 h3).symm
theorem eqT.trans {a b c : St} (h : eqT a b) (g : eqT b c) : eqT a c := fun q h1 h2 h3 => (h q h1 h2 h3).trans (g q h1 h2 h3)
theorem od_c {a b : St} (h : eqT a b) (s p i : Int) : od a s p i = od b s p i := by
  unfold od
  rw [h 10 (by decide) (by decide) (by decide), h 12 (by decide) (by decide) (by decide)]
theorem nxt_c {a b : St} (h : eqT a b) (q r k : Int) : nxt a q r k = nxt b q r k := by
  unfold nxt
  rw [h 1 (by decide) (by decide) (by decide), h 3 (by decide) (by decide) (by decide), h 4 (by decide) (by decide) (by decide), h 5 (by decide) (by decide) (by decide)]
theorem bea_c {a b : St} (h : eqT a b) (q S : Int) : bea a q S = bea b q S := by
  unfold bea
  rw [h 6 (by decide) (by decide) (by decide)]
theorem brF_c {a b : St} (h : eqT a b) (ru r m : Int) : ∀ (n : Nat) (k : Int), brF a ru r m n k = brF b ru r m n k
  | 0, _ => rfl
  | n + 1, k => by
    unfold brF
    rw [brF_c h ru r m n (k + 1), h 15 (by decide) (by decide) (by decide)]
theorem brc_ {a b : St} (h : eqT a b) (ru r m : Int) : br a ru r m = br b ru r m := by
  unfold br
  rw [brF_c h, h 14 (by decide) (by decide) (by decide)]
theorem by_c {a b : St} (h : eqT a b) (q ru r m k : Int) (g : Int → Int) (S : Int) : by_ a q ru r m k g S = by_ b q ru r m k g S := by
  unfold by_ ask
  rw [brc_ h, bea_c h]
theorem mon_c {a b : St} (h : eqT a b) (s q ru p r m : Int) (g : Int → Int) (k : Int) : mon a s q ru p r m g k = mon b s q ru p r m g k := by
  have e1 : od a s p = od b s p := funext (od_c h s p)
  have e2 : (fun i => od a s p i * by_ a q ru r m k g (a 9 (8 * s + i))) = fun i => od b s p i * by_ b q ru r m k g (b 9 (8 * s + i)) := by
    funext i
    rw [od_c h, by_c h, h 9 (by decide) (by decide) (by decide)]
  unfold mon msum
  rw [e2, e1, h 8 (by decide) (by decide) (by decide)]
theorem mon_g (t : St) (s q ru p r m : Int) {g g' : Int → Int} {k : Int} (hk : 0 ≤ k ∧ k ≤ 3) (hg : ∀ k, 0 ≤ k → k ≤ 3 → g k = g' k) : mon t s q ru p r m g k = mon t s q ru p r m g' k := by
  have e1 := hg k hk.1 hk.2
  have e2 := hg (mo k) (mo_bd hk).1 (mo_bd hk).2
  unfold mon msum by_ ask
  rw [e1, e2]
theorem inM_c {a b : St} (h : eqT a b) (s q ru p r : Int) (c : Int → Int) : ∀ (j : Nat) (k : Int), inM a s q ru p r c j k = inM b s q ru p r c j k
  | 0, k => by show c (nxt a q r k) = c (nxt b q r k); rw [nxt_c h]
  | j + 1, k => by
    show mon a s q ru p r _ (inM a s q ru p r c j) k = mon b s q ru p r _ (inM b s q ru p r c j) k
    rw [mon_c h, funext (inM_c h s q ru p r c j)]
theorem inM_g {t : St} {s q ru p r : Int} (hh : HOK t q) (hr : 0 ≤ r ∧ r < t 1 q) {c c' : Int → Int} (hc : ∀ r, 0 ≤ r → r < t 1 q → c r = c' r) : ∀ (j : Nat) (k : Int), 0 ≤ k → k ≤ 3 → inM t s q ru p r c j k = inM t s q ru p r c' j k
  | 0, k, h0, h3 => hc _ (nxt_bd hh hr ⟨h0, h3⟩).1 (nxt_bd hh hr ⟨h0, h3⟩).2
  | j + 1, k, h0, h3 => mon_g t s q ru p r _ ⟨h0, h3⟩ (fun k h0 h3 => inM_g hh hr hc j k h0 h3)
theorem cst_c {a b : St} (h : eqT a b) (s q ru : Int) : ∀ (n : Nat) (r : Int), cst a s q ru n r = cst b s q ru n r
  | 0, _ => rfl
  | n + 1, r => by
    have e := funext (cst_c h s q ru n)
    show 1000 * a 2 (10 * q + r) + (if pnd a s q ru (cst a s q ru n) r then 1000 * a 11 s + inM a s q ru 1 r (cst a s q ru n) 12 0 else inM a s q ru 0 r (cst a s q ru n) 12 0) = 1000 * b 2 (10 * q + r) + (if pnd b s q ru (cst b s q ru n) r then 1000 * b 11 s + inM b s q ru 1 r (cst b s q ru n) 12 0 else inM b s q ru 0 r (cst b s q ru n) 12 0)
    unfold pnd
    rw [e, inM_c h, inM_c h, h 2 (by decide) (by decide) (by decide), h 11 (by decide) (by decide) (by decide)]
theorem SOK_c {a b : St} (h : eqT a b) {s : Int} (hs : SOK a s) : SOK b s := by
  unfold SOK at *
  rw [← h 8 (by decide) (by decide) (by decide), ← h 9 (by decide) (by decide) (by decide), ← h 10 (by decide) (by decide) (by decide), ← h 11 (by decide) (by decide) (by decide), ← h 12 (by decide) (by decide) (by decide)]
  exact hs
theorem HOK_c {a b : St} (h : eqT a b) {q : Int} (hs : HOK a q) : HOK b q := by
  unfold HOK at *
  rw [← h 1 (by decide) (by decide) (by decide), ← h 2 (by decide) (by decide) (by decide), ← h 4 (by decide) (by decide) (by decide), ← h 5 (by decide) (by decide) (by decide), ← h 6 (by decide) (by decide) (by decide), ← h 7 (by decide) (by decide) (by decide)]
  exact hs
theorem ROK_c {a b : St} (h : eqT a b) {q : Int} (hs : ROK a q) : ROK b q := by
  unfold ROK at *
  rw [← h 14 (by decide) (by decide) (by decide), ← h 15 (by decide) (by decide) (by decide)]
  exact hs
/-! a year filled -/
def FI (τ0 τ : St) (s h ru p y r : Int) (c : Int → Int) (m k : Int) : Prop := (∀ q : Int, q ≠ 17 → τ q = τ0 q) ∧ (∀ i : Int, (i < pl p y r 0 0 ∨ pl p y r 0 0 + 52 ≤ i) → τ 17 i = τ0 17 i) ∧ (∀ m' k' : Int, 0 ≤ m' → m' ≤ 12 → 0 ≤ k' → k' ≤ 3 → (m < m' ∨ (m' = m ∧ k' < k)) → τ 17 (pl p y r m' k') = inM τ0 s h ru p r c (12 - m').toNat k')
theorem FI.T {τ0 τ : St} {s h ru p y r : Int} {c : Int → Int} {m k : Int} (hF : FI τ0 τ s h ru p y r c m k) : eqT τ τ0 := fun q _ h2 _ => hF.1 q (by omega)
theorem FI.MC {τ0 τ : St} {s h ru p y r : Int} {c : Int → Int} {m k : Int} (hF : FI τ0 τ s h ru p y r c m k) (hc : MC τ0 s h ru) : MC τ s h ru := by
  have e0 := hF.1 0 (by decide)
  obtain ⟨h28, h29, h30, hs, hh, hu⟩ := hc
  refine ⟨by rw [e0]; exact h28, by rw [e0]; exact h29, by rw [e0]; exact h30, SOK_c hF.T.symm hs, HOK_c hF.T.symm hh, ?_⟩
  rcases hu with hu | hu
  · exact Or.inl hu
  · exact Or.inr (ROK_c hF.T.symm hu)
theorem FI.put {τ0 τ : St} {s h ru p y r : Int} {c : Int → Int} {m k : Int} (hF : FI τ0 τ s h ru p y r c m k) (hm : 0 ≤ m ∧ m ≤ 12) (hk : 0 ≤ k ∧ k ≤ 3) {v : Int} (hv : v = inM τ0 s h ru p r c (12 - m).toNat k) : FI τ0 (su τ 17 (pl p y r m k) v) s h ru p y r c m (k + 1) := by
  refine ⟨fun q hq => by rw [su_ne τ _ _ hq]; exact hF.1 q hq, fun i hi => ?_, fun m' k' a1 a2 a3 a4 hlt => ?_⟩
  · rw [su_self, up_ne _ _ (by unfold pl at *; omega)]
    exact hF.2.1 i hi
  · rw [su_self]
    by_cases e : m' = m ∧ k' = k
    · obtain ⟨rfl, rfl⟩ := e
      rw [up_self, hv]
    · rw [up_ne _ _ (by unfold pl; omega)]
      exact hF.2.2 m' k' a1 a2 a3 a4 (by omega)
theorem FI.down {τ0 τ : St} {s h ru p y r : Int} {c : Int → Int} {m : Int} (hF : FI τ0 τ s h ru p y r c m 4) : FI τ0 τ s h ru p y r c (m - 1) 0 := ⟨hF.1, hF.2.1, fun m' k' a1 a2 a3 a4 hlt => hF.2.2 m' k' a1 a2 a3 a4 (by omega)⟩
section FY
variable {τ0 : St} {s h ru p y r : Int} {c : Int → Int}
theorem M_fy65 (K57 : Int → Int → Int → Int → St → Option (Int × St)) (hc : MC τ0 s h ru) (hp : p = 0 ∨ (p = 1 ∧ 0 ≤ τ0 11 s)) (hy : 0 ≤ y ∧ y < 30) (hr : 0 ≤ r ∧ r < τ0 1 h) {G : Int} (hG : G ≤ 400000000) (hcb : ∀ r, 0 ≤ r → r < τ0 1 h → 0 ≤ c r ∧ c r ≤ G) {m : Int} (hm : 0 ≤ m ∧ m ≤ 11) : ∀ (d n k : Nat) (τ : St), k + d = 4 → d < n → FI τ0 τ s h ru p y r c m k → ∃ τ', p_X8_fillYear_65 K57 n p y r m k τ = K57 p y r (m + (-1)) τ' ∧ FI τ0 τ' s h ru p y r c m 4 := by
  have hs := hc.2.2.2.1
  have hh := hc.2.2.2.2.1
  have h10 := hh.2.1
  intro d
  induction d with
  | zero =>
    intro n k τ hk hn hF
    obtain ⟨n, rfl⟩ := Nat.exists_eq_succ_of_ne_zero (by omega : n ≠ 0)
    refine ⟨τ, ?_, by have : (k : Int) = 4 := by omega
                      rw [this] at hF; exact hF⟩
    show p_X8_fillYear_65b K57 (p_X8_fillYear_65 K57 n) p y r m k τ = _
    unfold p_X8_fillYear_65b
    rw [zm_eq (a := (k : Int)) (by omega) (by omega), if_pos (by omega)]
  | succ d ih =>
    intro n k τ hk hn hF
    obtain ⟨n, rfl⟩ := Nat.exists_eq_succ_of_ne_zero (by omega : n ≠ 0)
    have hC := hF.MC hc
    have hT := hF.T
    have hp1 : p = 0 ∨ (p = 1 ∧ 0 ≤ τ 11 s) := by rw [hT 11 (by decide) (by decide) (by decide)]; exact hp
    have hg : ∀ k, 0 ≤ k → k ≤ 3 → gAt τ p y r (m + 1) k = inM τ0 s h ru p r c (12 - (m + 1)).toNat k := fun k h0 h3 => hF.2.2 (m + 1) k (by omega) (by omega) h0 h3 (by omega)
    have hgb : ∀ k, 0 ≤ k → k ≤ 3 → 0 ≤ gAt τ p y r (m + 1) k ∧ gAt τ p y r (m + 1) k ≤ 420000000 := by
      intro k h0 h3
      rw [hg k h0 h3]
      have := inM_bd (ru := ru) (c := c) (G := G) hs hh hp hr hcb (12 - (m + 1)).toNat k h0 h3
      omega
    have b2 := pl_bd (p := p) (by omega) hy (r := r) (by omega) (m := m + 1) (k := k) (by omega) (by omega)
    have g2 : 0 ≤ τ 17 (pl p y r (m + 1) k) ∧ τ 17 (pl p y r (m + 1) k) ≤ 420000000 := hgb k (by omega) (by omega)
    have hsc := hC.2.2.2.1
    have hq := sm_od hsc hp1
    show ∃ τ', p_X8_fillYear_65b K57 (p_X8_fillYear_65 K57 n) p y r m k τ = _ ∧ _
    have e1 : p_X8_fillYear_65b K57 (p_X8_fillYear_65 K57 n) p y r m k τ = p_X8_fillYear_89 K57 (p_X8_fillYear_65 K57 n) p y r m k 1000 s p τ := by
      unfold p_X8_fillYear_65b
      rw [zm_eq (a := (k : Int)) (by omega) (by omega), if_neg (by omega), hC.1]
      rcases hp with rfl | ⟨rfl, _⟩
      · rw [if_neg (by decide)]
      · rw [if_pos (by decide)]
    have e2 : p_X8_fillYear_89 K57 (p_X8_fillYear_65 K57 n) p y r m k 1000 s p τ = p_X8_fillYear_65 K57 n p y r m ((k : Int) + 1) (su τ 17 (pl p y r m k) (mon τ s h ru p r m (gAt τ p y r (m + 1)) k)) := by
      unfold p_X8_fillYear_89
      rw [M_sumOdds hsc hp1]
      simp only [Option.bind_some, M_place, nz]
      rw [zm_eq (a := pl p y r (m + 1) k) (by omega) (by omega), gd_pos (by omega), zm_eq (a := sm (od τ s p) (τ 8 s).toNat) (by omega) (by omega), zm_eq (a := τ 17 (pl p y r (m + 1) k)) (by omega) (by omega)]
      have h8 := hsc.2.1
      have := M_fy118 (ru := ru) K57 (p_X8_fillYear_65 K57 n) hC hp1 hy (r := r) (by omega) hm (k := k) (by omega) hgb (τ 8 s).toNat FU 0 (by omega) (FU_gt (by omega))
      rw [← this]
      congr 1
      show (1000 - sm (od τ s p) (τ 8 s).toNat) * τ 17 (pl p y r (m + 1) k) = (1000 - sm (od τ s p) (τ 8 s).toNat) * τ 17 (pl p y r (m + 1) k) + 0
      omega
    have hv : mon τ s h ru p r m (gAt τ p y r (m + 1)) k = inM τ0 s h ru p r c (12 - m).toNat k := by
      rw [mon_c hT, mon_g τ0 s h ru p r m (by omega) hg]
      have e3 : (12 - m).toNat = (12 - (m + 1)).toNat + 1 := by omega
      rw [e3]
      show _ = mon τ0 s h ru p r (11 - (((12 - (m + 1)).toNat : Nat) : Int)) (inM τ0 s h ru p r c (12 - (m + 1)).toNat) k
      have e4 : 11 - (((12 - (m + 1)).toNat : Nat) : Int) = m := by omega
      rw [e4]
    have hF2 := hF.put (by omega) (by omega) hv
    obtain ⟨τ', q1, q2⟩ := ih n (k + 1) _ (by omega) (by omega) hF2
    exact ⟨τ', by rw [e1, e2]; exact q1, q2⟩
theorem M_fy57 (hc : MC τ0 s h ru) (hp : p = 0 ∨ (p = 1 ∧ 0 ≤ τ0 11 s)) (hy : 0 ≤ y ∧ y < 30) (hr : 0 ≤ r ∧ r < τ0 1 h) {G : Int} (hG : G ≤ 400000000) (hcb : ∀ r, 0 ≤ r → r < τ0 1 h → 0 ≤ c r ∧ c r ≤ G) : ∀ (d n : Nat) (m : Int) (τ : St), m + 1 = d → m ≤ 11 → d < n → FI τ0 τ s h ru p y r c m 0 → ∃ τ', p_X8_fillYear_57 n p y r m τ = some (0, τ') ∧ FI τ0 τ' s h ru p y r c (-1) 0 := by
  intro d
  induction d with
  | zero =>
    intro n m τ hm hm11 hn hF
    obtain ⟨n, rfl⟩ := Nat.exists_eq_succ_of_ne_zero (by omega : n ≠ 0)
    refine ⟨τ, ?_, by have : m = -1 := by omega
                      rw [this] at hF; exact hF⟩
    show p_X8_fillYear_57b (p_X8_fillYear_57 n) p y r m τ = _
    unfold p_X8_fillYear_57b
    rw [zm_eq (a := m) (by omega) (by omega), if_pos (by omega)]
  | succ d ih =>
    intro n m τ hm hm11 hn hF
    obtain ⟨n, rfl⟩ := Nat.exists_eq_succ_of_ne_zero (by omega : n ≠ 0)
    obtain ⟨τ1, e1, hF1⟩ := M_fy65 (c := c) (p_X8_fillYear_57 n) hc hp hy hr hG hcb (m := m) (by omega) 4 FU 0 τ (by omega) (FU_gt (by omega)) hF
    obtain ⟨τ2, e2, hF2⟩ := ih n (m + (-1)) τ1 (by omega) (by omega) (by omega) hF1.down
    refine ⟨τ2, ?_, hF2⟩
    show p_X8_fillYear_57b (p_X8_fillYear_57 n) p y r m τ = _
    unfold p_X8_fillYear_57b
    rw [zm_eq (a := m) (by omega) (by omega), if_neg (by omega)]
    exact e1.trans e2
theorem M_fy3 (hc : MC τ0 s h ru) (hp : p = 0 ∨ (p = 1 ∧ 0 ≤ τ0 11 s)) (hy : 0 ≤ y ∧ y < 30) (hr : 0 ≤ r ∧ r < τ0 1 h) {G : Int} (hG : G ≤ 400000000) (hcb : ∀ r, 0 ≤ r → r < τ0 1 h → 0 ≤ c r ∧ c r ≤ G) (h16 : ∀ r, 0 ≤ r → r < τ0 1 h → τ0 16 (10 * (y + 1) + r) = c r) : ∀ (d n k : Nat) (τ : St), k + d = 4 → d < n → FI τ0 τ s h ru p y r c 12 k → ∃ τ', p_X8_fillYear_3 n p y r k τ = some (0, τ') ∧ FI τ0 τ' s h ru p y r c (-1) 0 := by
  have hh := hc.2.2.2.2.1
  have h10 := hh.2.1
  intro d
  induction d with
  | zero =>
    intro n k τ hk hn hF
    obtain ⟨n, rfl⟩ := Nat.exists_eq_succ_of_ne_zero (by omega : n ≠ 0)
    have hk4 : (k : Int) = 4 := by omega
    rw [hk4] at hF
    obtain ⟨τ', e1, hF1⟩ := M_fy57 (c := c) hc hp hy hr hG hcb 12 FU 11 τ (by omega) (by omega) (FU_gt (by omega)) hF.down
    refine ⟨τ', ?_, hF1⟩
    show p_X8_fillYear_3b (p_X8_fillYear_3 n) p y r k τ = _
    unfold p_X8_fillYear_3b
    rw [zm_eq (a := (k : Int)) (by omega) (by omega), if_pos (by omega)]
    exact e1
  | succ d ih =>
    intro n k τ hk hn hF
    obtain ⟨n, rfl⟩ := Nat.exists_eq_succ_of_ne_zero (by omega : n ≠ 0)
    have hC := hF.MC hc
    have hT := hF.T
    have hr1 : 0 ≤ r ∧ r < τ 1 h := by rw [hT 1 (by decide) (by decide) (by decide)]; exact hr
    have hnx := nxt_bd hh hr (k := k) (by omega)
    have b0 := pl_bd (p := p) (by omega) hy (r := r) (by omega) (m := 12) (k := k) (by omega) (by omega)
    have hv : τ 16 (10 * (y + 1) + nxt τ0 h r k) = inM τ0 s h ru p r c (12 - (12 : Int)).toNat k := by
      rw [hF.1 16 (by decide)]
      exact h16 _ hnx.1 hnx.2
    have hF2 := hF.put (by omega) (by omega) hv
    obtain ⟨τ', q1, q2⟩ := ih n (k + 1) _ (by omega) (by omega) hF2
    refine ⟨τ', ?_, q2⟩
    show p_X8_fillYear_3b (p_X8_fillYear_3 n) p y r k τ = _
    unfold p_X8_fillYear_3b
    rw [zm_eq (a := (k : Int)) (by omega) (by omega), if_neg (by omega)]
    simp only [Option.bind_some, M_place, nx]
    rw [hC.2.1, M_nextOf hC.2.2.2.2.1 hr1 (by omega)]
    simp only [Option.bind_some]
    rw [nxt_c hT, zm_eq (a := 10 * (y + 1) + nxt τ0 h r k) (by omega) (by omega), gd_pos (by omega), zm_eq (a := pl p y r 12 k) (by omega) (by omega), gd_pos (by omega)]
    exact q1
/-- fillYear: the year's rows, nothing else -/
theorem M_fillYear (hc : MC τ0 s h ru) (hp : p = 0 ∨ (p = 1 ∧ 0 ≤ τ0 11 s)) (hy : 0 ≤ y ∧ y < 30) (hr : 0 ≤ r ∧ r < τ0 1 h) {G : Int} (hG : G ≤ 400000000) (hcb : ∀ r, 0 ≤ r → r < τ0 1 h → 0 ≤ c r ∧ c r ≤ G) (h16 : ∀ r, 0 ≤ r → r < τ0 1 h → τ0 16 (10 * (y + 1) + r) = c r) : ∃ τ', p_X8_fillYear p y r τ0 = some (0, τ') ∧ FI τ0 τ' s h ru p y r c (-1) 0 :=
  M_fy3 hc hp hy hr hG hcb h16 4 FU 0 τ0 (by omega) (FU_gt (by omega)) ⟨fun _ _ => rfl, fun _ _ => rfl, fun m' k' a1 a2 a3 a4 hlt => by omega⟩
end FY
