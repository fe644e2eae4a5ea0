/-! reading a text: the program's reader -/
abbrev lt_ (b : Int) : Prop := 97 ≤ b ∧ b ≤ 122
abbrev fg_ (b : Int) : Prop := 48 ≤ b ∧ b ≤ 57
/-- blanks from e to p -/
def SK (T : Int → Int) (L e p : Int) : Prop := (e ≤ p ∧ p ≤ L) ∧ (∀ i, e ≤ i → i < p → T i = 32) ∧ (p = L ∨ ¬ T p = 32)
/-- a run of P from p to q -/
def RN (P : Int → Prop) (T : Int → Int) (L p q : Int) : Prop := (p ≤ q ∧ q ≤ L) ∧ (∀ i, p ≤ i → i < q → P (T i)) ∧ (q = L ∨ ¬ P (T q))
theorem SK.un {T : Int → Int} {L e p p' : Int} (h : SK T L e p) (g : SK T L e p') : p = p' := by
  obtain ⟨h1, h2, h3⟩ := h
  obtain ⟨g1, g2, g3⟩ := g
  rcases (by omega : p < p' ∨ p = p' ∨ p' < p) with q | q | q
  · have := g2 p h1.1 q
    rcases h3 with h3 | h3
    · omega
    · exact absurd this h3
  · exact q
  · have := h2 p' g1.1 q
    rcases g3 with g3 | g3
    · omega
    · exact absurd this g3
theorem RN.un {P : Int → Prop} {T : Int → Int} {L p q q' : Int} (h : RN P T L p q) (g : RN P T L p q') : q = q' := by
  obtain ⟨h1, h2, h3⟩ := h
  obtain ⟨g1, g2, g3⟩ := g
  rcases (by omega : q < q' ∨ q = q' ∨ q' < q) with z | z | z
  · have := g2 q h1.1 z
    rcases h3 with h3 | h3
    · omega
    · exact absurd this h3
  · exact z
  · have := h2 q' g1.1 z
    rcases g3 with g3 | g3
    · omega
    · exact absurd this g3
def nv (T : Int → Int) (p : Int) : Nat → Int
  | 0 => 0
  | n + 1 => nv T p n * 10 + T (p + n) - 48
def TXx (σ : St) (T : Int → Int) (L : Int) : Prop := σ 1 1 = L ∧ (0 ≤ L ∧ L ≤ 300) ∧ ∀ i, 0 ≤ i → i < L → σ 2 i = T i ∧ 0 ≤ T i ∧ T i ≤ 255
def rF (σ σ' : St) : Prop := (∀ k : Int, k ≠ 1 → σ' k = σ k) ∧ ∀ j : Int, (j < 4 ∨ 8 < j) → σ' 1 j = σ 1 j
theorem rF.rf {σ : St} : rF σ σ := ⟨fun _ _ => rfl, fun _ _ => rfl⟩
theorem rF.tr {a b c : St} (h : rF a b) (g : rF b c) : rF a c := ⟨fun k hk => (g.1 k hk).trans (h.1 k hk), fun j hj => (g.2 j hj).trans (h.2 j hj)⟩
theorem rF.tx {σ σ' : St} {T : Int → Int} {L : Int} (h : rF σ σ') (t : TXx σ T L) : TXx σ' T L := by
  unfold TXx
  rw [h.2 1 (by omega), h.1 2 (by decide)]
  exact t
theorem rFs {σ σ' : St} {j v : Int} (hj : 4 ≤ j ∧ j ≤ 8) (e : su σ 1 j v = σ') : rF σ σ' := by
  obtain ⟨σ1, e1, a1, b1, c1⟩ := su_ex σ 1 j v
  have q : σ' = σ1 := e.symm.trans e1
  subst q
  exact ⟨fun k hk => a1 k hk, fun i hi => c1 i (by omega)⟩
/-- the token in hand -/
def TO (σ : St) (T : Int → Int) (L p : Int) : Prop := σ 1 5 = p ∧ (0 ≤ p ∧ p ≤ L) ∧ (p = L ∨ ¬ T p = 32) ∧ ((p = L ∧ σ 1 4 = 0 ∧ σ 1 6 = L) ∨ (p < L ∧ lt_ (T p) ∧ σ 1 4 = 1 ∧ RN lt_ T L p (σ 1 6)) ∨ (p < L ∧ fg_ (T p) ∧ σ 1 4 = 2 ∧ RN fg_ T L p (σ 1 6) ∧ σ 1 7 = σ 1 6 - p ∧ (σ 1 7 ≤ 3 → σ 1 8 = nv T p (σ 1 6 - p).toNat)) ∨ (p < L ∧ T p = 59 ∧ σ 1 4 = 3 ∧ σ 1 6 = p + 1) ∨ (p < L ∧ ¬ lt_ (T p) ∧ ¬ fg_ (T p) ∧ ¬ T p = 59 ∧ σ 1 4 = 4 ∧ σ 1 6 = p + 1))
theorem TO.e {σ : St} {T : Int → Int} {L p : Int} (h : TO σ T L p) : p ≤ σ 1 6 ∧ σ 1 6 ≤ L ∧ (p < L → p < σ 1 6) := by
  obtain ⟨_, h2, _, h⟩ := h
  rcases h with ⟨a, b, c⟩ | ⟨a, b, c, d⟩ | ⟨a, b, c, d, e⟩ | ⟨a, b, c, d⟩ | ⟨a, b, c, d, e, f⟩
  · omega
  · have d1 := d.1
    refine ⟨d1.1, d1.2, fun _ => ?_⟩
    rcases d.2.2 with z | z
    · omega
    · rcases (by omega : p < σ 1 6 ∨ σ 1 6 = p) with y | y
      · exact y
      · rw [y] at z; exact absurd b z
  · have d1 := d.1
    refine ⟨d1.1, d1.2, fun _ => ?_⟩
    rcases d.2.2 with z | z
    · omega
    · rcases (by omega : p < σ 1 6 ∨ σ 1 6 = p) with y | y
      · exact y
      · rw [y] at z; exact absurd b z
  · omega
  · omega
theorem X_isLetter {b : Int} (hb : 0 ≤ b ∧ b ≤ 255) (σ : St) : p_X4_isLetter b σ = some (if lt_ b then 1 else 0, σ) := by
  unfold p_X4_isLetter
  rw [zm_eq (a := b) (by omega) (by omega)]
  by_cases c : b < 97
  · rw [if_pos c, if_neg (by omega)]
  · rw [if_neg c]
    by_cases d : 122 < b
    · rw [if_pos d, if_neg (by omega)]
    · rw [if_neg d, if_pos (by omega)]
theorem X_isFigure {b : Int} (hb : 0 ≤ b ∧ b ≤ 255) (σ : St) : p_X4_isFigure b σ = some (if fg_ b then 1 else 0, σ) := by
  unfold p_X4_isFigure
  rw [zm_eq (a := b) (by omega) (by omega)]
  by_cases c : b < 48
  · rw [if_pos c, if_neg (by omega)]
  · rw [if_neg c]
    by_cases d : 57 < b
    · rw [if_pos d, if_neg (by omega)]
    · rw [if_neg d, if_pos (by omega)]
theorem c11 : (1 : Int) + 1 = 2 := rfl
theorem X_passLetters {T : Int → Int} {L p : Int} : ∀ (d f : Nat) (σ : St), TXx σ T L → (0 ≤ p ∧ p ≤ σ 1 6) → σ 1 6 ≤ L → L - σ 1 6 ≤ d → d < f → (∀ i, p ≤ i → i < σ 1 6 → lt_ (T i)) → ∃ σ', p_X4_passLetters_0 f 1 σ = some (0, σ') ∧ rF σ σ' ∧ (∀ j : Int, j ≠ 6 → σ' 1 j = σ 1 j) ∧ RN lt_ T L p (σ' 1 6) := by
  intro d
  induction d with
  | zero =>
    intro f σ tx hp hL hd hf hl
    obtain ⟨f, rfl⟩ := Nat.exists_eq_succ_of_ne_zero (by omega : f ≠ 0)
    have t2 := tx.2.1
    refine ⟨σ, ?_, rF.rf, fun _ _ => rfl, ⟨hp.2, hL⟩, hl, Or.inl (by omega)⟩
    show p_X4_passLetters_0b (p_X4_passLetters_0 f) 1 σ = _
    unfold p_X4_passLetters_0b
    rw [tx.1, zm_eq (a := L) (by omega) (by omega), zm_eq (a := σ 1 6) (by omega) (by omega), if_pos (by omega)]
  | succ d ih =>
    intro f σ tx hp hL hd hf hl
    obtain ⟨f, rfl⟩ := Nat.exists_eq_succ_of_ne_zero (by omega : f ≠ 0)
    have t2 := tx.2.1
    by_cases cL : L ≤ σ 1 6
    · refine ⟨σ, ?_, rF.rf, fun _ _ => rfl, ⟨hp.2, hL⟩, hl, Or.inl (by omega)⟩
      show p_X4_passLetters_0b (p_X4_passLetters_0 f) 1 σ = _
      unfold p_X4_passLetters_0b
      rw [tx.1, zm_eq (a := L) (by omega) (by omega), zm_eq (a := σ 1 6) (by omega) (by omega), if_pos (by omega)]
    · obtain ⟨t3, t4⟩ := tx.2.2 (σ 1 6) (by omega) (by omega)
      by_cases cl : lt_ (T (σ 1 6))
      · obtain ⟨σ1, e1, a1, b1, c1⟩ := su_ex σ 1 6 (σ 1 6 + 1)
        have f1 := rFs (j := 6) (by decide) e1
        obtain ⟨σ', e', f', g', r'⟩ := ih f σ1 (f1.tx tx) (by omega) (by omega) (by omega) (by omega) (fun i i0 i1 => by
          by_cases e : i = σ 1 6
          · rw [e]; exact cl
          · exact hl i i0 (by omega))
        refine ⟨σ', ?_, f1.tr f', fun j hj => by rw [g' j hj, c1 j hj], r'⟩
        refine Eq.trans ?_ e'
        show p_X4_passLetters_0b (p_X4_passLetters_0 f) 1 σ = _
        unfold p_X4_passLetters_0b
        rw [tx.1, zm_eq (a := L) (by omega) (by omega), zm_eq (a := σ 1 6) (by omega) (by omega), if_neg (by omega), gd_pos (by omega), c11, t3, X_isLetter t4, if_pos cl]
        simp only [bnd_some, zm1n, if_false]
        rw [nx_eq, e1]
      · refine ⟨σ, ?_, rF.rf, fun _ _ => rfl, ⟨hp.2, hL⟩, hl, Or.inr cl⟩
        show p_X4_passLetters_0b (p_X4_passLetters_0 f) 1 σ = _
        unfold p_X4_passLetters_0b
        rw [tx.1, zm_eq (a := L) (by omega) (by omega), zm_eq (a := σ 1 6) (by omega) (by omega), if_neg (by omega), gd_pos (by omega), c11, t3, X_isLetter t4, if_neg cl]
        simp only [bnd_some, zm0t, if_true]
theorem nv_bd {T : Int → Int} {p : Int} : ∀ n : Nat, n ≤ 3 → (∀ i, p ≤ i → i < p + n → fg_ (T i)) → 0 ≤ nv T p n ∧ nv T p n ≤ 999
  | 0, _, _ => by show (0 : Int) ≤ 0 ∧ (0 : Int) ≤ 999; decide
  | 1, _, h => by
    have h0 := h p (by omega) (by omega)
    show 0 ≤ (0 : Int) * 10 + T (p + ((0 : Nat) : Int)) - 48 ∧ (0 : Int) * 10 + T (p + ((0 : Nat) : Int)) - 48 ≤ 999
    rw [show p + ((0 : Nat) : Int) = p by omega]
    omega
  | 2, _, h => by
    have h0 := h p (by omega) (by omega)
    have h1 := h (p + 1) (by omega) (by omega)
    show 0 ≤ ((0 : Int) * 10 + T (p + ((0 : Nat) : Int)) - 48) * 10 + T (p + ((1 : Nat) : Int)) - 48 ∧ ((0 : Int) * 10 + T (p + ((0 : Nat) : Int)) - 48) * 10 + T (p + ((1 : Nat) : Int)) - 48 ≤ 999
    rw [show p + ((0 : Nat) : Int) = p by omega, show p + ((1 : Nat) : Int) = p + 1 by omega]
    omega
  | 3, _, h => by
    have h0 := h p (by omega) (by omega)
    have h1 := h (p + 1) (by omega) (by omega)
    have h2 := h (p + 2) (by omega) (by omega)
    show 0 ≤ (((0 : Int) * 10 + T (p + ((0 : Nat) : Int)) - 48) * 10 + T (p + ((1 : Nat) : Int)) - 48) * 10 + T (p + ((2 : Nat) : Int)) - 48 ∧ (((0 : Int) * 10 + T (p + ((0 : Nat) : Int)) - 48) * 10 + T (p + ((1 : Nat) : Int)) - 48) * 10 + T (p + ((2 : Nat) : Int)) - 48 ≤ 999
    rw [show p + ((0 : Nat) : Int) = p by omega, show p + ((1 : Nat) : Int) = p + 1 by omega, show p + ((2 : Nat) : Int) = p + 2 by omega]
    omega
  | n + 4, h, _ => by omega
theorem X_passFigures10 {T : Int → Int} {L p : Int} : ∀ (d f n : Nat) (σ : St), TXx σ T L → 0 ≤ p → σ 1 6 = p + n → σ 1 6 ≤ L → L - σ 1 6 ≤ d → d < f → (∀ i, p ≤ i → i < σ 1 6 → fg_ (T i)) → σ 1 7 = n → (n ≤ 3 → σ 1 8 = nv T p n) → (0 ≤ σ 1 8 ∧ σ 1 8 ≤ 999) → ∃ σ', p_X4_passFigures_10 f 1 σ = some (0, σ') ∧ rF σ σ' ∧ (∀ j : Int, j < 6 → σ' 1 j = σ 1 j) ∧ RN fg_ T L p (σ' 1 6) ∧ σ' 1 7 = σ' 1 6 - p ∧ (σ' 1 7 ≤ 3 → σ' 1 8 = nv T p (σ' 1 6 - p).toNat) := by
  intro d
  induction d with
  | zero =>
    intro f n σ tx hp hn hL hd hf hl h7 h8 hb
    obtain ⟨f, rfl⟩ := Nat.exists_eq_succ_of_ne_zero (by omega : f ≠ 0)
    have t2 := tx.2.1
    refine ⟨σ, ?_, rF.rf, fun _ _ => rfl, ⟨⟨by omega, hL⟩, hl, Or.inl (by omega)⟩, by omega, fun q => ?_⟩
    · show p_X4_passFigures_10b (p_X4_passFigures_10 f) 1 σ = _
      unfold p_X4_passFigures_10b
      rw [tx.1, zm_eq (a := L) (by omega) (by omega), zm_eq (a := σ 1 6) (by omega) (by omega), if_pos (by omega)]
    · rw [show (σ 1 6 - p).toNat = n by omega]
      exact h8 (by omega)
  | succ d ih =>
    intro f n σ tx hp hn hL hd hf hl h7 h8 hb
    obtain ⟨f, rfl⟩ := Nat.exists_eq_succ_of_ne_zero (by omega : f ≠ 0)
    have t2 := tx.2.1
    have fin : (q : σ 1 6 = L ∨ ¬ fg_ (T (σ 1 6))) → (e : p_X4_passFigures_10 (f + 1) 1 σ = some (0, σ)) → ∃ σ', p_X4_passFigures_10 (f + 1) 1 σ = some (0, σ') ∧ rF σ σ' ∧ (∀ j : Int, j < 6 → σ' 1 j = σ 1 j) ∧ RN fg_ T L p (σ' 1 6) ∧ σ' 1 7 = σ' 1 6 - p ∧ (σ' 1 7 ≤ 3 → σ' 1 8 = nv T p (σ' 1 6 - p).toNat) := fun q e => ⟨σ, e, rF.rf, fun _ _ => rfl, ⟨⟨by omega, hL⟩, hl, q⟩, by omega, fun z => by
      rw [show (σ 1 6 - p).toNat = n by omega]
      exact h8 (by omega)⟩
    by_cases cL : L ≤ σ 1 6
    · refine fin (Or.inl (by omega)) ?_
      show p_X4_passFigures_10b (p_X4_passFigures_10 f) 1 σ = _
      unfold p_X4_passFigures_10b
      rw [tx.1, zm_eq (a := L) (by omega) (by omega), zm_eq (a := σ 1 6) (by omega) (by omega), if_pos (by omega)]
    · obtain ⟨t3, t4⟩ := tx.2.2 (σ 1 6) (by omega) (by omega)
      by_cases cl : fg_ (T (σ 1 6))
      · obtain ⟨σ1, e1, a1, b1, c1⟩ := su_ex σ 1 7 (σ 1 7 + 1)
        have f1 := rFs (j := 7) (by decide) e1
        obtain ⟨V, hV⟩ : ∃ V, V = (if n < 3 then σ 1 8 * 10 + T (σ 1 6) - 48 else σ 1 8) := ⟨_, rfl⟩
        obtain ⟨σ2, e2, a2, b2, c2⟩ := su_ex σ1 1 8 V
        have f2 := rFs (j := 8) (by decide) e2
        obtain ⟨σ3, e3, a3, b3, c3⟩ := su_ex σ2 1 6 (σ2 1 6 + 1)
        have f3 := rFs (j := 6) (by decide) e3
        have s6 : σ2 1 6 = σ 1 6 := by rw [c2 6 (by decide), c1 6 (by decide)]
        have s6' : σ3 1 6 = σ 1 6 + 1 := by rw [b3, s6]
        have f123 := (f1.tr f2).tr f3
        have hl' : ∀ i, p ≤ i → i < σ3 1 6 → fg_ (T i) := fun i i0 i1 => by
          by_cases e : i = σ 1 6
          · rw [e]; exact cl
          · exact hl i i0 (by omega)
        have v8 : σ3 1 8 = V := by rw [c3 8 (by decide), b2]
        have nvS : n < 3 → V = nv T p (n + 1) := fun q => by
          rw [hV, if_pos q, h8 (by omega), hn]
          rfl
        have vb : 0 ≤ V ∧ V ≤ 999 := by
          by_cases q : n < 3
          · rw [nvS q]
            exact nv_bd (n + 1) (by omega) (fun i i0 i1 => hl' i i0 (by omega))
          · rw [hV, if_neg q]; exact hb
        obtain ⟨σ', e', f', g', r'⟩ := ih f (n + 1) σ3 (f123.tx tx) hp (by omega) (by omega) (by omega) (by omega) hl' (by rw [c3 7 (by decide), c2 7 (by decide), b1, h7]; omega) (fun q => by rw [v8]; exact nvS (by omega)) (by rw [v8]; exact vb)
        refine ⟨σ', ?_, f123.tr f', fun j hj => by rw [g' j hj, c3 j (by omega), c2 j (by omega), c1 j (by omega)], r'⟩
        refine Eq.trans ?_ e'
        show p_X4_passFigures_10b (p_X4_passFigures_10 f) 1 σ = _
        have z7 : σ1 1 7 = n + 1 := by rw [b1, h7]
        have z6 : σ1 1 6 = σ 1 6 := c1 6 (by decide)
        have z8 : σ1 1 8 = σ 1 8 := c1 8 (by decide)
        have z2 : σ1 2 = σ 2 := a1 2 (by decide)
        unfold p_X4_passFigures_10b p_X4_passFigures_82
        rw [tx.1, zm_eq (a := L) (by omega) (by omega), zm_eq (a := σ 1 6) (by omega) (by omega), if_neg (by omega), gd_pos (by omega), c11, t3, X_isFigure t4, if_pos cl]
        simp only [bnd_some, zm1n, if_false]
        rw [nx_eq, e1, z7, z6, z8, z2, zm_eq (a := (n : Int) + 1) (by omega) (by omega), zm_eq (a := σ 1 6) (by omega) (by omega), t3]
        by_cases q : n < 3
        · rw [if_pos (by omega), gd_pos (by omega), show σ 1 8 * 10 + T (σ 1 6) - 48 = V by rw [hV, if_pos q], nx_eq, e2, nx_eq, e3]
        · rw [if_neg (by omega), show σ 1 8 = V by rw [hV, if_neg q], nx_eq, e2, nx_eq, e3]
      · refine fin (Or.inr cl) ?_
        show p_X4_passFigures_10b (p_X4_passFigures_10 f) 1 σ = _
        unfold p_X4_passFigures_10b
        rw [tx.1, zm_eq (a := L) (by omega) (by omega), zm_eq (a := σ 1 6) (by omega) (by omega), if_neg (by omega), gd_pos (by omega), c11, t3, X_isFigure t4, if_neg cl]
        simp only [bnd_some, zm0t, if_true]
theorem X_step38 {σ : St} {T : Int → Int} {L p : Int} (tx : TXx σ T L) (h6 : σ 1 6 = p) (hp : 0 ≤ p ∧ p ≤ L) (hn : p = L ∨ ¬ T p = 32) : ∃ σ', p_X4_step_38 1 σ = some (0, σ') ∧ rF σ σ' ∧ TO σ' T L p := by
  have t2 := tx.2.1
  obtain ⟨σ1, e1, a1, b1, c1⟩ := su_ex σ 1 5 p
  have f1 := rFs (j := 5) (by decide) e1
  have tx1 := f1.tx tx
  have z6 : σ1 1 6 = p := by rw [c1 6 (by decide), h6]
  have zz6 : zm (σ1 1 6) = p := by rw [z6]; exact zm_eq (by omega) (by omega)
  by_cases cL : p < L
  · obtain ⟨t3, t4⟩ := tx1.2.2 p hp.1 cL
    by_cases cl : lt_ (T p)
    · obtain ⟨σ2, e2, a2, b2, c2⟩ := su_ex σ1 1 4 1
      have f2 := rFs (j := 4) (by decide) e2
      have y6 : σ2 1 6 = p := by rw [c2 6 (by decide), z6]
      obtain ⟨σ3, e3, f3, g3, r3⟩ := X_passLetters (p := p) 300 FU σ2 (f2.tx tx1) (by omega) (by omega) (by omega) (FU_gt (by omega)) (fun i i0 i1 => by omega)
      refine ⟨σ3, ?_, (f1.tr f2).tr f3, by rw [g3 5 (by decide), c2 5 (by decide), b1], hp, hn, Or.inr (Or.inl ⟨cL, cl, by rw [g3 4 (by decide), b2], r3⟩)⟩
      unfold p_X4_step_38 p_X4_passLetters
      rw [h6, nx_eq, e1, z6, tx1.1, zm_eq (a := p) (by omega) (by omega), zm_eq (a := L) (by omega) (by omega), if_pos cL, gd_pos (by omega), c11, t3, X_isLetter t4, if_pos cl]
      simp only [bnd_some, zm1n, if_false]
      rw [nx_eq, e2, e3]
      simp only [bnd_some]
    · by_cases cf : fg_ (T p)
      · obtain ⟨σ2, e2, a2, b2, c2⟩ := su_ex σ1 1 4 2
        have f2 := rFs (j := 4) (by decide) e2
        obtain ⟨σ3, e3, a3, b3, c3⟩ := su_ex σ2 1 7 0
        have f3 := rFs (j := 7) (by decide) e3
        obtain ⟨σ4, e4, a4, b4, c4⟩ := su_ex σ3 1 8 0
        have f4 := rFs (j := 8) (by decide) e4
        have y6 : σ4 1 6 = p := by rw [c4 6 (by decide), c3 6 (by decide), c2 6 (by decide), z6]
        have f14 := ((f1.tr f2).tr f3).tr f4
        obtain ⟨σ5, e5, f5, g5, r5, s5, v5⟩ := X_passFigures10 (p := p) 300 FU 0 σ4 (f14.tx tx) hp.1 (by omega) (by omega) (by omega) (FU_gt (by omega)) (fun i i0 i1 => by omega) (by rw [c4 7 (by decide), b3]; rfl) (fun _ => by rw [b4]; rfl) (by rw [b4]; decide)
        refine ⟨σ5, ?_, f14.tr f5, by rw [g5 5 (by decide), c4 5 (by decide), c3 5 (by decide), c2 5 (by decide), b1], hp, hn, Or.inr (Or.inr (Or.inl ⟨cL, cf, by rw [g5 4 (by decide), c4 4 (by decide), c3 4 (by decide), b2], r5, s5, v5⟩))⟩
        unfold p_X4_step_38 p_X4_passFigures
        rw [h6, nx_eq, e1, z6, tx1.1, zm_eq (a := p) (by omega) (by omega), zm_eq (a := L) (by omega) (by omega), if_pos cL, gd_pos (by omega), c11, t3, X_isLetter t4, if_neg cl]
        simp only [bnd_some, zm0t, if_true]
        rw [gd_pos (by rw [zz6]; omega), zz6, t3, X_isFigure t4, if_pos cf]
        simp only [bnd_some, zm1n, if_false]
        rw [nx_eq, e2, nx_eq, e3, nx_eq, e4, e5]
        simp only [bnd_some]
      · have key : ∀ v : Int, ∃ σ', p_X4_step_139 1 1 v σ1 = some (0, σ') ∧ rF σ σ' ∧ σ' 1 5 = p ∧ σ' 1 4 = v ∧ σ' 1 6 = p + 1 := fun v => by
          obtain ⟨σ2, e2, a2, b2, c2⟩ := su_ex σ1 1 4 v
          have f2 := rFs (j := 4) (by decide) e2
          obtain ⟨σ3, e3, a3, b3, c3⟩ := su_ex σ2 1 6 (σ2 1 6 + 1)
          have f3 := rFs (j := 6) (by decide) e3
          refine ⟨σ3, ?_, (f1.tr f2).tr f3, by rw [c3 5 (by decide), c2 5 (by decide), b1], by rw [c3 4 (by decide), b2], by rw [b3, c2 6 (by decide), z6]⟩
          unfold p_X4_step_139
          rw [nx_eq, e2, nx_eq, e3]
        have pre : p_X4_step_38 1 σ = if zm (T p) = 59 then p_X4_step_139 1 1 3 σ1 else p_X4_step_139 1 1 4 σ1 := by
          unfold p_X4_step_38
          rw [h6, nx_eq, e1, z6, tx1.1, zm_eq (a := p) (by omega) (by omega), zm_eq (a := L) (by omega) (by omega), if_pos cL, gd_pos (by omega), c11, t3, X_isLetter t4, if_neg cl]
          simp only [bnd_some, zm0t, if_true]
          rw [gd_pos (by rw [zz6]; omega), zz6, t3, X_isFigure t4, if_neg cf]
          simp only [bnd_some, zm0t, if_true]
          rw [gd_pos (by rw [zz6]; omega), zz6, t3]
        rw [zm_eq (a := T p) (by omega) (by omega)] at pre
        by_cases cs : T p = 59
        · rw [if_pos cs] at pre
          obtain ⟨σ', e', f', g5, g4, g6⟩ := key 3
          exact ⟨σ', pre.trans e', f', g5, hp, hn, Or.inr (Or.inr (Or.inr (Or.inl ⟨cL, cs, g4, g6⟩)))⟩
        · rw [if_neg cs] at pre
          obtain ⟨σ', e', f', g5, g4, g6⟩ := key 4
          exact ⟨σ', pre.trans e', f', g5, hp, hn, Or.inr (Or.inr (Or.inr (Or.inr ⟨cL, cl, cf, cs, g4, g6⟩)))⟩
  · obtain ⟨σ2, e2, a2, b2, c2⟩ := su_ex σ1 1 4 0
    have f2 := rFs (j := 4) (by decide) e2
    refine ⟨σ2, ?_, f1.tr f2, by rw [c2 5 (by decide), b1], hp, hn, Or.inl ⟨by omega, b2, by rw [c2 6 (by decide), z6]; omega⟩⟩
    unfold p_X4_step_38
    rw [h6, nx_eq, e1, z6, tx1.1, zm_eq (a := p) (by omega) (by omega), zm_eq (a := L) (by omega) (by omega), if_neg cL, nx_eq, e2]
theorem X_step0 {T : Int → Int} {L e0 : Int} : ∀ (d f : Nat) (σ : St), TXx σ T L → (0 ≤ e0 ∧ e0 ≤ σ 1 6) → σ 1 6 ≤ L → L - σ 1 6 ≤ d → d < f → (∀ i, e0 ≤ i → i < σ 1 6 → T i = 32) → ∃ σ' p, p_X4_step_0 f 1 σ = some (0, σ') ∧ rF σ σ' ∧ SK T L e0 p ∧ TO σ' T L p := by
  intro d
  induction d with
  | zero =>
    intro f σ tx he hL hd hf hs
    obtain ⟨f, rfl⟩ := Nat.exists_eq_succ_of_ne_zero (by omega : f ≠ 0)
    have t2 := tx.2.1
    obtain ⟨σ', x, r, t⟩ := X_step38 tx (p := σ 1 6) rfl (by omega) (Or.inl (by omega))
    refine ⟨σ', σ 1 6, ?_, r, ⟨⟨he.2, hL⟩, hs, Or.inl (by omega)⟩, t⟩
    show p_X4_step_0b (p_X4_step_0 f) 1 σ = _
    unfold p_X4_step_0b
    rw [tx.1, zm_eq (a := L) (by omega) (by omega), zm_eq (a := σ 1 6) (by omega) (by omega), if_pos (by omega)]
    exact x
  | succ d ih =>
    intro f σ tx he hL hd hf hs
    obtain ⟨f, rfl⟩ := Nat.exists_eq_succ_of_ne_zero (by omega : f ≠ 0)
    have t2 := tx.2.1
    by_cases cL : L ≤ σ 1 6
    · obtain ⟨σ', x, r, t⟩ := X_step38 tx (p := σ 1 6) rfl (by omega) (Or.inl (by omega))
      refine ⟨σ', σ 1 6, ?_, r, ⟨⟨he.2, hL⟩, hs, Or.inl (by omega)⟩, t⟩
      show p_X4_step_0b (p_X4_step_0 f) 1 σ = _
      unfold p_X4_step_0b
      rw [tx.1, zm_eq (a := L) (by omega) (by omega), zm_eq (a := σ 1 6) (by omega) (by omega), if_pos (by omega)]
      exact x
    · obtain ⟨t3, t4⟩ := tx.2.2 (σ 1 6) (by omega) (by omega)
      by_cases cs : T (σ 1 6) = 32
      · obtain ⟨σ1, e1, a1, b1, c1⟩ := su_ex σ 1 6 (σ 1 6 + 1)
        have f1 := rFs (j := 6) (by decide) e1
        obtain ⟨σ', p, e', f', r'⟩ := ih f σ1 (f1.tx tx) (by omega) (by omega) (by omega) (by omega) (fun i i0 i1 => by
          by_cases e : i = σ 1 6
          · rw [e]; exact cs
          · exact hs i i0 (by omega))
        refine ⟨σ', p, ?_, f1.tr f', r'⟩
        refine Eq.trans ?_ e'
        show p_X4_step_0b (p_X4_step_0 f) 1 σ = _
        unfold p_X4_step_0b
        rw [tx.1, zm_eq (a := L) (by omega) (by omega), zm_eq (a := σ 1 6) (by omega) (by omega), if_neg (by omega), gd_pos (by omega), c11, t3, zm_eq (a := T (σ 1 6)) (by omega) (by omega), if_pos cs, nx_eq, e1]
      · obtain ⟨σ', x, r, t⟩ := X_step38 tx (p := σ 1 6) rfl (by omega) (Or.inr cs)
        refine ⟨σ', σ 1 6, ?_, r, ⟨⟨he.2, hL⟩, hs, Or.inr cs⟩, t⟩
        show p_X4_step_0b (p_X4_step_0 f) 1 σ = _
        unfold p_X4_step_0b
        rw [tx.1, zm_eq (a := L) (by omega) (by omega), zm_eq (a := σ 1 6) (by omega) (by omega), if_neg (by omega), gd_pos (by omega), c11, t3, zm_eq (a := T (σ 1 6)) (by omega) (by omega), if_neg cs]
        exact x
theorem X_step {σ : St} {T : Int → Int} {L : Int} (tx : TXx σ T L) (he : 0 ≤ σ 1 6 ∧ σ 1 6 ≤ L) : ∃ σ' p, p_X4_step 1 σ = some (0, σ') ∧ rF σ σ' ∧ SK T L (σ 1 6) p ∧ TO σ' T L p := by
  have t2 := tx.2.1
  obtain ⟨σ', p, e, r⟩ := X_step0 (e0 := σ 1 6) 300 FU σ tx (by omega) he.2 (by omega) (FU_gt (by omega)) (fun i i0 i1 => by omega)
  exact ⟨σ', p, e, r⟩
