/-! both readers, side by side -/
def TXm (τ : St) (T : Int → Int) (L : Int) : Prop := τ 0 14 = L ∧ (0 ≤ L ∧ L ≤ 300) ∧ ∀ i, 0 ≤ i → i < L → τ 13 i = T i ∧ 0 ≤ T i ∧ T i ≤ 255
def mF (τ τ' : St) : Prop := (∀ q : Int, q ≠ 0 → τ' q = τ q) ∧ ∀ j : Int, (j < 15 ∨ 20 < j) → τ' 0 j = τ 0 j
theorem mF.rf {τ : St} : mF τ τ := ⟨fun _ _ => rfl, fun _ _ => rfl⟩
theorem mF.tr {a b c : St} (h : mF a b) (g : mF b c) : mF a c := ⟨fun k hk => (g.1 k hk).trans (h.1 k hk), fun j hj => (g.2 j hj).trans (h.2 j hj)⟩
theorem mF.tx {τ τ' : St} {T : Int → Int} {L : Int} (h : mF τ τ') (t : TXm τ T L) : TXm τ' T L := by
  unfold TXm
  rw [h.2 14 (by omega), h.1 13 (by decide)]
  exact t
theorem mFs {τ τ' : St} {j v : Int} (hj : 15 ≤ j ∧ j ≤ 20) (e : su τ 0 j v = τ') : mF τ τ' := by
  obtain ⟨σ1, e1, a1, b1, c1⟩ := su_ex τ 0 j v
  have q : τ' = σ1 := e.symm.trans e1
  subst q
  exact ⟨fun k hk => a1 k hk, fun i hi => c1 i (by omega)⟩
theorem M_here {T : Int → Int} {L e p : Int} (sk : SK T L e p) : ∀ (d f : Nat) (τ : St), TXm τ T L → 0 ≤ e → (e ≤ τ 0 16 ∧ τ 0 16 ≤ p) → p - τ 0 16 ≤ d → d < f → ∃ τ', p_X8_here_0 f τ = some (if p = L then -1 else T p, τ') ∧ (∀ q : Int, q ≠ 0 → τ' q = τ q) ∧ (∀ j : Int, j ≠ 16 → τ' 0 j = τ 0 j) ∧ τ' 0 16 = p := by
  obtain ⟨s1, s2, s3⟩ := sk
  have base : ∀ (f : Nat) (τ : St), TXm τ T L → 0 ≤ e → τ 0 16 = p → ∃ τ', p_X8_here_0 (f + 1) τ = some (if p = L then -1 else T p, τ') ∧ (∀ q : Int, q ≠ 0 → τ' q = τ q) ∧ (∀ j : Int, j ≠ 16 → τ' 0 j = τ 0 j) ∧ τ' 0 16 = p := by
    intro f τ tx he h16
    have t2 := tx.2.1
    refine ⟨τ, ?_, fun _ _ => rfl, fun _ _ => rfl, h16⟩
    show p_X8_here_0b (p_X8_here_0 f) τ = _
    unfold p_X8_here_0b p_X8_here_38
    rw [tx.1, h16, zm_eq (a := L) (by omega) (by omega), zm_eq (a := p) (by omega) (by omega)]
    by_cases c : p = L
    · rw [if_pos (by omega), if_pos (by omega), if_pos c]
    · obtain ⟨t3, t4⟩ := tx.2.2 p (by omega) (by omega)
      have n32 : ¬ T p = 32 := by
        rcases s3 with z | z
        · exact absurd z c
        · exact z
      rw [if_neg (show ¬ L ≤ p by omega), gd_pos (by omega), t3, zm_eq (a := T p) (by omega) (by omega), if_neg n32, if_neg (show ¬ L ≤ p by omega), if_neg c]
      try rw [gd_pos (by omega)]
  intro d
  induction d with
  | zero =>
    intro f τ tx he h16 hd hf
    obtain ⟨f, rfl⟩ := Nat.exists_eq_succ_of_ne_zero (by omega : f ≠ 0)
    exact base f τ tx he (by omega)
  | succ d ih =>
    intro f τ tx he h16 hd hf
    obtain ⟨f, rfl⟩ := Nat.exists_eq_succ_of_ne_zero (by omega : f ≠ 0)
    by_cases z : τ 0 16 = p
    · exact base f τ tx he z
    · have t2 := tx.2.1
      obtain ⟨t3, t4⟩ := tx.2.2 (τ 0 16) (by omega) (by omega)
      obtain ⟨τ1, e1, a1, b1, c1⟩ := su_ex τ 0 16 (τ 0 16 + 1)
      have f1 := mFs (j := 16) (by decide) e1
      obtain ⟨τ', e', a', b', c'⟩ := ih f τ1 (f1.tx tx) he (by omega) (by omega) (by omega)
      refine ⟨τ', ?_, fun q hq => by rw [a' q hq, a1 q hq], fun j hj => by rw [b' j hj, c1 j hj], c'⟩
      refine Eq.trans ?_ e'
      show p_X8_here_0b (p_X8_here_0 f) τ = _
      unfold p_X8_here_0b
      rw [tx.1, zm_eq (a := L) (by omega) (by omega), zm_eq (a := τ 0 16) (by omega) (by omega), if_neg (by omega), gd_pos (by omega), t3, s2 (τ 0 16) (by omega) (by omega), if_pos (by decide), nx_eq, e1]
theorem M_hr {τ : St} {T : Int → Int} {L p : Int} (tx : TXm τ T L) (h0 : 0 ≤ τ 0 16) (sk : SK T L (τ 0 16) p) : ∃ τ', p_X8_here τ = some (if p = L then -1 else T p, τ') ∧ (∀ q : Int, q ≠ 0 → τ' q = τ q) ∧ (∀ j : Int, j ≠ 16 → τ' 0 j = τ 0 j) ∧ τ' 0 16 = p := by
  have s1 := sk.1
  have t2 := tx.2.1
  exact M_here sk 300 FU τ tx h0 (by omega) (by omega) (FU_gt (by omega))
theorem SK.at {T : Int → Int} {L e p : Int} (sk : SK T L e p) : SK T L p p := ⟨⟨Int.le_refl _, sk.1.2⟩, fun i a b => by omega, sk.2.2⟩
theorem M_rw18 {T : Int → Int} {L p q : Int} (rn : RN lt_ T L p q) (hp : 0 ≤ p) : ∀ (d f n : Nat) (τ : St), TXm τ T L → p + n + d = q → d < f → τ 0 18 = p + n → τ 0 17 = sd T p n → ∃ τ', p_X8_readWord_18 f τ = some (0, τ') ∧ (∀ q : Int, q ≠ 0 → τ' q = τ q) ∧ (∀ j : Int, j ≠ 17 → j ≠ 18 → τ' 0 j = τ 0 j) ∧ τ' 0 18 = q ∧ τ' 0 17 = sd T p (q - p).toNat := by
  obtain ⟨s1, s2, s3⟩ := rn
  intro d
  induction d with
  | zero =>
    intro f n τ tx hn hf h18 h17
    obtain ⟨f, rfl⟩ := Nat.exists_eq_succ_of_ne_zero (by omega : f ≠ 0)
    have t2 := tx.2.1
    refine ⟨τ, ?_, fun _ _ => rfl, fun _ _ _ => rfl, by omega, by rw [h17, show (q - p).toNat = n by omega]⟩
    show p_X8_readWord_18b (p_X8_readWord_18 f) τ = _
    unfold p_X8_readWord_18b
    rw [tx.1, h18, zm_eq (a := L) (by omega) (by omega), zm_eq (a := p + (n : Int)) (by omega) (by omega)]
    by_cases c : L ≤ p + n
    · rw [if_pos c]
    · obtain ⟨t3, t4⟩ := tx.2.2 (p + n) (by omega) (by omega)
      have nl : ¬ lt_ (T (p + n)) := by
        rcases s3 with z | z
        · omega
        · rw [show p + (n : Int) = q by omega]; exact z
      rw [if_neg c, gd_pos (by omega), t3, M_wi ⟨by omega, by omega⟩ ⟨by decide, by decide⟩ ⟨by decide, by decide⟩, if_neg nl]
      simp only [bnd_some, zm0t, if_true]
  | succ d ih =>
    intro f n τ tx hn hf h18 h17
    obtain ⟨f, rfl⟩ := Nat.exists_eq_succ_of_ne_zero (by omega : f ≠ 0)
    have t2 := tx.2.1
    obtain ⟨t3, t4⟩ := tx.2.2 (p + n) (by omega) (by omega)
    have yl := s2 (p + n) (by omega) (by omega)
    have sb := sd_bd (T := T) (p := p) n (fun i a b => s2 i a (by omega))
    obtain ⟨τ1, e1, a1, b1, c1⟩ := su_ex τ 0 17 (sd T p (n + 1))
    have f1 := mFs (j := 17) (by decide) e1
    obtain ⟨τ2, e2, a2, b2, c2⟩ := su_ex τ1 0 18 (τ1 0 18 + 1)
    have f2 := mFs (j := 18) (by decide) e2
    obtain ⟨τ', e', a', b', c'⟩ := ih f (n + 1) τ2 ((f1.tr f2).tx tx) (by omega) (by omega) (by rw [b2, c1 18 (by decide), h18]; omega) (by rw [c2 17 (by decide), b1])
    refine ⟨τ', ?_, fun k hk => by rw [a' k hk, a2 k hk, a1 k hk], fun j j1 j2 => by rw [b' j j1 j2, c2 j j2, c1 j j1], c'⟩
    refine Eq.trans ?_ e'
    show p_X8_readWord_18b (p_X8_readWord_18 f) τ = _
    have zz := zcmp_gt (sd T p n) 1000000000000
    rw [zl_eq (a := sd T p n) (by omega) (by omega), zl_eq (a := 1000000000000) (by decide) (by decide)] at zz
    unfold p_X8_readWord_18b p_X8_readWord_92
    rw [tx.1, h18, zm_eq (a := L) (by omega) (by omega), zm_eq (a := p + (n : Int)) (by omega) (by omega), if_neg (by omega), gd_pos (by omega), t3, M_wi ⟨by omega, by omega⟩ ⟨by decide, by decide⟩ ⟨by decide, by decide⟩, if_pos yl]
    simp only [bnd_some, zm1n, if_false]
    have z18 : zm (τ 0 18) = p + n := by rw [h18]; exact zm_eq (by omega) (by omega)
    rw [h17, gd_pos (by rw [z18]; omega), z18, t3, zm_eq (a := T (p + n)) (by omega) (by omega), nx_eq, nx_eq, nx_eq, nx_eq]
    by_cases c : sd T p n ≤ 1000000000000
    · have es : sd T p (n + 1) = 27 * sd T p n + T (p + n) - 96 := by
        show (if sd T p n ≤ 1000000000000 then 27 * sd T p n + T (p + n) - 96 else 2000000000000) = _
        rw [if_pos c]
      rw [if_pos (by
        by_cases z : 0 < zm (zcmp (sd T p n) 1000000000000)
        · have := zz.1 z; omega
        · omega), ← es, e1, e2]
    · have es : sd T p (n + 1) = 2000000000000 := by
        show (if sd T p n ≤ 1000000000000 then 27 * sd T p n + T (p + n) - 96 else 2000000000000) = _
        rw [if_neg c]
      rw [if_neg (by have := zz.2 (by omega); omega), ← es, e1, e2]
theorem M_readWord {τ : St} {T : Int → Int} {L p q : Int} (tx : TXm τ T L) (h0 : 0 ≤ τ 0 16) (sk : SK T L (τ 0 16) p) (rn : RN lt_ T L p q) : ∃ τ', p_X8_readWord τ = some (0, τ') ∧ mF τ τ' ∧ τ' 0 15 = τ 0 15 ∧ τ' 0 16 = p ∧ τ' 0 18 = q ∧ τ' 0 17 = sd T p (q - p).toNat := by
  have s1 := sk.1
  have t2 := tx.2.1
  have r1 := rn.1
  obtain ⟨τ1, e1, a1, b1, c1⟩ := M_hr tx h0 sk
  have f1 : mF τ τ1 := ⟨a1, fun j hj => b1 j (by omega)⟩
  obtain ⟨τ2, e2, a2, b2, c2⟩ := su_ex τ1 0 17 0
  have f2 := mFs (j := 17) (by decide) e2
  obtain ⟨τ3, e3, a3, b3, c3⟩ := su_ex τ2 0 18 (τ2 0 16)
  have f3 := mFs (j := 18) (by decide) e3
  have h16 : τ2 0 16 = p := by rw [c2 16 (by decide), c1]
  have f13 := (f1.tr f2).tr f3
  obtain ⟨τ4, e4, a4, b4, c4, d4⟩ := M_rw18 rn (by omega) (q - p).toNat FU 0 τ3 (f13.tx tx) (by omega) (FU_gt (by omega)) (by rw [b3, h16]; omega) (by rw [c3 17 (by decide), b2]; rfl)
  refine ⟨τ4, ?_, f13.tr ⟨a4, fun j hj => b4 j (by omega) (by omega)⟩, by rw [b4 15 (by decide) (by decide), c3 15 (by decide), c2 15 (by decide), b1 15 (by decide)], by rw [b4 16 (by decide) (by decide), c3 16 (by decide), h16], c4, d4⟩
  unfold p_X8_readWord
  rw [e1]
  simp only [bnd_some]
  rw [nx_eq, e2, nx_eq, e3]
  exact e4
/-! numbers -/
def mv (T : Int → Int) (p : Int) : Nat → Int
  | 0 => 0
  | n + 1 => if mv T p n ≤ 10000 then 10 * mv T p n + T (p + n) - 48 else mv T p n
theorem mv_bd {T : Int → Int} {p : Int} : ∀ n : Nat, (∀ i, p ≤ i → i < p + n → fg_ (T i)) → 0 ≤ mv T p n ∧ mv T p n ≤ 100009
  | 0, _ => by show (0 : Int) ≤ 0 ∧ (0 : Int) ≤ 100009; decide
  | n + 1, h => by
    have i := mv_bd n (fun i a b => h i a (by omega))
    have t := h (p + n) (by omega) (by omega)
    show 0 ≤ (if mv T p n ≤ 10000 then 10 * mv T p n + T (p + n) - 48 else mv T p n) ∧ (if mv T p n ≤ 10000 then 10 * mv T p n + T (p + n) - 48 else mv T p n) ≤ 100009
    by_cases c : mv T p n ≤ 10000
    · rw [if_pos c]; omega
    · rw [if_neg c]; omega
theorem mv_nv {T : Int → Int} {p : Int} : ∀ n : Nat, n ≤ 3 → (∀ i, p ≤ i → i < p + n → fg_ (T i)) → mv T p n = nv T p n
  | 0, _, _ => rfl
  | n + 1, hn, h => by
    have i := mv_nv n (by omega) (fun i a b => h i a (by omega))
    have b := nv_bd (T := T) (p := p) n (by omega) (fun i a b => h i a (by omega))
    show (if mv T p n ≤ 10000 then 10 * mv T p n + T (p + n) - 48 else mv T p n) = nv T p n * 10 + T (p + n) - 48
    rw [if_pos (by omega), i]
    omega
theorem M_tn42 {T : Int → Int} {L p q lo hi : Int} (rn : RN fg_ T L p q) (hp : 0 ≤ p) : ∀ (d f n : Nat) (τ : St), TXm τ T L → p + n + d = q → d < f → τ 0 16 = p + n → τ 0 19 = mv T p n → ∃ τ', p_X8_takeNumber_42 f lo hi τ = p_X8_takeNumber_129 lo hi τ' ∧ (∀ q : Int, q ≠ 0 → τ' q = τ q) ∧ (∀ j : Int, j ≠ 16 → j ≠ 19 → τ' 0 j = τ 0 j) ∧ τ' 0 16 = q ∧ τ' 0 19 = mv T p (q - p).toNat := by
  obtain ⟨s1, s2, s3⟩ := rn
  intro d
  induction d with
  | zero =>
    intro f n τ tx hn hf h16 h19
    obtain ⟨f, rfl⟩ := Nat.exists_eq_succ_of_ne_zero (by omega : f ≠ 0)
    have t2 := tx.2.1
    refine ⟨τ, ?_, fun _ _ => rfl, fun _ _ _ => rfl, by omega, by rw [h19, show (q - p).toNat = n by omega]⟩
    show p_X8_takeNumber_42b (p_X8_takeNumber_42 f) lo hi τ = _
    unfold p_X8_takeNumber_42b
    rw [tx.1, h16, zm_eq (a := L) (by omega) (by omega), zm_eq (a := p + (n : Int)) (by omega) (by omega)]
    by_cases c : L ≤ p + n
    · rw [if_pos c]
    · obtain ⟨t3, t4⟩ := tx.2.2 (p + n) (by omega) (by omega)
      have nl : ¬ fg_ (T (p + n)) := by
        rcases s3 with z | z
        · omega
        · rw [show p + (n : Int) = q by omega]; exact z
      rw [if_neg c, gd_pos (by omega), t3, M_wi ⟨by omega, by omega⟩ ⟨by decide, by decide⟩ ⟨by decide, by decide⟩, if_neg nl]
      simp only [bnd_some, zm0t, if_true]
  | succ d ih =>
    intro f n τ tx hn hf h16 h19
    obtain ⟨f, rfl⟩ := Nat.exists_eq_succ_of_ne_zero (by omega : f ≠ 0)
    have t2 := tx.2.1
    obtain ⟨t3, t4⟩ := tx.2.2 (p + n) (by omega) (by omega)
    have yl := s2 (p + n) (by omega) (by omega)
    have sb := mv_bd (T := T) (p := p) n (fun i a b => s2 i a (by omega))
    obtain ⟨τ1, e1, a1, b1, c1⟩ := su_ex τ 0 19 (mv T p (n + 1))
    have f1 := mFs (j := 19) (by decide) e1
    obtain ⟨τ2, e2, a2, b2, c2⟩ := su_ex τ1 0 16 (τ1 0 16 + 1)
    have f2 := mFs (j := 16) (by decide) e2
    obtain ⟨τ', e', a', b', c'⟩ := ih f (n + 1) τ2 ((f1.tr f2).tx tx) (by omega) (by omega) (by rw [b2, c1 16 (by decide), h16]; omega) (by rw [c2 19 (by decide), b1])
    refine ⟨τ', ?_, fun k hk => by rw [a' k hk, a2 k hk, a1 k hk], fun j j1 j2 => by rw [b' j j1 j2, c2 j j1, c1 j j2], c'⟩
    refine Eq.trans ?_ e'
    show p_X8_takeNumber_42b (p_X8_takeNumber_42 f) lo hi τ = _
    unfold p_X8_takeNumber_42b p_X8_takeNumber_113
    rw [tx.1, h16, zm_eq (a := L) (by omega) (by omega), zm_eq (a := p + (n : Int)) (by omega) (by omega), if_neg (by omega), gd_pos (by omega), t3, M_wi ⟨by omega, by omega⟩ ⟨by decide, by decide⟩ ⟨by decide, by decide⟩, if_pos yl]
    simp only [bnd_some, zm1n, if_false]
    have z16 : zm (τ 0 16) = p + n := by rw [h16]; exact zm_eq (by omega) (by omega)
    rw [h19, gd_pos (by rw [z16]; omega), z16, t3, zm_eq (a := mv T p n) (by omega) (by omega), nx_eq, nx_eq, nx_eq, nx_eq]
    by_cases c : mv T p n ≤ 10000
    · have es : mv T p (n + 1) = 10 * mv T p n + T (p + n) - 48 := by
        show (if mv T p n ≤ 10000 then 10 * mv T p n + T (p + n) - 48 else mv T p n) = _
        rw [if_pos c]
      rw [if_pos c, ← es, e1, e2]
    · have es : mv T p (n + 1) = mv T p n := by
        show (if mv T p n ≤ 10000 then 10 * mv T p n + T (p + n) - 48 else mv T p n) = _
        rw [if_neg c]
      rw [if_neg c, ← es, e1, e2]
/-- the token in hand is the one that the reference comes to next -/
def PS (σ τ : St) (T : Int → Int) (L p : Int) : Prop := TXx σ T L ∧ TXm τ T L ∧ TO σ T L p ∧ 0 ≤ τ 0 16 ∧ SK T L (τ 0 16) p
/-- the first fault -/
def FA (σ σ' : St) (c pos : Int) : Prop := (∀ k : Int, k ≠ 1 → σ' k = σ k) ∧ (∀ j : Int, j ≠ 2 → j ≠ 3 → σ' 1 j = σ 1 j) ∧ σ' 1 2 = c ∧ σ' 1 3 = pos
theorem X_fail {σ : St} (h : σ 1 2 = 0) (c pos : Int) : ∃ σ', p_X4_fail 1 c pos σ = some (0, σ') ∧ FA σ σ' c pos := by
  obtain ⟨σ1, e1, a1, b1, c1⟩ := su_ex σ 1 2 c
  obtain ⟨σ2, e2, a2, b2, c2⟩ := su_ex σ1 1 3 pos
  refine ⟨σ2, ?_, fun k hk => by rw [a2 k hk, a1 k hk], fun j j1 j2 => by rw [c2 j j2, c1 j j1], by rw [c2 2 (by decide), b1], b2⟩
  unfold p_X4_fail
  rw [h, if_pos (by decide), nx_eq, e1, nx_eq, e2]
abbrev FT (σ : St) : Prop := 1 ≤ σ 1 2 ∧ σ 1 2 ≤ 5
theorem X_failF {σ : St} (h : FT σ) (c pos : Int) : p_X4_fail 1 c pos σ = some (0, σ) := by
  unfold p_X4_fail
  rw [zm_eq (a := σ 1 2) (by omega) (by omega), if_neg (by omega)]
theorem FA.to {σ σ' : St} {c pos : Int} {T : Int → Int} {L p : Int} (f : FA σ σ' c pos) (h : TO σ T L p) : TO σ' T L p := by
  unfold TO
  rw [f.2.1 4 (by decide) (by decide), f.2.1 5 (by decide) (by decide), f.2.1 6 (by decide) (by decide), f.2.1 7 (by decide) (by decide), f.2.1 8 (by decide) (by decide)]
  exact h
theorem FA.tx {σ σ' : St} {c pos : Int} {T : Int → Int} {L : Int} (f : FA σ σ' c pos) (h : TXx σ T L) : TXx σ' T L := by
  unfold TXx
  rw [f.2.1 1 (by decide) (by decide), f.1 2 (by decide)]
  exact h
theorem fg_run {σ : St} {T : Int → Int} {L p : Int} (rn : RN fg_ T L p (σ 1 6)) (h7 : σ 1 7 = σ 1 6 - p) (h3 : σ 1 7 ≤ 3) : 0 ≤ nv T p (σ 1 6 - p).toNat ∧ nv T p (σ 1 6 - p).toNat ≤ 999 := by
  have r1 := rn.1
  exact nv_bd _ (by omega) (fun i a b => rn.2.1 i a (by omega))
/-- a number after a fault -/
theorem X_numberF {σ : St} {T : Int → Int} {L p lo hi : Int} (tx : TXx σ T L) (to : TO σ T L p) (h : FT σ) (hl : i32 lo) (hh : i32 hi) : p_X4_number 1 lo hi σ = some (lo, σ) := by
  have t2 := tx.2.1
  have e49 : p_X4_number_49 1 lo σ = some (lo, σ) := by
    unfold p_X4_number_49
    rw [zm_eq (a := σ 1 2) (by omega) (by omega), if_neg (by omega)]
  have e40 : p_X4_number_40 1 lo σ = some (lo, σ) := by
    unfold p_X4_number_40
    rw [X_failF h]
    simp only [bnd_some]
    exact e49
  obtain ⟨o1, o2, o3, o4⟩ := to
  unfold p_X4_number
  by_cases k2 : σ 1 4 = 2
  · rw [k2, if_pos (by decide)]
    rcases o4 with ⟨a, b, c⟩ | ⟨a, b, c, d⟩ | ⟨a, b, c, d, e, f⟩ | ⟨a, b, c, d⟩ | ⟨a, b, c, d, e, f⟩
    · omega
    · omega
    · have d1 := d.1
      rw [zm_eq (a := σ 1 7) (by omega) (by omega)]
      by_cases z : 3 < σ 1 7
      · rw [if_pos z]; exact e40
      · have nb := fg_run d e (by omega)
        have v8 := f (by omega)
        rw [if_neg z, X_isOut ⟨by omega, by omega⟩ hl hh]
        by_cases y : lo ≤ σ 1 8 ∧ σ 1 8 ≤ hi
        · rw [if_pos y]
          simp only [bnd_some, zm0t, if_true]
          exact e49
        · rw [if_neg y]
          simp only [bnd_some, zm1n, if_false]
          exact e40
    · omega
    · omega
  · have kb : 0 ≤ σ 1 4 ∧ σ 1 4 ≤ 4 := by
      rcases o4 with ⟨a, b, c⟩ | ⟨a, b, c, d⟩ | ⟨a, b, c, d, e, f⟩ | ⟨a, b, c, d⟩ | ⟨a, b, c, d, e, f⟩ <;> omega
    rw [zm_eq (a := σ 1 4) (by omega) (by omega), if_neg k2, X_failF h]
    simp only [bnd_some]
    exact e49
theorem X_closeF {σ : St} (h : FT σ) : p_X4_closeClause 1 σ = some (0, σ) := by
  have e17 : p_X4_closeClause_17 1 σ = some (0, σ) := by
    unfold p_X4_closeClause_17
    rw [zm_eq (a := σ 1 2) (by omega) (by omega), if_neg (by omega)]
  unfold p_X4_closeClause
  rw [X_failF h]
  simp only [bnd_some]
  rw [e17]
  by_cases z : zm (σ 1 4) = 3
  · rw [if_pos z]
  · rw [if_neg z]
theorem num_lock {σ τ : St} {T : Int → Int} {L p lo hi : Int} (ps : PS σ τ T L p) (nf : σ 1 2 = 0) (hl : 0 ≤ lo ∧ lo ≤ 1000) (hh : 0 ≤ hi ∧ hi ≤ 999) : ∃ (v : Int) (σ' : St) (c : Int) (τ' : St), p_X4_number 1 lo hi σ = some (v, σ') ∧ p_X8_takeNumber lo hi τ = some (c, τ') ∧ mF τ τ' ∧ ((c = 0 ∧ (lo ≤ v ∧ v ≤ hi) ∧ τ' 0 19 = v ∧ τ' 0 20 = p ∧ τ' 0 15 = τ 0 15 ∧ ∃ p', p < p' ∧ rF σ σ' ∧ PS σ' τ' T L p') ∨ ((c = 1 ∨ c = 2) ∧ v = lo ∧ FA σ σ' c p ∧ τ' 0 15 = p)) := by
  obtain ⟨tx, tm, to, h0, sk⟩ := ps
  have t2 := tx.2.1
  have s1 := sk.1
  obtain ⟨τ1, e1, a1, b1, c1⟩ := M_hr tm h0 sk
  have f1 : mF τ τ1 := ⟨a1, fun j hj => b1 j (by omega)⟩
  have il : i32 lo := ⟨by omega, by omega⟩
  have ih : i32 hi := ⟨by omega, by omega⟩
  obtain ⟨o1, o2, o3, o4⟩ := id to
  by_cases cf : p < L ∧ fg_ (T p)
  · have third : σ 1 4 = 2 ∧ RN fg_ T L p (σ 1 6) ∧ σ 1 7 = σ 1 6 - p ∧ (σ 1 7 ≤ 3 → σ 1 8 = nv T p (σ 1 6 - p).toNat) := by
      obtain ⟨cf1, cf2⟩ := cf
      rcases o4 with ⟨a, b, c⟩ | ⟨a, b, c, d⟩ | ⟨a, b, c, d, e, f⟩ | ⟨a, b, c, d⟩ | ⟨a, b, c, d, e, f⟩
      · omega
      · exact absurd b (by unfold lt_; unfold fg_ at cf2; omega)
      · exact ⟨c, d, e, f⟩
      · exact absurd cf2 (by unfold fg_; omega)
      · exact absurd cf2 c
    obtain ⟨k2, rn, h7, h8⟩ := third
    have r1 := rn.1
    obtain ⟨q, hq⟩ : ∃ q, σ 1 6 = q := ⟨_, rfl⟩
    rw [hq] at rn h7 h8 r1
    have qp : p < q := by
      have := to.e.2.2 cf.1
      omega
    obtain ⟨τ2, e2, a2, b2, c2⟩ := su_ex τ1 0 20 (τ1 0 16)
    have f2 := mFs (j := 20) (by decide) e2
    obtain ⟨τ3, e3, a3, b3, c3⟩ := su_ex τ2 0 19 0
    have f3 := mFs (j := 19) (by decide) e3
    have f13 := (f1.tr f2).tr f3
    obtain ⟨τ4, e4, a4, b4, c4, d4⟩ := M_tn42 (lo := lo) (hi := hi) rn o2.1 (q - p).toNat FU 0 τ3 (f13.tx tm) (by omega) (FU_gt (by omega)) (by rw [c3 16 (by decide), c2 16 (by decide), c1]; omega) (by rw [b3]; rfl)
    have f4 : mF τ τ4 := f13.tr ⟨a4, fun j hj => b4 j (by omega) (by omega)⟩
    have g20 : τ4 0 20 = p := by rw [b4 20 (by decide) (by decide), c3 20 (by decide), b2, c1]
    have g15 : τ4 0 15 = τ 0 15 := by rw [b4 15 (by decide) (by decide), c3 15 (by decide), c2 15 (by decide), b1 15 (by decide)]
    have mm : p_X8_takeNumber lo hi τ = p_X8_takeNumber_129 lo hi τ4 := by
      unfold p_X8_takeNumber
      rw [e1]
      simp only [bnd_some]
      rw [if_neg (by omega), M_wi (a := T p) ⟨by have := (tx.2.2 p o2.1 cf.1).2; omega, by have := (tx.2.2 p o2.1 cf.1).2; omega⟩ ⟨by decide, by decide⟩ ⟨by decide, by decide⟩, if_pos cf.2]
      simp only [bnd_some, zm1n, if_false]
      rw [nx_eq, e2, nx_eq, e3]
      exact e4
    have mb := mv_bd (T := T) (p := p) (q - p).toNat (fun i a b => rn.2.1 i a (by omega))
    obtain ⟨τ5, e5, a5, b5, c5⟩ := su_ex τ4 0 15 p
    have f5 : mF τ τ5 := f4.tr (mFs (j := 15) (by decide) e5)
    have m157 : p_X8_takeNumber_157 τ4 = some (2, τ5) := by
      unfold p_X8_takeNumber_157 p_X8_fails
      rw [g20, nx_eq, e5]
      simp only [bnd_some]
    obtain ⟨σ5, x5, F5⟩ := X_fail nf 2 p
    have x40 : p_X4_number_40 1 lo σ = some (lo, σ5) := by
      unfold p_X4_number_40 p_X4_number_49
      rw [o1, x5]
      simp only [bnd_some]
      rw [F5.2.2.1, if_neg (by decide)]
    have xx : p_X4_number 1 lo hi σ = if 3 < q - p then p_X4_number_40 1 lo σ else (Option.bind (p_X7_isOut (σ 1 8) lo hi σ) fun x34 => if zm x34.1 = 0 then (p_X4_number_49 1 lo x34.2) else (p_X4_number_40 1 lo x34.2)) := by
      unfold p_X4_number
      rw [k2, if_pos (by decide), h7, zm_eq (a := q - p) (by omega) (by omega)]
    have mm2 : p_X8_takeNumber_129 lo hi τ4 = if 3 < q - p then p_X8_takeNumber_157 τ4 else (Option.bind (p_X8_within (zm (mv T p (q - p).toNat)) lo hi τ4) fun x151 => if zm x151.1 = 0 then (p_X8_takeNumber_157 x151.2) else (some (0, x151.2))) := by
      unfold p_X8_takeNumber_129
      rw [c4, g20, d4, zm_eq (a := q - p) (by omega) (by omega), zm_eq (a := lo) (by omega) (by omega), zm_eq (a := hi) (by omega) (by omega)]
    by_cases z3 : 3 < q - p
    · rw [if_pos z3] at xx mm2
      exact ⟨lo, σ5, 2, τ5, xx.trans x40, mm.trans (mm2.trans m157), f5, Or.inr ⟨Or.inr rfl, rfl, F5, b5⟩⟩
    · rw [if_neg z3] at xx mm2
      have v8 := h8 (by omega)
      have vm := mv_nv (T := T) (p := p) (q - p).toNat (by omega) (fun i a b => rn.2.1 i a (by omega))
      have nb := nv_bd (T := T) (p := p) (q - p).toNat (by omega) (fun i a b => rn.2.1 i a (by omega))
      rw [v8] at xx
      rw [vm] at mm2 d4
      obtain ⟨V, hV⟩ : ∃ V, nv T p (q - p).toNat = V := ⟨_, rfl⟩
      rw [hV] at xx mm2 nb d4 v8
      rw [X_isOut ⟨by omega, by omega⟩ il ih] at xx
      rw [M_wi ⟨by omega, by omega⟩ (i32_64 il) (i32_64 ih)] at mm2
      by_cases y : lo ≤ V ∧ V ≤ hi
      · rw [if_pos y] at xx mm2
        simp only [bnd_some, zm0t, zm1n, if_true, if_false] at xx mm2
        obtain ⟨σ6, p', x6, r6, sk6, to6⟩ := X_step tx (by omega : 0 ≤ σ 1 6 ∧ σ 1 6 ≤ L)
        rw [hq] at sk6
        have x49 : p_X4_number_49 1 lo σ = some (V, σ6) := by
          unfold p_X4_number_49
          rw [nf, if_pos (by decide), x6, v8]
          simp only [bnd_some]
        refine ⟨V, σ6, 0, τ4, xx.trans x49, mm.trans mm2, f4, Or.inl ⟨rfl, y, d4, g20, g15, p', ?_, r6, r6.tx tx, f4.tx tm, to6, by omega, by rw [c4]; exact sk6⟩⟩
        have := sk6.1
        omega
      · rw [if_neg y] at xx mm2
        simp only [bnd_some, zm0t, zm1n, if_true, if_false] at xx mm2
        exact ⟨lo, σ5, 2, τ5, xx.trans x40, mm.trans (mm2.trans m157), f5, Or.inr ⟨Or.inr rfl, rfl, F5, b5⟩⟩
  · have k2 : σ 1 4 ≠ 2 ∧ 0 ≤ σ 1 4 ∧ σ 1 4 ≤ 4 := by
      rcases o4 with ⟨a, b, c⟩ | ⟨a, b, c, d⟩ | ⟨a, b, c, d, e, f⟩ | ⟨a, b, c, d⟩ | ⟨a, b, c, d, e, f⟩
      · omega
      · omega
      · exact absurd ⟨a, b⟩ cf
      · omega
      · omega
    obtain ⟨σ5, x5, F5⟩ := X_fail nf 1 p
    obtain ⟨τ5, e5, a5, b5, c5⟩ := su_ex τ1 0 15 p
    have f5 : mF τ τ5 := f1.tr (mFs (j := 15) (by decide) e5)
    refine ⟨lo, σ5, 1, τ5, ?_, ?_, f5, Or.inr ⟨Or.inl rfl, rfl, F5, b5⟩⟩
    · unfold p_X4_number p_X4_number_49
      rw [zm_eq (a := σ 1 4) (by omega) (by omega), if_neg k2.1, o1, x5]
      simp only [bnd_some]
      rw [F5.2.2.1, if_neg (by decide)]
    · have nw : ¬ (48 ≤ (if p = L then -1 else T p) ∧ (if p = L then -1 else T p) ≤ 57) := by
        by_cases z : p = L
        · rw [if_pos z]; omega
        · rw [if_neg z]
          exact fun y => cf ⟨by omega, y⟩
      have bb : i32 (if p = L then -1 else T p) := by
        by_cases z : p = L
        · rw [if_pos z]; exact ⟨by decide, by decide⟩
        · rw [if_neg z]
          have := (tx.2.2 p o2.1 (by omega)).2
          exact ⟨by omega, by omega⟩
      unfold p_X8_takeNumber p_X8_fails
      rw [e1]
      simp only [bnd_some]
      rw [M_wi bb ⟨by decide, by decide⟩ ⟨by decide, by decide⟩, if_neg nw]
      simp only [bnd_some, zm0t, if_true]
      rw [c1, nx_eq, e5]
      simp only [bnd_some]
theorem stop_lock {σ τ : St} {T : Int → Int} {L p : Int} (ps : PS σ τ T L p) (nf : σ 1 2 = 0) : ∃ (σ' : St) (c : Int) (τ' : St), p_X4_closeClause 1 σ = some (0, σ') ∧ p_X8_takeStop τ = some (c, τ') ∧ mF τ τ' ∧ ((c = 0 ∧ τ' 0 15 = τ 0 15 ∧ ∃ p', p < p' ∧ rF σ σ' ∧ PS σ' τ' T L p') ∨ (c = 1 ∧ FA σ σ' 1 p ∧ τ' 0 15 = p)) := by
  obtain ⟨tx, tm, to, h0, sk⟩ := ps
  have t2 := tx.2.1
  have s1 := sk.1
  obtain ⟨τ1, e1, a1, b1, c1⟩ := M_hr tm h0 sk
  have f1 : mF τ τ1 := ⟨a1, fun j hj => b1 j (by omega)⟩
  obtain ⟨o1, o2, o3, o4⟩ := id to
  by_cases cf : p < L ∧ T p = 59
  · have fourth : σ 1 4 = 3 ∧ σ 1 6 = p + 1 := by
      obtain ⟨cf1, cf2⟩ := cf
      rcases o4 with ⟨a, b, c⟩ | ⟨a, b, c, d⟩ | ⟨a, b, c, d, e, f⟩ | ⟨a, b, c, d⟩ | ⟨a, b, c, d, e, f⟩
      · omega
      · exact absurd b (by unfold lt_; omega)
      · exact absurd b (by unfold fg_; omega)
      · exact ⟨c, d⟩
      · exact absurd cf2 d
    obtain ⟨k3, h6⟩ := fourth
    obtain ⟨τ2, e2, a2, b2, c2⟩ := su_ex τ1 0 16 (τ1 0 16 + 1)
    have f2 : mF τ τ2 := f1.tr (mFs (j := 16) (by decide) e2)
    have g16 : τ2 0 16 = p + 1 := by rw [b2, c1]
    obtain ⟨σ6, p', x6, r6, sk6, to6⟩ := X_step tx (by omega : 0 ≤ σ 1 6 ∧ σ 1 6 ≤ L)
    rw [h6] at sk6
    refine ⟨σ6, 0, τ2, ?_, ?_, f2, Or.inl ⟨rfl, by rw [c2 15 (by decide), b1 15 (by decide)], p', ?_, r6, r6.tx tx, f2.tx tm, to6, by omega, by rw [g16]; exact sk6⟩⟩
    · unfold p_X4_closeClause p_X4_closeClause_17
      rw [k3, if_pos (by decide), nf, if_pos (by decide), x6]
      simp only [bnd_some]
    · unfold p_X8_takeStop
      rw [e1]
      simp only [bnd_some]
      rw [if_neg (show ¬ p = L by omega), cf.2, if_pos (by decide), nx_eq, e2]
    · have := sk6.1
      omega
  · have k3 : σ 1 4 ≠ 3 ∧ 0 ≤ σ 1 4 ∧ σ 1 4 ≤ 4 := by
      rcases o4 with ⟨a, b, c⟩ | ⟨a, b, c, d⟩ | ⟨a, b, c, d, e, f⟩ | ⟨a, b, c, d⟩ | ⟨a, b, c, d, e, f⟩
      · omega
      · omega
      · omega
      · exact absurd ⟨a, b⟩ cf
      · omega
    obtain ⟨σ5, x5, F5⟩ := X_fail nf 1 p
    obtain ⟨τ5, e5, a5, b5, c5⟩ := su_ex τ1 0 15 p
    have f5 : mF τ τ5 := f1.tr (mFs (j := 15) (by decide) e5)
    refine ⟨σ5, 1, τ5, ?_, ?_, f5, Or.inr ⟨rfl, F5, b5⟩⟩
    · unfold p_X4_closeClause p_X4_closeClause_17
      rw [zm_eq (a := σ 1 4) (by omega) (by omega), if_neg k3.1, o1, x5]
      simp only [bnd_some]
      rw [F5.2.2.1, if_neg (by decide)]
    · have nw : ¬ zm (if p = L then -1 else T p) = 59 := by
        by_cases z : p = L
        · rw [if_pos z]; decide
        · rw [if_neg z, zm_eq (a := T p) (by have := (tx.2.2 p o2.1 (by omega)).2; omega) (by have := (tx.2.2 p o2.1 (by omega)).2; omega)]
          exact fun y => cf ⟨by omega, y⟩
      unfold p_X8_takeStop p_X8_fails
      rw [e1]
      simp only [bnd_some]
      rw [if_neg nw, c1, nx_eq, e5]
      simp only [bnd_some]
