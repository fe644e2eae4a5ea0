/-! the clauses of a house -/
theorem HX.m {σ τ τ' : St} {sn : Int} (f : mF τ τ') (h : HX σ τ sn) : HX σ τ' sn := by
  unfold HX
  rw [f.1 1 (by decide), f.1 2 (by decide), f.1 3 (by decide), f.1 4 (by decide), f.1 5 (by decide), f.1 6 (by decide), f.1 7 (by decide), f.2 21 (by omega)]
  exact h
theorem OC.m {σ σ' τ τ1 τ' : St} {T : Int → Int} {L p c sn : Int} (h : OC σ σ' τ1 τ' T L p c sn) (e : τ1 0 15 = τ 0 15) : OC σ σ' τ τ' T L p c sn := by
  rcases h with ⟨w1, w2, w3, w4, w5⟩ | w
  · exact Or.inl ⟨w1, w2, w3, w4.trans e, w5⟩
  · exact Or.inr w
theorem X_goesOn {σ : St} {T : Int → Int} {L p : Int} (to : TO σ T L p) (nf : σ 1 2 = 0) (hp : p < L) : p_X4_goesOn 1 σ = some (1, σ) := by
  have k : 1 ≤ σ 1 4 ∧ σ 1 4 ≤ 4 := by
    rcases to.2.2.2 with ⟨a, b, c⟩ | ⟨a, b, c, d⟩ | ⟨a, b, c, d, e, f⟩ | ⟨a, b, c, d⟩ | ⟨a, b, c, d, e, f⟩ <;> omega
  unfold p_X4_goesOn
  rw [nf, if_pos (by decide), zm_eq (a := σ 1 4) (by omega) (by omega), if_neg (by omega)]
theorem X_goesNot {σ : St} {T : Int → Int} {L : Int} (to : TO σ T L L) (nf : σ 1 2 = 0) : p_X4_goesOn 1 σ = some (0, σ) := by
  have k : σ 1 4 = 0 := by
    rcases to.2.2.2 with ⟨a, b, c⟩ | ⟨a, b, c, d⟩ | ⟨a, b, c, d, e, f⟩ | ⟨a, b, c, d⟩ | ⟨a, b, c, d, e, f⟩ <;> omega
  unfold p_X4_goesOn
  rw [nf, if_pos (by decide), k, if_pos (by decide)]
theorem X_goesF {σ : St} (h : FT σ) : p_X4_goesOn 1 σ = some (0, σ) := by
  unfold p_X4_goesOn
  rw [zm_eq (a := σ 1 2) (by omega) (by omega), if_neg (by omega)]
theorem house_body {σ τ : St} {T : Int → Int} {L p sn : Int} (ps : PS σ τ T L p) (hp : p < L) (nf : σ 1 2 = 0) (hx : HX σ τ sn) : ∃ (σ' : St) (sn' c : Int) (τ' : St), (∀ (K : Int → Int → Int → Int → St → Option (Int × St)) (i : Int), 0 ≤ i → i < 300 → p_X0_readFrom_38b K 7 1 sn i σ = K 7 1 sn' (i + 1) σ') ∧ p_X8_takeHouse τ = some (c, τ') ∧ xH σ σ' ∧ pH τ τ' ∧ OC σ σ' τ τ' T L p c sn' := by
  obtain ⟨tx, tm, to, h0, sk⟩ := ps
  obtain ⟨q, rn, gl, gn⟩ := to.rn
  obtain ⟨τ1, e1, g1, d15, d16, d18, d17⟩ := M_readWord tm h0 sk rn
  obtain ⟨v, ev, alt⟩ := M_houseClause rn d17
  have hx1 := hx.m g1
  have tm1 := g1.tx tm
  have o1 := to.1
  obtain ⟨A0, xA0, A001, iA0⟩ := X_isWord (w := 0) (by decide) tx to rn
  have xb : ∀ (K : Int → Int → Int → Int → St → Option (Int × St)) (i : Int), 0 ≤ i → i < 300 → p_X0_readFrom_38b K 7 1 sn i σ = if A0 = 0 then (Option.bind (p_X0_readStep 7 1 sn σ) fun x72 => K 7 1 x72.1 (i + 1) x72.2) else (Option.bind (p_X0_readRung 7 1 σ) fun x63 => K 7 1 sn (i + 1) x63.2) := fun K i i0 i1 => by
    unfold p_X0_readFrom_38b p_X0_readFrom_76
    rw [zm_eq (a := i) (by omega) (by omega), if_neg (by omega), X_goesOn to nf hp]
    simp only [bnd_some, zm1n, if_false]
    rw [xA0]
    simp only [bnd_some]
    rw [zm_eq (a := A0) (by omega) (by omega)]
  have mt : p_X8_takeHouse τ = if zm v = 0 then (if zm (τ1 1 2) = 10 then (p_X8_takeHouse_52 v 1 τ1) else (p_X8_takeHouse_52 v 0 τ1)) else (if zm v ≤ 0 then (p_X8_takeHouse_52 v 0 τ1) else (if hasb (τ1 0 21) v then p_X8_takeHouse_52 v 1 τ1 else p_X8_takeHouse_52 v 0 τ1)) := by
    unfold p_X8_takeHouse p_X8_takeHouse_51
    rw [e1]
    simp only [bnd_some]
    rw [ev]
    simp only [bnd_some]
    rw [M_has]
    by_cases y : hasb (τ1 0 21) v
    · rw [if_pos y, if_pos y]
      simp only [bnd_some, zm1n, if_false]
    · rw [if_neg y, if_neg y]
      simp only [bnd_some, zm0t, if_true]
  have f3 : ∀ v : Int, 0 ≤ v → v ≤ 4 → ∃ τ', p_X8_takeHouse_52 v 1 τ1 = some (3, τ') ∧ mF τ1 τ' ∧ τ' 0 15 = p := fun v v0 v4 => by
    obtain ⟨τ6, m6, g6, v6⟩ := M_fails τ1 3 (τ1 0 16)
    refine ⟨τ6, ?_, g6, by rw [v6, d16]⟩
    unfold p_X8_takeHouse_52 p_X8_takeHouse_61 p_X8_takeHouse_71
    rw [zm_eq (a := v) (by omega) (by omega), if_neg (by omega), if_neg (by decide), if_pos v0, m6]
    simp only [bnd_some]
  have stepC : ∀ (k : Int) (w : Nat), w < 11 → 0 ≤ k → k ≤ 3 → v = k + 1 → MW T p (q - p) w → cw w ≠ cw 0 → p_X0_stepTold 1 σ = some (k, σ) → ∃ (σ' : St) (sn' c : Int) (τ' : St), (∀ (K : Int → Int → Int → Int → St → Option (Int × St)) (i : Int), 0 ≤ i → i < 300 → p_X0_readFrom_38b K 7 1 sn i σ = K 7 1 sn' (i + 1) σ') ∧ p_X8_takeHouse τ = some (c, τ') ∧ xH σ σ' ∧ pH τ τ' ∧ OC σ σ' τ τ' T L p c sn' := by
    intro k w hw k0 k3 hv mw ne hst
    have a0 : A0 = 0 := by
      rcases A001 with z | z
      · exact z
      · exact absurd (iA0.1 z) (mw.ne hw (by decide) rn ne)
    rw [zm_eq (a := v) (by omega) (by omega), if_neg (by omega), if_neg (by omega), hv] at mt
    have hbit := hx1.2.2.2.2.2.2.2 k k0 k3
    by_cases y : hasb sn k
    · rw [if_pos (hbit.1 y)] at mt
      obtain ⟨τ6, m6, g6, v6⟩ := f3 (k + 1) (by omega) (by omega)
      obtain ⟨σ6, x6, F6⟩ := X_fail nf 3 p
      refine ⟨σ6, sn, 3, τ6, fun K i i0 i1 => ?_, mt.trans m6, F6.h, g1.h.tr g6.h, Or.inr ⟨by decide, F6.2.2.1, by rw [v6]; exact F6.2.2.2⟩⟩
      rw [xb K i i0 i1, if_pos a0]
      unfold p_X0_readStep
      rw [hst]
      simp only [bnd_some]
      rw [zm_eq (a := k) (by omega) (by omega), if_neg (by omega), if_neg y, o1, x6]
      simp only [bnd_some]
    · rw [if_neg (fun z => y (hbit.2 z))] at mt
      obtain ⟨σ6, c6, τ6, x6, m6, fx, fm, oc⟩ := step_body hw ⟨k0, k3⟩ tx tm1 to nf hx1 rn mw d18 hst y
      refine ⟨σ6, _, c6, τ6, fun K i i0 i1 => ?_, mt.trans m6, fx, g1.h.tr fm, oc.m d15⟩
      rw [xb K i i0 i1, if_pos a0, x6]
      simp only [bnd_some]
  obtain ⟨v0, v1, v2, v3, v4, v5, _⟩ := cw_v
  obtain ⟨A2, xA2, A201, iA2⟩ := X_isWord (w := 2) (by decide) tx to rn
  obtain ⟨A3, xA3, A301, iA3⟩ := X_isWord (w := 3) (by decide) tx to rn
  obtain ⟨A4, xA4, A401, iA4⟩ := X_isWord (w := 4) (by decide) tx to rn
  obtain ⟨A5, xA5, A501, iA5⟩ := X_isWord (w := 5) (by decide) tx to rn
  have st : p_X0_stepTold 1 σ = if A2 = 0 then (if A3 = 0 then (if A4 = 0 then (if A5 = 0 then some (-1, σ) else some (3, σ)) else some (2, σ)) else some (1, σ)) else some (0, σ) := by
    unfold p_X0_stepTold
    rw [xA2]
    simp only [bnd_some]
    rw [xA3]
    simp only [bnd_some]
    rw [xA4]
    simp only [bnd_some]
    rw [xA5]
    simp only [bnd_some]
    rw [zm_eq (a := A2) (by omega) (by omega), zm_eq (a := A3) (by omega) (by omega), zm_eq (a := A4) (by omega) (by omega), zm_eq (a := A5) (by omega) (by omega)]
  have no : ∀ (A : Int) (w : Nat), (A = 0 ∨ A = 1) → (A = 1 ↔ MW T p (q - p) w) → ¬ MW T p (q - p) w → A = 0 := fun A w h i n => by
    rcases h with z | z
    · exact z
    · exact absurd (i.1 z) n
  rcases alt with ⟨rfl, m⟩ | ⟨hv, m⟩ | ⟨hv, m⟩ | ⟨hv, m⟩ | ⟨hv, m⟩ | ⟨rfl, n0, n2, n3, n4, n5⟩
  · have a1 : A0 = 1 := iA0.2 m
    rw [if_pos (by decide)] at mt
    have y1 := hx1.1
    rw [zm_eq (a := τ1 1 2) (by omega) (by omega)] at mt
    by_cases y : τ1 1 2 = 10
    · rw [if_pos y] at mt
      obtain ⟨τ6, m6, g6, v6⟩ := f3 0 (by decide) (by decide)
      obtain ⟨σ6, x6, F6⟩ := X_fail nf 3 p
      refine ⟨σ6, sn, 3, τ6, fun K i i0 i1 => ?_, mt.trans m6, F6.h, g1.h.tr g6.h, Or.inr ⟨by decide, F6.2.2.1, by rw [v6]; exact F6.2.2.2⟩⟩
      rw [xb K i i0 i1, if_neg (by omega)]
      unfold p_X0_readRung
      rw [y1.1, zm_eq (a := τ1 1 2) (by omega) (by omega), if_neg (by omega), o1, x6]
      simp only [bnd_some]
    · rw [if_neg y] at mt
      obtain ⟨σ6, c6, τ6, x6, m6, fx, fm, oc⟩ := rung_body tx tm1 to nf hx1 rn m d18 (by omega)
      refine ⟨σ6, sn, c6, τ6, fun K i i0 i1 => ?_, mt.trans m6, fx, g1.h.tr fm, oc.m d15⟩
      rw [xb K i i0 i1, if_neg (by omega), x6]
      simp only [bnd_some]
  · exact stepC 0 2 (by decide) (by decide) (by decide) (by omega) m (by rw [v2, v0]; decide) (by rw [st, if_neg (by have := iA2.2 m; omega)])
  · exact stepC 1 3 (by decide) (by decide) (by decide) (by omega) m (by rw [v3, v0]; decide) (by rw [st, if_pos (no A2 2 A201 iA2 (m.ne (by decide) (by decide) rn (by rw [v3, v2]; decide))), if_neg (by have := iA3.2 m; omega)])
  · exact stepC 2 4 (by decide) (by decide) (by decide) (by omega) m (by rw [v4, v0]; decide) (by rw [st, if_pos (no A2 2 A201 iA2 (m.ne (by decide) (by decide) rn (by rw [v4, v2]; decide))), if_pos (no A3 3 A301 iA3 (m.ne (by decide) (by decide) rn (by rw [v4, v3]; decide))), if_neg (by have := iA4.2 m; omega)])
  · exact stepC 3 5 (by decide) (by decide) (by decide) (by omega) m (by rw [v5, v0]; decide) (by rw [st, if_pos (no A2 2 A201 iA2 (m.ne (by decide) (by decide) rn (by rw [v5, v2]; decide))), if_pos (no A3 3 A301 iA3 (m.ne (by decide) (by decide) rn (by rw [v5, v3]; decide))), if_pos (no A4 4 A401 iA4 (m.ne (by decide) (by decide) rn (by rw [v5, v4]; decide))), if_neg (by have := iA5.2 m; omega)])
  · rw [if_neg (show ¬ zm (-1) = 0 by decide), if_pos (show zm (-1) ≤ 0 by decide)] at mt
    rw [if_pos (no A2 2 A201 iA2 n2), if_pos (no A3 3 A301 iA3 n3), if_pos (no A4 4 A401 iA4 n4), if_pos (no A5 5 A501 iA5 n5)] at st
    obtain ⟨τ6, m6, g6, v6⟩ := M_fails τ1 1 (τ1 0 16)
    obtain ⟨σ6, x6, F6⟩ := X_fail nf 1 p
    refine ⟨σ6, sn, 1, τ6, fun K i i0 i1 => ?_, mt.trans ?_, F6.h, g1.h.tr g6.h, Or.inr ⟨by decide, F6.2.2.1, by rw [v6, d16]; exact F6.2.2.2⟩⟩
    · rw [xb K i i0 i1, if_pos (no A0 0 A001 iA0 n0)]
      unfold p_X0_readStep
      rw [st]
      simp only [bnd_some]
      rw [if_pos (show zm (-1) = -1 by decide), o1, x6]
      simp only [bnd_some]
    · unfold p_X8_takeHouse_52 p_X8_takeHouse_61 p_X8_takeHouse_71
      rw [if_pos (show zm (-1) < 0 by decide), if_neg (show ¬ 0 ≤ zm (-1) by decide), m6]
      simp only [bnd_some]
theorem house_loop {T : Int → Int} {L a : Int} : ∀ (d f n : Nat) (i : Int) (σ τ : St) (sn p : Int), L - p ≤ d → d < f → d < n → 0 ≤ i → i ≤ p → PS σ τ T L p → σ 1 2 = 0 → σ 1 3 = τ 0 15 → HX σ τ sn → ∃ (σ' : St) (c : Int) (τ' : St), p_X0_readFrom_38 f 7 1 sn i σ = some (0, σ') ∧ p_X8_house_72 n a 0 τ = p_X8_house_123 a c τ' ∧ xH σ σ' ∧ pH τ τ' ∧ σ' 1 2 = c ∧ σ' 1 3 = τ' 0 15 ∧ ((c = 0 ∧ (∃ sn', HX σ' τ' sn') ∧ τ' 7 2 < τ' 1 2) ∨ (1 ≤ c ∧ c ≤ 5)) := by
  have fin : ∀ (f n : Nat) (i : Int) (σ τ : St) (sn : Int), 0 ≤ i → i ≤ L → PS σ τ T L L → σ 1 2 = 0 → σ 1 3 = τ 0 15 → HX σ τ sn → ∃ (σ' : St) (c : Int) (τ' : St), p_X0_readFrom_38 (f + 1) 7 1 sn i σ = some (0, σ') ∧ p_X8_house_72 (n + 1) a 0 τ = p_X8_house_123 a c τ' ∧ xH σ σ' ∧ pH τ τ' ∧ σ' 1 2 = c ∧ σ' 1 3 = τ' 0 15 ∧ ((c = 0 ∧ (∃ sn', HX σ' τ' sn') ∧ τ' 7 2 < τ' 1 2) ∨ (1 ≤ c ∧ c ≤ 5)) := by
    intro f n i σ τ sn i0 iL ps nf h3 hx
    obtain ⟨tx, tm, to, h0, sk⟩ := ps
    have t2 := tx.2.1
    obtain ⟨τ1, e1, a1, b1, c1⟩ := M_hr tm h0 sk
    rw [if_pos rfl] at e1
    have g1 : mF τ τ1 := ⟨a1, fun j hj => b1 j (by omega)⟩
    have hx1 := hx.m g1
    have xe : p_X0_readFrom_38 (f + 1) 7 1 sn i σ = p_X0_readFrom_82 7 1 σ := by
      show p_X0_readFrom_38b (p_X0_readFrom_38 f) 7 1 sn i σ = _
      unfold p_X0_readFrom_38b
      rw [zm_eq (a := i) (by omega) (by omega), X_goesNot to nf]
      simp only [bnd_some, zm0t, if_true]
      by_cases z : 300 ≤ i
      · rw [if_pos z]
      · rw [if_neg z]
    have me : p_X8_house_72 (n + 1) a 0 τ = p_X8_house_91 a 0 τ1 := by
      show p_X8_house_72b (p_X8_house_72 n) a 0 τ = _
      unfold p_X8_house_72b
      rw [if_pos (by decide), e1]
      simp only [bnd_some]
      rw [if_pos (by decide)]
    obtain ⟨y1, y2, y3, y4, y5, y6, _⟩ := id hx1
    by_cases y : τ1 7 2 < τ1 1 2
    · refine ⟨σ, 0, τ1, ?_, ?_, ⟨fun _ _ _ _ => rfl, rfl⟩, g1.h, nf, by rw [b1 15 (by decide)]; exact h3, Or.inl ⟨rfl, ⟨sn, hx1⟩, y⟩⟩
      · rw [xe]
        unfold p_X0_readFrom_82
        rw [y1.1, y6.1, zm_eq (a := τ1 1 2) (by omega) (by omega), zm_eq (a := τ1 7 2) (by omega) (by omega), if_neg (by omega), if_pos y]
      · rw [me]
        unfold p_X8_house_91 p_X8_house_122
        rw [if_pos (by decide), zm_eq (a := τ1 1 2) (by omega) (by omega), zm_eq (a := τ1 7 2) (by omega) (by omega), if_pos y]
    · obtain ⟨τ6, m6, g6, v6⟩ := M_fails τ1 5 (τ1 0 14)
      obtain ⟨σ6, x6, F6⟩ := X_fail nf 5 (σ 1 1)
      have x100 : p_X0_readFrom_100 1 σ = some (0, σ6) := by
        unfold p_X0_readFrom_100
        rw [x6]
        simp only [bnd_some]
      refine ⟨σ6, 5, τ6, ?_, ?_, F6.h, g1.h.tr g6.h, F6.2.2.1, by rw [v6, F6.2.2.2, tx.1, b1 14 (by decide), tm.1], Or.inr (by decide)⟩
      · rw [xe]
        unfold p_X0_readFrom_82
        rw [y1.1, y6.1, zm_eq (a := τ1 1 2) (by omega) (by omega), zm_eq (a := τ1 7 2) (by omega) (by omega), x100, if_neg y]
        by_cases z : τ1 1 2 = 0
        · rw [if_pos z]
        · rw [if_neg z]
      · rw [me]
        unfold p_X8_house_91
        rw [if_pos (by decide), zm_eq (a := τ1 1 2) (by omega) (by omega), zm_eq (a := τ1 7 2) (by omega) (by omega), if_neg y, m6]
        simp only [bnd_some]
  intro d
  induction d with
  | zero =>
    intro f n i σ τ sn p hd hf hn i0 ip ps nf h3 hx
    obtain ⟨f, rfl⟩ := Nat.exists_eq_succ_of_ne_zero (by omega : f ≠ 0)
    obtain ⟨n, rfl⟩ := Nat.exists_eq_succ_of_ne_zero (by omega : n ≠ 0)
    have o2 := ps.2.2.1.2.1
    have e : p = L := by omega
    subst e
    exact fin f n i σ τ sn i0 ip ps nf h3 hx
  | succ d ih =>
    intro f n i σ τ sn p hd hf hn i0 ip ps nf h3 hx
    obtain ⟨f, rfl⟩ := Nat.exists_eq_succ_of_ne_zero (by omega : f ≠ 0)
    obtain ⟨n, rfl⟩ := Nat.exists_eq_succ_of_ne_zero (by omega : n ≠ 0)
    have o2 := ps.2.2.1.2.1
    have t2 := ps.1.2.1
    by_cases e : p = L
    · subst e
      exact fin f n i σ τ sn i0 ip ps nf h3 hx
    · obtain ⟨tx, tm, to, h0, sk⟩ := ps
      obtain ⟨τh, eh, ah, bh, ch⟩ := M_hr tm h0 sk
      have mh : mF τ τh := ⟨ah, fun j hj => bh j (by omega)⟩
      have bt := (tx.2.2 p (by omega) (by omega)).2
      obtain ⟨σ2, sn2, c2, τ2, x2, m2, fx2, fm2, oc2⟩ := house_body (σ := σ) (τ := τh) (T := T) (L := L) (p := p) (sn := sn) ⟨tx, mh.tx tm, to, by omega, by rw [ch]; exact sk.at⟩ (by omega) nf (hx.m mh)
      have xe2 : p_X0_readFrom_38 (f + 1) 7 1 sn i σ = p_X0_readFrom_38 f 7 1 sn2 (i + 1) σ2 := x2 (p_X0_readFrom_38 f) i i0 (by omega)
      have me : p_X8_house_72 (n + 1) a 0 τ = p_X8_house_72 n a c2 τ2 := by
        show p_X8_house_72b (p_X8_house_72 n) a 0 τ = _
        unfold p_X8_house_72b
        rw [if_pos (by decide), eh]
        simp only [bnd_some]
        rw [if_neg e, zm_eq (a := T p) (by omega) (by omega), if_neg (by omega), m2]
        simp only [bnd_some]
      have gh : pH τ τh := mh.h
      have oc2' := oc2.m (bh 15 (by decide))
      rcases oc2' with ⟨rfl, w2, w3, w4, w5, p5, w6, w7⟩ | ⟨cb, w2, w3⟩
      · obtain ⟨σ', c', τ', y1, y2, y3, y4, y5⟩ := ih f n (i + 1) σ2 τ2 sn2 p5 (by omega) (by omega) (by omega) (by omega) (by omega) w7 w2 (by rw [w3, w4]; exact h3) w5
        exact ⟨σ', c', τ', xe2.trans y1, me.trans y2, fx2.tr y3, (gh.tr fm2).tr y4, y5⟩
      · refine ⟨σ2, c2, τ2, xe2.trans ?_, me.trans ?_, fx2, gh.tr fm2, w2, w3, Or.inr cb⟩
        · cases f with
          | zero => omega
          | succ f =>
            have ft : FT σ2 := by unfold FT; omega
            have x100 : p_X0_readFrom_100 1 σ2 = some (0, σ2) := by
              unfold p_X0_readFrom_100
              rw [X_failF ft]
              simp only [bnd_some]
            have x82 : p_X0_readFrom_82 7 1 σ2 = some (0, σ2) := by
              unfold p_X0_readFrom_82
              rw [x100]
              by_cases z : zm (σ2 7 1) = 0
              · rw [if_pos z]
              · rw [if_neg z]
                by_cases z' : zm (σ2 7 6) < zm (σ2 7 1)
                · rw [if_pos z']
                · rw [if_neg z']
            show p_X0_readFrom_38b (p_X0_readFrom_38 f) 7 1 sn2 (i + 1) σ2 = _
            unfold p_X0_readFrom_38b
            rw [X_goesF ft]
            simp only [bnd_some, zm0t, if_true]
            rw [x82]
            by_cases z : 300 ≤ zm (i + 1)
            · rw [if_pos z]
            · rw [if_neg z]
        · cases n with
          | zero => omega
          | succ n =>
            show p_X8_house_72b (p_X8_house_72 n) a c2 τ2 = _
            unfold p_X8_house_72b p_X8_house_91 p_X8_house_122
            rw [zm_eq (a := c2) (by omega) (by omega), if_neg (by omega), if_neg (by omega)]
