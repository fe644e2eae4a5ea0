/-! sort -/
theorem M_67 {τ : St} {c : Int} (hc : 0 ≤ c ∧ c < 4) (h7 : τ 0 7 = c) (k : Int) : ∃ τ', p_X8_takePains_67 k τ = some (k, τ') ∧ pS c τ τ' ∧ (∀ q : Int, q ≠ 12 → τ' q = τ q) ∧ τ' 12 c = τ 0 19 := by
  obtain ⟨t1, e1, a1, b1, c1⟩ := su_ex τ 12 c (τ 0 19)
  refine ⟨t1, ?_, pSs (by omega) e1, a1, b1⟩
  unfold p_X8_takePains_67
  rw [h7, zm_eq (a := c) (by omega) (by omega), gd_pos (by omega), nx_eq, e1]
theorem pains_body {σ τ : St} {T : Int → Int} {L p q o c : Int} (ho : o = 27 + 4 * c) (hc : 0 ≤ c ∧ c < 4) (h7 : τ 0 7 = c) (tx : TXx σ T L) (tm : TXm τ T L) (to : TO σ T L p) (nf : σ 1 2 = 0) (hs : HS σ τ o c) (rn : RN lt_ T L p q) (mw : MW T p (q - p) 7) (h16 : τ 0 16 = p) (h18 : τ 0 18 = q) : ∃ (σ' : St) (k : Int) (τ' : St), p_X6_readPains o 1 σ = some (0, σ') ∧ (Option.bind (p_X8_takePains τ) fun x82 => p_X8_takeSort_92 x82.1 x82.2) = some (k, τ') ∧ xS o σ σ' ∧ pS c τ τ' ∧ OS σ σ' τ τ' T L p k o c := by
  obtain ⟨y1, y2, y3, y4, y5⟩ := id hs
  have o1 := to.1
  have zc : zm c = c := zm_eq (by omega) (by omega)
  have m92 : ∀ (k : Int) (τz : St), 1 ≤ k → k ≤ 5 → p_X8_takeSort_92 k τz = some (k, τz) := fun k τz k1 k5 => by
    unfold p_X8_takeSort_92
    rw [zm_eq (a := k) (by omega) (by omega), if_neg (by omega)]
  rcases y5 with ⟨z11, z12, z5, z7⟩ | ⟨z11, z12, z5, z6, z7⟩
  · obtain ⟨σ1, p1, x1, r1, sk1, to1, pp1⟩ := word_step (by decide) tx to rn mw
    obtain ⟨τ1, e1, a1, b1, c1⟩ := su_ex τ 0 16 (τ 0 18)
    have f1 : pS c τ τ1 := pS0 (j := 16) (by decide) e1
    have o2 := to.2.1
    have rn1 := rn.1
    have ps1 : PS σ1 τ1 T L p1 := ⟨r1.tx tx, f1.tx tm, to1, by rw [b1, h18]; omega, by rw [b1, h18]; exact sk1⟩
    have nf1 : σ1 1 2 = 0 := by rw [r1.2 2 (by omega)]; exact nf
    obtain ⟨V1, σ2, k1, τ2, x2, n2, g2, alt⟩ := num_lock (lo := 0) (hi := 999) ps1 nf1 (by decide) (by decide)
    obtain ⟨σ3, e3, a3, b3, c3⟩ := su_ex σ2 o 6 V1
    have fx3 : xS o σ2 σ3 := xSs (by omega) (by omega) e3
    have s31 : σ3 1 = σ2 1 := a3 1 (by omega)
    have xx : p_X6_readPains o 1 σ = Option.bind (p_X4_number 1 0 100 σ3) fun x38 => nx (su x38.2 o 7 x38.1) fun σ41 => Option.bind (p_X4_closeClause 1 σ41) fun x45 => nx (su x45.2 o 5 1) fun σ50 => some (0, σ50) := by
      unfold p_X6_readPains
      rw [z5, if_pos (by decide), x1]
      simp only [bnd_some]
      rw [x2]
      simp only [bnd_some]
      rw [nx_eq, e3]
    obtain ⟨τ3, e3m, a3m, b3m, c3m⟩ := su_ex τ2 11 c (τ2 0 19)
    have f3 : pS c τ2 τ3 := pSs (by omega) e3m
    have z0 : τ3 0 = τ2 0 := a3m 0 (by decide)
    have t7 : τ2 0 7 = c := by rw [g2.2 7 (by omega), c1 7 (by decide), h7]
    have mm : p_X8_takePains τ = if zm k1 ≤ 0 then (Option.bind (p_X8_takeNumber 0 100 τ3) fun x64 => p_X8_takePains_67 x64.1 x64.2) else (p_X8_takePains_67 k1 τ3) := by
      have zt : zm (τ2 0 7) = c := by rw [t7]; exact zc
      unfold p_X8_takePains
      rw [h7, zc, gd_pos (by omega), z11, if_pos (by decide), nx_eq, e1, n2]
      simp only [bnd_some]
      rw [gd_pos (by rw [zt]; omega), zt, nx_eq, e3m]
    have F3 : pS c τ τ3 := (f1.tr g2.s).tr f3
    have tailF : ∀ (σz : St) (k : Int), FT σz → σz 1 2 = k → ∃ σ', (nx (su σz o 7 0) fun σ41 => Option.bind (p_X4_closeClause 1 σ41) fun x45 => nx (su x45.2 o 5 1) fun σ50 => some ((0 : Int), σ50)) = some (0, σ') ∧ xS o σz σ' ∧ σ' 1 = σz 1 ∧ σ' o 3 = σz o 3 := fun σz k ft _ => by
      obtain ⟨u1, v1, w1, _, l1⟩ := su_ex σz o 7 0
      obtain ⟨u2, v2, w2, _, l2⟩ := su_ex u1 o 5 1
      have ft1 : FT u1 := by unfold FT; rw [w1 1 (by omega)]; exact ft
      refine ⟨u2, ?_, (xSs (by omega) (by omega) v1).tr (xSs (by omega) (by omega) v2), by rw [w2 1 (by omega), w1 1 (by omega)], by rw [l2 3 (by decide), l1 3 (by decide)]⟩
      rw [nx_eq, v1, X_closeF ft1]
      simp only [bnd_some]
      rw [nx_eq, v2]
    rcases alt with ⟨rfl, vb, v19, _, v15, p2, pp2, r2, ps2⟩ | ⟨hk, rfl, F2, v15⟩
    · rw [if_pos (by decide)] at mm
      obtain ⟨tx2, tm2, to2, h02, sk2⟩ := ps2
      have to3 : TO σ3 T L p2 := to2.c s31
      have ps3 : PS σ3 τ3 T L p2 := ⟨fx3.tx (by omega) tx2, f3.tx tm2, to3, by rw [z0]; exact h02, by rw [z0]; exact sk2⟩
      have nf3 : σ3 1 2 = 0 := by rw [s31, r2.2 2 (by omega)]; exact nf1
      have so : ∀ j : Int, j ≠ 6 → σ3 o j = σ o j := fun j hj => by rw [c3 j hj, r2.1 o (by omega), r1.1 o (by omega)]
      obtain ⟨V2, σ4, k2, τ4, x4, n4, g4, alt2⟩ := num_lock (lo := 0) (hi := 100) ps3 nf3 (by decide) (by decide)
      obtain ⟨τ5, m5, f5, q5, v5⟩ := M_67 (τ := τ4) hc (by rw [g4.2 7 (by omega), z0]; exact t7) k2
      have mm2 : p_X8_takePains τ = some (k2, τ5) := by
        rw [mm, n4]
        simp only [bnd_some]
        exact m5
      have FX3 : xS o σ σ3 := (r1.s.tr r2.s).tr fx3
      rcases alt2 with ⟨rfl, vb2, w19, _, w15, p3, pp3, r4, ps4⟩ | ⟨hk2, rfl, F4, w15⟩
      · obtain ⟨σ5, e5, a5, b5, c5⟩ := su_ex σ4 o 7 V2
        have fx5 : xS o σ4 σ5 := xSs (by omega) (by omega) e5
        have s51 : σ5 1 = σ4 1 := a5 1 (by omega)
        have z05 : τ5 0 = τ4 0 := q5 0 (by decide)
        have ps5 : PS σ5 τ5 T L p3 := ⟨fx5.tx (by omega) ps4.1, f5.tx ps4.2.1, ps4.2.2.1.c s51, by rw [z05]; exact ps4.2.2.2.1, by rw [z05]; exact ps4.2.2.2.2⟩
        have nf5 : σ5 1 2 = 0 := by rw [s51, r4.2 2 (by omega)]; exact nf3
        obtain ⟨σ7, k7, τ7, x7, m7, g7, alt7⟩ := stop_lock ps5 nf5
        obtain ⟨σ8, e8, a8, b8, c8⟩ := su_ex σ7 o 5 1
        have fx8 : xS o σ7 σ8 := xSs (by omega) (by omega) e8
        have s81 : σ8 1 = σ7 1 := a8 1 (by omega)
        have s7k : ∀ k : Int, k ≠ 1 → σ7 k = σ5 k := fun k hk => by
          rcases alt7 with ⟨_, _, p7, _, r7, _⟩ | ⟨_, F7, _⟩
          · rw [r7.1 k hk]
          · rw [F7.1 k hk]
        have uo : ∀ j : Int, j ≠ 5 → j ≠ 6 → j ≠ 7 → σ8 o j = σ o j := fun j h5 h6 h7' => by rw [c8 j h5, s7k o (by omega), c5 j h7', r4.1 o (by omega), so j h6]
        refine ⟨σ8, k7, τ7, ?_, ?_, ?_, ((F3.tr g4.s).tr f5).tr g7.s, ?_⟩
        · rw [xx, x4]
          simp only [bnd_some]
          rw [nx_eq, e5, x7]
          simp only [bnd_some]
          rw [nx_eq, e8]
        · rw [mm2]
          simp only [bnd_some]
          unfold p_X8_takeSort_92
          rw [if_pos (by decide), m7]
          simp only [bnd_some]
        · rcases alt7 with ⟨_, _, p7, _, r7, _⟩ | ⟨_, F7, _⟩
          · exact ((FX3.tr r4.s).tr fx5).tr (r7.s.tr fx8)
          · exact ((FX3.tr r4.s).tr fx5).tr (F7.s.tr fx8)
        · rcases alt7 with ⟨rfl, w15', p7, pp7, r7, ps7⟩ | ⟨rfl, F7, w15'⟩
          · have tt : ∀ q : Int, q ≠ 0 → q ≠ 11 → q ≠ 12 → τ7 q = τ q := fun q h0 h11 h12 => by rw [g7.1 q h0, q5 q h12, g4.1 q h0, a3m q h11, g2.1 q h0, a1 q h0]
            have t11 : τ7 11 c = V1 := by rw [g7.1 11 (by decide), q5 11 (by decide), g4.1 11 (by decide), b3m, v19]
            have t12 : τ7 12 c = V2 := by rw [g7.1 12 (by decide), v5, w19]
            have t22 : τ7 0 22 = τ 0 22 := by rw [g7.2 22 (by omega), z05, g4.2 22 (by omega), z0, g2.2 22 (by omega), c1 22 (by decide)]
            have u1 : σ8 (o + 1) = σ (o + 1) := by rw [a8 _ (by omega), s7k _ (by omega), a5 _ (by omega), r4.1 _ (by omega), a3 _ (by omega), r2.1 _ (by omega), r1.1 _ (by omega)]
            have u2 : σ8 (o + 2) = σ (o + 2) := by rw [a8 _ (by omega), s7k _ (by omega), a5 _ (by omega), r4.1 _ (by omega), a3 _ (by omega), r2.1 _ (by omega), r1.1 _ (by omega)]
            refine Or.inl ⟨rfl, by rw [s81, r7.2 2 (by omega)]; exact nf5, by rw [s81, r7.2 3 (by omega), s51, r4.2 3 (by omega), s31, r2.2 3 (by omega), r1.2 3 (by omega)], by rw [w15', z05, w15, z0, v15, c1 15 (by decide)], ⟨?_, ?_, ?_, ?_, Or.inr ?_⟩, p7, by omega, fx8.tx (by omega) ps7.1, ps7.2.1, ps7.2.2.1.c s81, ps7.2.2.2⟩
            · rw [uo 3 (by decide) (by decide) (by decide), tt 8 (by decide) (by decide) (by decide)]; exact y1
            · rw [uo 4 (by decide) (by decide) (by decide), tt 8 (by decide) (by decide) (by decide), tt 10 (by decide) (by decide) (by decide), t22]; exact y2
            · rw [u1, u2, tt 8 (by decide) (by decide) (by decide), tt 9 (by decide) (by decide) (by decide), tt 10 (by decide) (by decide) (by decide)]; exact y3
            · rw [tt 8 (by decide) (by decide) (by decide), tt 9 (by decide) (by decide) (by decide)]; exact y4
            · rw [t11, t12, b8, c8 6 (by decide), s7k o (by omega), c5 6 (by decide), r4.1 o (by omega), b3, c8 7 (by decide), s7k o (by omega), b5]
              exact ⟨vb, vb2, rfl, rfl, rfl⟩
          · exact Or.inr ⟨by decide, by rw [s81]; exact F7.2.2.1, by rw [s81, w15']; exact F7.2.2.2, by rw [uo 3 (by decide) (by decide) (by decide)]; omega, by rw [uo 3 (by decide) (by decide) (by decide)]; omega⟩
      · have ft4 : FT σ4 := by unfold FT; rw [F4.2.2.1]; omega
        obtain ⟨σ8, x8, fx8, q8, k8⟩ := tailF σ4 k2 ft4 F4.2.2.1
        have h3 : σ8 o 3 = τ 8 c := by rw [k8, F4.1 o (by omega), so 3 (by decide), y1.1]
        refine ⟨σ8, k2, τ5, ?_, ?_, (FX3.tr F4.s).tr fx8, (F3.tr g4.s).tr f5, Or.inr ⟨by omega, by rw [q8]; exact F4.2.2.1, by rw [q8, q5 0 (by decide), w15]; exact F4.2.2.2, by omega, by omega⟩⟩
        · rw [xx, x4]
          simp only [bnd_some]
          exact x8
        · rw [mm2]
          simp only [bnd_some]
          exact m92 k2 τ5 (by omega) (by omega)
    · have zk : zm k1 = k1 := zm_eq (by omega) (by omega)
      rw [zk, if_neg (by omega)] at mm
      have ft3 : FT σ3 := by unfold FT; rw [s31, F2.2.2.1]; omega
      have to3 : TO σ3 T L p1 := (F2.to to1).c s31
      have tx3 : TXx σ3 T L := fx3.tx (by omega) (F2.tx (r1.tx tx))
      obtain ⟨σ8, x8, fx8, q8, k8⟩ := tailF σ3 k1 ft3 (by rw [s31]; exact F2.2.2.1)
      obtain ⟨τ5, m5, f5, q5, v5⟩ := M_67 (τ := τ3) hc (by rw [z0]; exact t7) k1
      have h3 : σ8 o 3 = τ 8 c := by rw [k8, c3 3 (by decide), F2.1 o (by omega), r1.1 o (by omega), y1.1]
      refine ⟨σ8, k1, τ5, ?_, ?_, ((r1.s.tr F2.s).tr fx3).tr fx8, F3.tr f5, Or.inr ⟨by omega, by rw [q8, s31]; exact F2.2.2.1, by rw [q8, s31, q5 0 (by decide), z0, v15]; exact F2.2.2.2, by omega, by omega⟩⟩
      · rw [xx, X_numberF (lo := 0) (hi := 100) tx3 to3 ft3 ⟨by decide, by decide⟩ ⟨by decide, by decide⟩]
        simp only [bnd_some]
        exact x8
      · rw [mm, m5]
        simp only [bnd_some]
        exact m92 k1 τ5 (by omega) (by omega)
  · obtain ⟨τ6, m6, g6, v6⟩ := M_fails τ 3 (τ 0 16)
    obtain ⟨σ6, x6, F6⟩ := X_fail nf 3 p
    refine ⟨σ6, 3, τ6, ?_, ?_, F6.s, g6.s, Or.inr ⟨by decide, F6.2.2.1, by rw [v6, h16]; exact F6.2.2.2, by rw [F6.1 o (by omega)]; omega, by rw [F6.1 o (by omega)]; omega⟩⟩
    · unfold p_X6_readPains
      rw [z5, if_neg (by decide), o1, x6]
      simp only [bnd_some]
    · unfold p_X8_takePains
      rw [h7, zc, gd_pos (by omega), zm_eq (a := τ 11 c) (by omega) (by omega), if_neg (by omega), m6]
      simp only [bnd_some]
      exact m92 3 τ6 (by decide) (by decide)
theorem sort_body {σ τ : St} {T : Int → Int} {L p o c : Int} (ho : o = 27 + 4 * c) (hc : 0 ≤ c ∧ c < 4) (h7 : τ 0 7 = c) (ps : PS σ τ T L p) (hp : p < L) (nf : σ 1 2 = 0) (hs : HS σ τ o c) : ∃ (σ' : St) (k : Int) (τ' : St), (∀ (K : Int → Int → Int → St → Option (Int × St)) (i : Int), 0 ≤ i → i < 300 → p_X6_readFrom_31b K o 1 i σ = K o 1 (i + 1) σ') ∧ p_X8_takeSort τ = some (k, τ') ∧ xS o σ σ' ∧ pS c τ τ' ∧ OS σ σ' τ τ' T L p k o c := by
  obtain ⟨tx, tm, to, h0, sk⟩ := ps
  obtain ⟨q, rn, gl, gn⟩ := to.rn
  obtain ⟨τ1, e1, g1, d15, d16, d18, d17⟩ := M_readWord tm h0 sk rn
  have hs1 := hs.m g1
  have tm1 := g1.tx tm
  have o1 := to.1
  have t7 : τ1 0 7 = c := by rw [g1.2 7 (by omega)]; exact h7
  obtain ⟨A6, xA6, A601, iA6⟩ := X_isWord (w := 6) (by decide) tx to rn
  obtain ⟨A7, xA7, A701, iA7⟩ := X_isWord (w := 7) (by decide) tx to rn
  have xb : ∀ (K : Int → Int → Int → St → Option (Int × St)) (i : Int), 0 ≤ i → i < 300 → p_X6_readFrom_31b K o 1 i σ = if A6 = 0 then (if A7 = 0 then (Option.bind (p_X4_fail 1 1 (σ 1 5) σ) fun x85 => K o 1 (i + 1) x85.2) else (Option.bind (p_X6_readPains o 1 σ) fun x73 => K o 1 (i + 1) x73.2)) else (Option.bind (p_X6_readScrape o 1 σ) fun x56 => K o 1 (i + 1) x56.2) := fun K i i0 i1 => by
    unfold p_X6_readFrom_31b p_X6_readFrom_88
    rw [zm_eq (a := i) (by omega) (by omega), if_neg (by omega), X_goesOn to nf hp]
    simp only [bnd_some, zm1n, if_false]
    rw [xA6]
    simp only [bnd_some]
    rw [xA7]
    simp only [bnd_some]
    rw [zm_eq (a := A6) (by omega) (by omega), zm_eq (a := A7) (by omega) (by omega)]
  have z6 := zc_MW (w := 6) (by decide) rn
  have z7 := zc_MW (w := 7) (by decide) rn
  rw [← d17] at z6 z7
  have mt : p_X8_takeSort τ = if zm (zcmp (τ1 0 17) (cw 6)) = 0 then (Option.bind (p_X8_takeScrape τ1) fun x82 => p_X8_takeSort_92 x82.1 x82.2) else if zm (zcmp (τ1 0 17) (cw 7)) = 0 then (Option.bind (p_X8_takePains τ1) fun x82 => p_X8_takeSort_92 x82.1 x82.2) else (Option.bind (p_X8_fails 1 (τ1 0 16) τ1) fun x73 => some (x73.1, x73.2)) := by
    unfold p_X8_takeSort
    rw [e1]
    simp only [bnd_some]
    rw [code6]
    simp only []
    unfold p_X8_takeSort_38 p_X8_takeSort_77
    rw [if_neg (show ¬ zm 1 = 0 by decide), if_pos (show zm 0 = 0 by decide), if_neg (show ¬ zm 1 = 0 by decide), code7]
    simp only []
    rw [if_pos (show zm 0 = 0 by decide)]
  by_cases m6 : MW T p (q - p) 6
  · rw [if_pos (z6.2 m6)] at mt
    obtain ⟨σ6, k6, τ6, x6, n6, fx, fm, oc⟩ := scrape_body ho hc t7 tx tm1 to nf hs1 rn m6 d16 d18
    refine ⟨σ6, k6, τ6, fun K i i0 i1 => ?_, mt.trans n6, fx, g1.s.tr fm, oc.m d15⟩
    rw [xb K i i0 i1, if_neg (by have := iA6.2 m6; omega), x6]
    simp only [bnd_some]
  · have a6 : A6 = 0 := by
      rcases A601 with z | z
      · exact z
      · exact absurd (iA6.1 z) m6
    rw [if_neg (fun y => m6 (z6.1 y))] at mt
    by_cases m7 : MW T p (q - p) 7
    · rw [if_pos (z7.2 m7)] at mt
      obtain ⟨σ6, k6, τ6, x6, n6, fx, fm, oc⟩ := pains_body ho hc t7 tx tm1 to nf hs1 rn m7 d16 d18
      refine ⟨σ6, k6, τ6, fun K i i0 i1 => ?_, mt.trans n6, fx, g1.s.tr fm, oc.m d15⟩
      rw [xb K i i0 i1, if_pos a6, if_neg (by have := iA7.2 m7; omega), x6]
      simp only [bnd_some]
    · have a7 : A7 = 0 := by
        rcases A701 with z | z
        · exact z
        · exact absurd (iA7.1 z) m7
      rw [if_neg (fun y => m7 (z7.1 y))] at mt
      obtain ⟨τ6, n6, g6, v6⟩ := M_fails τ1 1 (τ1 0 16)
      obtain ⟨σ6, x6, F6⟩ := X_fail nf 1 p
      have y1 := hs.1
      refine ⟨σ6, 1, τ6, fun K i i0 i1 => ?_, ?_, F6.s, g1.s.tr g6.s, Or.inr ⟨by decide, F6.2.2.1, by rw [v6, d16]; exact F6.2.2.2, by rw [F6.1 o (by omega)]; omega, by rw [F6.1 o (by omega)]; omega⟩⟩
      · rw [xb K i i0 i1, if_pos a6, if_pos a7, o1, x6]
        simp only [bnd_some]
      · rw [mt, n6]
        simp only [bnd_some]
theorem sort_loop {T : Int → Int} {L o c : Int} (ho : o = 27 + 4 * c) (hc : 0 ≤ c ∧ c < 4) : ∀ (d f n : Nat) (i : Int) (σ τ : St) (p : Int), L - p ≤ d → d < f → d < n → 0 ≤ i → i ≤ p → PS σ τ T L p → τ 0 7 = c → σ 1 2 = 0 → σ 1 3 = τ 0 15 → HS σ τ o c → ∃ (σ' : St) (k : Int) (τ' : St), p_X6_readFrom_31 f o 1 i σ = p_X6_readFrom_110 o σ' ∧ p_X8_sort_71 n 0 τ = p_X8_sort_119 k τ' ∧ xS o σ σ' ∧ pS c τ τ' ∧ σ' 1 2 = k ∧ σ' 1 3 = τ' 0 15 ∧ (0 ≤ σ' o 3 ∧ σ' o 3 ≤ 8) ∧ ((k = 0 ∧ HS σ' τ' o c ∧ 1 ≤ τ' 8 c) ∨ (1 ≤ k ∧ k ≤ 5)) := by
  have fin : ∀ (f n : Nat) (i : Int) (σ τ : St), 0 ≤ i → i ≤ L → PS σ τ T L L → τ 0 7 = c → σ 1 2 = 0 → σ 1 3 = τ 0 15 → HS σ τ o c → ∃ (σ' : St) (k : Int) (τ' : St), p_X6_readFrom_31 (f + 1) o 1 i σ = p_X6_readFrom_110 o σ' ∧ p_X8_sort_71 (n + 1) 0 τ = p_X8_sort_119 k τ' ∧ xS o σ σ' ∧ pS c τ τ' ∧ σ' 1 2 = k ∧ σ' 1 3 = τ' 0 15 ∧ (0 ≤ σ' o 3 ∧ σ' o 3 ≤ 8) ∧ ((k = 0 ∧ HS σ' τ' o c ∧ 1 ≤ τ' 8 c) ∨ (1 ≤ k ∧ k ≤ 5)) := by
    intro f n i σ τ i0 iL ps h7 nf h3 hs
    obtain ⟨tx, tm, to, h0, sk⟩ := ps
    have t2 := tx.2.1
    obtain ⟨τ1, e1, a1, b1, c1⟩ := M_hr tm h0 sk
    rw [if_pos rfl] at e1
    have g1 : mF τ τ1 := ⟨a1, fun j hj => b1 j (by omega)⟩
    have hs1 := hs.m g1
    have t7 : τ1 0 7 = c := by rw [b1 7 (by decide)]; exact h7
    have y1 := hs1.1
    have xe : p_X6_readFrom_31 (f + 1) o 1 i σ = p_X6_readFrom_94 o 1 σ := by
      show p_X6_readFrom_31b (p_X6_readFrom_31 f) o 1 i σ = _
      unfold p_X6_readFrom_31b
      rw [zm_eq (a := i) (by omega) (by omega), X_goesNot to nf]
      simp only [bnd_some, zm0t, if_true]
      by_cases z : 300 ≤ i
      · rw [if_pos z]
      · rw [if_neg z]
    have me : p_X8_sort_71 (n + 1) 0 τ = p_X8_sort_90 0 τ1 := by
      show p_X8_sort_71b (p_X8_sort_71 n) 0 τ = _
      unfold p_X8_sort_71b
      rw [if_pos (by decide), e1]
      simp only [bnd_some]
      rw [if_pos (by decide)]
    have me2 : p_X8_sort_90 0 τ1 = if τ1 8 c = 0 then (Option.bind (p_X8_fails 5 (τ1 0 14) τ1) fun x112 => p_X8_sort_119 x112.1 x112.2) else p_X8_sort_119 0 τ1 := by
      unfold p_X8_sort_90 p_X8_sort_118
      rw [if_pos (by decide), t7, zm_eq (a := c) (by omega) (by omega), gd_pos (by omega), zm_eq (a := τ1 8 c) (by omega) (by omega)]
    by_cases y : τ1 8 c = 0
    · rw [if_pos y] at me2
      obtain ⟨τ6, m6, g6, v6⟩ := M_fails τ1 5 (τ1 0 14)
      obtain ⟨σ6, x6, F6⟩ := X_fail nf 5 (σ 1 1)
      refine ⟨σ6, 5, τ6, ?_, ?_, F6.s, g1.s.tr g6.s, F6.2.2.1, by rw [v6, F6.2.2.2, tx.1, b1 14 (by decide), tm.1], by rw [F6.1 o (by omega)]; omega, Or.inr (by decide)⟩
      · rw [xe]
        unfold p_X6_readFrom_94
        rw [y1.1, y, if_pos (by decide), x6]
        simp only [bnd_some]
      · rw [me, me2, m6]
        simp only [bnd_some]
    · rw [if_neg y] at me2
      refine ⟨σ, 0, τ1, ?_, me.trans me2, xS.rf, g1.s, nf, by rw [b1 15 (by decide)]; exact h3, by omega, Or.inl ⟨rfl, hs1, by omega⟩⟩
      rw [xe]
      unfold p_X6_readFrom_94
      rw [y1.1, zm_eq (a := τ1 8 c) (by omega) (by omega), if_neg y]
  intro d
  induction d with
  | zero =>
    intro f n i σ τ p hd hf hn i0 ip ps h7 nf h3 hs
    obtain ⟨f, rfl⟩ := Nat.exists_eq_succ_of_ne_zero (by omega : f ≠ 0)
    obtain ⟨n, rfl⟩ := Nat.exists_eq_succ_of_ne_zero (by omega : n ≠ 0)
    have o2 := ps.2.2.1.2.1
    have e : p = L := by omega
    subst e
    exact fin f n i σ τ i0 ip ps h7 nf h3 hs
  | succ d ih =>
    intro f n i σ τ p hd hf hn i0 ip ps h7 nf h3 hs
    obtain ⟨f, rfl⟩ := Nat.exists_eq_succ_of_ne_zero (by omega : f ≠ 0)
    obtain ⟨n, rfl⟩ := Nat.exists_eq_succ_of_ne_zero (by omega : n ≠ 0)
    have o2 := ps.2.2.1.2.1
    have t2 := ps.1.2.1
    by_cases e : p = L
    · subst e
      exact fin f n i σ τ i0 ip ps h7 nf h3 hs
    · obtain ⟨tx, tm, to, h0, sk⟩ := ps
      obtain ⟨τh, eh, ah, bh, ch⟩ := M_hr tm h0 sk
      have mh : mF τ τh := ⟨ah, fun j hj => bh j (by omega)⟩
      have bt := (tx.2.2 p (by omega) (by omega)).2
      obtain ⟨σ2, k2, τ2, x2, m2, fx2, fm2, oc2⟩ := sort_body (σ := σ) (τ := τh) (T := T) (L := L) (p := p) ho hc (by rw [bh 7 (by decide)]; exact h7) ⟨tx, mh.tx tm, to, by omega, by rw [ch]; exact sk.at⟩ (by omega) nf (hs.m mh)
      have xe2 : p_X6_readFrom_31 (f + 1) o 1 i σ = p_X6_readFrom_31 f o 1 (i + 1) σ2 := x2 (p_X6_readFrom_31 f) i i0 (by omega)
      have me : p_X8_sort_71 (n + 1) 0 τ = p_X8_sort_71 n k2 τ2 := by
        show p_X8_sort_71b (p_X8_sort_71 n) 0 τ = _
        unfold p_X8_sort_71b
        rw [if_pos (by decide), eh]
        simp only [bnd_some]
        rw [if_neg e, zm_eq (a := T p) (by omega) (by omega), if_neg (by omega), m2]
        simp only [bnd_some]
      have gh : pS c τ τh := mh.s
      have t27 : τ2 0 7 = c := by rw [fm2.2.2.2 7 (by omega), bh 7 (by decide)]; exact h7
      have oc2' := oc2.m (bh 15 (by decide))
      rcases oc2' with ⟨rfl, w2, w3, w4, w5, p5, w6, w7⟩ | ⟨cb, w2, w3, w4, w5⟩
      · obtain ⟨σ', k', τ', y1, y2, y3, y4, y5⟩ := ih f n (i + 1) σ2 τ2 p5 (by omega) (by omega) (by omega) (by omega) (by omega) w7 t27 w2 (by rw [w3, w4]; exact h3) w5
        exact ⟨σ', k', τ', xe2.trans y1, me.trans y2, fx2.tr y3, (gh.tr fm2).tr y4, y5⟩
      · refine ⟨σ2, k2, τ2, xe2.trans ?_, me.trans ?_, fx2, gh.tr fm2, w2, w3, ⟨w4, w5⟩, Or.inr cb⟩
        · cases f with
          | zero => omega
          | succ f =>
            have ft : FT σ2 := by unfold FT; omega
            have x94 : p_X6_readFrom_94 o 1 σ2 = p_X6_readFrom_110 o σ2 := by
              unfold p_X6_readFrom_94
              rw [X_failF ft]
              simp only [bnd_some]
              by_cases z : zm (σ2 o 3) = 0
              · rw [if_pos z]
              · rw [if_neg z]
            show p_X6_readFrom_31b (p_X6_readFrom_31 f) o 1 (i + 1) σ2 = _
            unfold p_X6_readFrom_31b
            rw [X_goesF ft]
            simp only [bnd_some, zm0t, if_true]
            rw [x94]
            by_cases z : 300 ≤ zm (i + 1)
            · rw [if_pos z]
            · rw [if_neg z]
        · cases n with
          | zero => omega
          | succ n =>
            show p_X8_sort_71b (p_X8_sort_71 n) k2 τ2 = _
            unfold p_X8_sort_71b p_X8_sort_90 p_X8_sort_118
            rw [zm_eq (a := k2) (by omega) (by omega), if_neg (by omega), if_neg (by omega)]
theorem X_spare {o : Int} (ho : 27 ≤ o) {σ0 : St} {m : Int} (h3 : σ0 o 3 = m) (hm : 0 ≤ m ∧ m ≤ 8) : ∀ (d f i : Nat) (σ : St), (i : Int) + d = m → d < f → (∀ k : Int, k ≠ o + 3 → σ k = σ0 k) → (∀ j : Int, 0 ≤ j → j < i → σ (o + 3) j = (zm (σ0 (o + 2) j * (100 - σ0 o 7))).tdiv 100) → ∃ σ', p_X6_spare_2 f o i σ = some (0, σ') ∧ (∀ k : Int, k ≠ o + 3 → σ' k = σ0 k) ∧ (∀ j : Int, 0 ≤ j → j < m → σ' (o + 3) j = (zm (σ0 (o + 2) j * (100 - σ0 o 7))).tdiv 100) := by
  intro d
  induction d with
  | zero =>
    intro f i σ hi hf a b
    obtain ⟨f, rfl⟩ := Nat.exists_eq_succ_of_ne_zero (by omega : f ≠ 0)
    refine ⟨σ, ?_, a, fun j j0 j1 => b j j0 (by omega)⟩
    show p_X6_spare_2b (p_X6_spare_2 f) o i σ = _
    unfold p_X6_spare_2b
    rw [a o (by omega), h3, zm_eq (a := m) (by omega) (by omega), zm_eq (a := (i : Int)) (by omega) (by omega), if_pos (by omega)]
  | succ d ih =>
    intro f i σ hi hf a b
    obtain ⟨f, rfl⟩ := Nat.exists_eq_succ_of_ne_zero (by omega : f ≠ 0)
    obtain ⟨σ1, e1, a1, b1, c1⟩ := su_ex σ (o + 3) i ((zm (σ0 (o + 2) i * (100 - σ0 o 7))).tdiv 100)
    obtain ⟨σ', e', r'⟩ := ih f (i + 1) σ1 (by omega) (by omega) (fun k hk => by rw [a1 k hk, a k hk]) (fun j j0 j1 => by
      by_cases z : j = i
      · rw [z, b1]
      · rw [c1 j z]; exact b j j0 (by omega))
    refine ⟨σ', ?_, r'⟩
    refine Eq.trans ?_ e'
    show p_X6_spare_2b (p_X6_spare_2 f) o i σ = _
    unfold p_X6_spare_2b
    rw [a o (by omega), h3, zm_eq (a := m) (by omega) (by omega), zm_eq (a := (i : Int)) (by omega) (by omega), if_neg (by omega), gd_pos (by omega), a (o + 2) (by omega), nx_eq, e1]
    rfl
theorem X_110 {o : Int} (ho : 27 ≤ o) {σ : St} {m : Int} (h3 : σ o 3 = m) (hm : 0 ≤ m ∧ m ≤ 8) : ∃ σ', p_X6_readFrom_110 o σ = some (0, σ') ∧ (∀ k : Int, k ≠ o + 3 → σ' k = σ k) ∧ (∀ j : Int, 0 ≤ j → j < m → σ' (o + 3) j = (zm (σ (o + 2) j * (100 - σ o 7))).tdiv 100) := by
  obtain ⟨σ', e, a, b⟩ := X_spare ho h3 hm m.toNat FU 0 σ (by omega) (FU_gt (by omega)) (fun _ _ => rfl) (fun j j0 j1 => by omega)
  refine ⟨σ', ?_, a, b⟩
  unfold p_X6_readFrom_110 p_X6_spare
  have z0 : ((0 : Nat) : Int) = 0 := rfl
  rw [z0] at e
  rw [e]
  simp only [bnd_some]
theorem kx_sort {c : Int} (hc : 0 ≤ c ∧ c < 4) : kX (27 + 4 * c) = (6, 0) := by
  rcases (by omega : c = 0 ∨ c = 1 ∨ c = 2 ∨ c = 3) with rfl | rfl | rfl | rfl <;> decide
theorem pS.sS {c : Int} {τ τ' : St} (f : pS c τ τ') {s : Int} (h : s ≠ c) : eS τ τ' s := ⟨(f.2.1 8 s (by omega) h).symm, (f.2.1 11 s (by omega) h).symm, (f.2.1 12 s (by omega) h).symm, fun i i0 i1 => ⟨(f.2.2.1 9 _ (by omega) (by omega)).symm, (f.2.2.1 10 _ (by omega) (by omega)).symm⟩⟩
theorem pS.hH {c : Int} {τ τ' : St} (f : pS c τ τ') (h : Int) : eH τ τ' h := by
  unfold eH
  rw [f.1 1 (by decide) (by omega), f.1 2 (by decide) (by omega), f.1 3 (by decide) (by omega), f.1 4 (by decide) (by omega), f.1 5 (by decide) (by omega), f.1 6 (by decide) (by omega), f.1 7 (by decide) (by omega)]
  exact ⟨rfl, rfl, rfl, rfl, rfl, rfl, fun _ _ _ => rfl⟩
theorem pS.uU {c : Int} {τ τ' : St} (f : pS c τ τ') (u : Int) : eU τ τ' u := by
  unfold eU
  rw [f.1 14 (by decide) (by omega), f.1 15 (by decide) (by omega)]
  exact ⟨rfl, fun _ _ _ => rfl⟩
theorem ok_sort : StepOK Inv (p_X7_sort ) (p_X8_sort ) := fun σ τ hI => by
  obtain ⟨i1, i2, i3, i4, i5⟩ := id hI
  obtain ⟨it1, it2, it3, it4⟩ := id i1
  have q4 := i2.1
  have q5 := i2.2.1
  by_cases c1 : τ 0 14 ≤ 200
  rotate_left
  · refine st_eq (a := -1000000003) ?_ ?_ hI
    · unfold p_X7_sort
      rw [it2, zm_eq (a := τ 0 14) (by omega) (by omega), if_neg c1]
    · unfold p_X8_sort
      rw [zm_eq (a := τ 0 14) (by omega) (by omega), if_neg c1]
  by_cases c2 : τ 0 7 < 4
  rotate_left
  · refine st_eq (a := -1000000004) ?_ ?_ hI
    · unfold p_X7_sort
      rw [it2, zm_eq (a := τ 0 14) (by omega) (by omega), if_pos c1, q4.1, zm_eq (a := τ 0 7) (by omega) (by omega), if_neg c2]
    · unfold p_X8_sort
      rw [zm_eq (a := τ 0 14) (by omega) (by omega), if_pos c1, zm_eq (a := τ 0 7) (by omega) (by omega), if_pos (by omega)]
  obtain ⟨c, hcv⟩ : ∃ c, τ 0 7 = c := ⟨_, rfl⟩
  obtain ⟨o, ho⟩ : ∃ o, o = 27 + 4 * c := ⟨_, rfl⟩
  have hc : 0 ≤ c ∧ c < 4 := by omega
  have ho27 : 27 ≤ o ∧ o ≤ 39 := by omega
  have zc : zm c = c := zm_eq (by omega) (by omega)
  obtain ⟨s1, e1, u1, v1, w1⟩ := su_ex σ o 3 0
  obtain ⟨s2, e2, u2, v2, w2⟩ := su_ex s1 o 4 0
  obtain ⟨s3, e3, u3, v3, w3⟩ := su_ex s2 o 5 0
  obtain ⟨s4, e4, u4, v4, w4⟩ := su_ex s3 o 6 0
  obtain ⟨s5, e5, u5, v5, w5⟩ := su_ex s4 o 7 0
  have fs5 : ∀ k : Int, k ≠ o → s5 k = σ k := fun k hk => by rw [u5 k hk, u4 k hk, u3 k hk, u2 k hk, u1 k hk]
  have tx5 : TXx s5 (τ 13) (τ 0 14) := ⟨by rw [fs5 1 (by omega)]; exact it2, it3, fun i i0 i1 => by rw [fs5 2 (by omega)]; exact it4 i i0 i1⟩
  obtain ⟨s6, p, e6, fs6, o1, o2, o3, sk, to⟩ := X_open tx5
  obtain ⟨t1, m1, a1, b1, d1⟩ := su_ex τ 0 15 (-1)
  obtain ⟨t2, m2, a2, b2, d2⟩ := su_ex t1 0 16 0
  obtain ⟨t3, m3, a3, b3, d3⟩ := su_ex t2 8 c 0
  obtain ⟨t4, m4, a4, b4, d4⟩ := su_ex t3 11 c (-1)
  obtain ⟨t5, m5, a5, b5, d5⟩ := su_ex t4 12 c (-1)
  obtain ⟨t6, m6, a6, b6, d6⟩ := su_ex t5 0 22 0
  have ft : pS c τ t6 := (((pS0 (j := 15) (by decide) m1).tr (pS0 (j := 16) (by decide) m2)).tr ((pSs (by omega) m3).tr (pSs (by omega) m4))).tr ((pSs (by omega) m5).tr (pS0 (j := 22) (by decide) m6))
  have tm6 : TXm t6 (τ 13) (τ 0 14) := ft.tx ⟨rfl, it3, fun i i0 i1 => ⟨rfl, (it4 i i0 i1).2⟩⟩
  have r0 : ∀ j : Int, j ≠ 22 → t6 0 j = t2 0 j := fun j hj => by rw [d6 j hj, a5 0 (by decide), a4 0 (by decide), a3 0 (by decide)]
  have g16 : t6 0 16 = 0 := by rw [r0 16 (by decide), b2]
  have g15 : t6 0 15 = -1 := by rw [r0 15 (by decide), d2 15 (by decide), b1]
  have g7 : t6 0 7 = c := by rw [ft.2.2.2 7 (by omega), hcv]
  have k8 : t6 8 c = 0 := by rw [a6 8 (by decide), a5 8 (by decide), a4 8 (by decide), b3]
  have k11 : t6 11 c = -1 := by rw [a6 11 (by decide), a5 11 (by decide), b4]
  have k12 : t6 12 c = -1 := by rw [a6 12 (by decide), b5]
  have hs : HS s6 t6 o c := by
    have q7 : s6 o = s5 o := fs6 o (by omega)
    unfold HS
    rw [k8, k11, k12, b6, q7, v5, w5 3 (by decide), w4 3 (by decide), w3 3 (by decide), w2 3 (by decide), v1, w5 4 (by decide), w4 4 (by decide), w3 4 (by decide), v2, w5 5 (by decide), w4 5 (by decide), v3]
    exact ⟨by decide, ⟨rfl, rfl, by decide, by decide⟩, fun i i0 i1 => by omega, fun i i0 i1 => by omega, Or.inl ⟨rfl, rfl, rfl, rfl⟩⟩
  have ps : PS s6 t6 (τ 13) (τ 0 14) p := ⟨⟨by rw [o1]; exact tx5.1, it3, fun i i0 i1 => by rw [fs6 2 (by decide)]; exact tx5.2.2 i i0 i1⟩, tm6, to, by omega, by rw [g16]; exact sk⟩
  have sk1 := sk.1
  obtain ⟨s7, k, t7, x7, m7, fx, fm, q2, q3, q33, alt⟩ := sort_loop (T := τ 13) (L := τ 0 14) ho hc 300 FU FU 0 s6 t6 p (by omega) (FU_gt (by omega)) (FU_gt (by omega)) (by decide) sk1.1 ps g7 o2 (by rw [o3, g15]) hs
  obtain ⟨s8, x8, y8, z8⟩ := X_110 (o := o) (by omega) (σ := s7) rfl q33
  have cb : 0 ≤ k ∧ k ≤ 5 := by rcases alt with ⟨z, _⟩ | z <;> omega
  have s81 : s8 1 = s7 1 := y8 1 (by omega)
  obtain ⟨s9, x9, y1, y2, y3, y4⟩ := X_closeText (s8 0 11) (show s8 1 2 = k by rw [s81]; exact q2) cb
  obtain ⟨t8, m8, n1, n2, n3⟩ := su_ex t7 0 14 0
  have F : pS c τ t7 := ft.tr fm
  have fr9 : ∀ k : Int, k ≠ 0 → k ≠ 1 → (k < o ∨ o + 3 < k) → s9 k = σ k := fun k h0 h1 h2 => by rw [y1 k h0 h1, y8 k (by omega), fx.1 k h1 h2, fs6 k h1, fs5 k (by omega)]
  have fr0 : ∀ j : Int, j ≠ 13 → s9 0 j = σ 0 j := fun j hj => by rw [y2 j hj, y8 0 (by omega), fx.1 0 (by decide) (by omega), fs6 0 (by decide), fs5 0 (by omega)]
  have h811 : s8 0 11 = c := by rw [y8 0 (by omega), fx.1 0 (by decide) (by omega), fs6 0 (by decide), fs5 0 (by omega), q4.1, hcv]
  have tq : ∀ q : Int, q ≠ 0 → t8 q = t7 q := fun q hq => n1 q hq
  have tj : ∀ j : Int, j ≠ 14 → t8 0 j = t7 0 j := fun j hj => n3 j hj
  have T7 : t7 0 7 = c := by rw [F.2.2.2 7 (by omega), hcv]
  have xx : p_X7_sort σ = if zm (if k = 0 then c else -10 - k) < 0 then some ((if k = 0 then c else -10 - k), s9) else (nx (su s9 0 11 ((s9 0 11) + 1)) fun σ63 => some ((if k = 0 then c else -10 - k), σ63)) := by
    unfold p_X7_sort p_X6_readFrom
    rw [it2, zm_eq (a := τ 0 14) (by omega) (by omega), if_pos c1, q4.1, hcv, zc, if_pos (by omega), gd_pos (by omega), ← ho, nx_eq, e1, nx_eq, e2, nx_eq, e3, nx_eq, e4, nx_eq, e5, e6]
    simp only [bnd_some]
    have z0 : ((0 : Nat) : Int) = 0 := rfl
    rw [x7, x8]
    simp only [bnd_some]
    rw [x9, h811]
    simp only [bnd_some]
  have mm : p_X8_sort τ = if zm k ≤ 0 then (nx (su t8 0 7 ((t8 0 7) + 1)) fun σ141 => some (((σ141 0 7) - 1), σ141)) else (some (((-10) - k), t8)) := by
    have z27 : zm (t2 0 7) = c := by rw [d2 7 (by decide), d1 7 (by decide), hcv]; exact zc
    have z37 : zm (t3 0 7) = c := by rw [a3 0 (by decide)]; exact z27
    have z47 : zm (t4 0 7) = c := by rw [a4 0 (by decide)]; exact z37
    unfold p_X8_sort
    rw [zm_eq (a := τ 0 14) (by omega) (by omega), if_pos c1, zm_eq (a := τ 0 7) (by omega) (by omega), if_neg (by omega), nx_eq, m1, nx_eq, m2, gd_pos (by rw [z27]; omega), z27, nx_eq, m3, gd_pos (by rw [z37]; omega), z37, nx_eq, m4, gd_pos (by rw [z47]; omega), z47, nx_eq, m5, nx_eq, m6, m7]
    unfold p_X8_sort_119
    rw [nx_eq, m8]
  have it' : ∀ (σ' τ' : St), σ' 0 13 = s9 0 13 → σ' 1 = s9 1 → τ' 0 15 = t8 0 15 → τ' 0 14 = t8 0 14 → IT σ' τ' := fun σ' τ' h13 h1 h15 h14 => by
    refine ⟨?_, by rw [h1, y4, h14, n2], by rw [h14, n2]; decide, fun i i0 i1 => by rw [h14, n2] at i1; omega⟩
    rw [h13, y3, h15, tj 15 (by decide), s81, q3]
  rw [zm_eq (a := k) (by omega) (by omega)] at mm
  have eSo : ∀ s, 0 ≤ s → s < c → eS τ t8 s := fun s s0 s1 => by
    have z := F.sS (s := s) (by omega)
    unfold eS at z ⊢
    rw [tq 8 (by decide), tq 9 (by decide), tq 10 (by decide), tq 11 (by decide), tq 12 (by decide)]
    exact z
  have eHo : ∀ h, eH τ t8 h := fun h => by
    have z := F.hH h
    unfold eH at z ⊢
    rw [tq 1 (by decide), tq 2 (by decide), tq 3 (by decide), tq 4 (by decide), tq 5 (by decide), tq 6 (by decide), tq 7 (by decide)]
    exact z
  have eUo : ∀ u, eU τ t8 u := fun u => by
    have z := F.uU u
    unfold eU at z ⊢
    rw [tq 14 (by decide), tq 15 (by decide)]
    exact z
  have rows : ∀ q : Int, 12 < q → t8 q = τ q := fun q hq => by rw [tq q (by omega), F.1 q (by omega) (by omega)]
  have flds : ∀ j : Int, j ≠ 14 → (j < 15 ∨ 22 < j) → t8 0 j = τ 0 j := fun j h14 hj => by rw [tj j h14, F.2.2.2 j hj]
  rcases alt with ⟨rfl, hs', h8'⟩ | hk
  · rw [if_pos (by decide)] at mm
    simp only [if_true] at xx
    rw [zc, if_neg (by omega)] at xx
    obtain ⟨s10, e10, u10, v10, w10⟩ := su_ex s9 0 11 (s9 0 11 + 1)
    obtain ⟨t9, m9, n4, n5, n6⟩ := su_ex t8 0 7 (t8 0 7 + 1)
    rw [nx_eq, e10] at xx
    have t97 : t9 0 7 = c + 1 := by rw [n5, tj 7 (by decide), T7]
    rw [nx_eq, m9, t97, show c + 1 - 1 = c by omega] at mm
    refine st_eq xx mm ?_
    have K : ∀ q : Int, q ≠ 0 → t9 q = t8 q := fun q hq => n4 q hq
    have cX : ∀ k : Int, k ≠ 0 → k ≠ 1 → (k < o ∨ o + 3 < k) → s10 k = σ k := fun k h0 h1 h2 => by rw [u10 k h0, fr9 k h0 h1 h2]
    have c0 : ∀ j : Int, j ≠ 11 → j ≠ 13 → s10 0 j = σ 0 j := fun j h1 h2 => by rw [w10 j h1, fr0 j h2]
    have eS9 : ∀ s, 0 ≤ s → s < c → eS τ t9 s := fun s s0 s1 => by
      have z := eSo s s0 s1
      unfold eS at z ⊢
      rw [K 8 (by decide), K 9 (by decide), K 10 (by decide), K 11 (by decide), K 12 (by decide)]
      exact z
    have eH9 : ∀ h, eH τ t9 h := fun h => by
      have z := eHo h
      unfold eH at z ⊢
      rw [K 1 (by decide), K 2 (by decide), K 3 (by decide), K 4 (by decide), K 5 (by decide), K 6 (by decide), K 7 (by decide)]
      exact z
    have eU9 : ∀ u, eU τ t9 u := fun u => by
      have z := eUo u
      unfold eU at z ⊢
      rw [K 14 (by decide), K 15 (by decide)]
      exact z
    have rows9 : ∀ q : Int, 12 < q → t9 q = τ q := fun q hq => by rw [K q (by omega), rows q hq]
    have flds9 : ∀ j : Int, j ≠ 7 → j ≠ 14 → (j < 15 ∨ 22 < j) → t9 0 j = τ 0 j := fun j h7 h14 hj => by rw [n6 j h7, flds j h14 hj]
    obtain ⟨z1, z2, z3, z4, z5⟩ := hs'
    have R : ∀ q : Int, q ≠ 0 → t9 q = t7 q := fun q hq => by rw [K q hq, tq q hq]
    have so : ∀ j, s10 o j = s7 o j := fun j => by rw [u10 o (by omega), y1 o (by omega) (by omega), y8 o (by omega)]
    have so1 : s10 (o + 1) = s7 (o + 1) := by rw [u10 _ (by omega), y1 _ (by omega) (by omega), y8 _ (by omega)]
    have so2 : s10 (o + 2) = s7 (o + 2) := by rw [u10 _ (by omega), y1 _ (by omega) (by omega), y8 _ (by omega)]
    have so3 : s10 (o + 3) = s8 (o + 3) := by rw [u10 _ (by omega), y1 _ (by omega) (by omega)]
    have SOc : SOK t9 c := by
      unfold SOK
      rw [R 8 (by decide), R 9 (by decide), R 10 (by decide), R 11 (by decide), R 12 (by decide)]
      refine ⟨hc, by omega, fun i i0 i1 => (z3 i i0 i1).1.2, fun i i0 i1 => (z3 i i0 i1).2.2, z4, by rw [← z2.2.1]; exact z2.2.2.2, ?_⟩
      rcases z5 with w | w
      · exact Or.inl ⟨w.1, w.2.1⟩
      · exact Or.inr ⟨w.1.1, w.1.2, w.2.1.1, w.2.1.2⟩
    have SRc : SR s10 (27 + 4 * c) t9 c := by
      rw [← ho]
      unfold SR
      rw [R 8 (by decide), R 9 (by decide), R 10 (by decide), R 11 (by decide), R 12 (by decide), so1, so2, so3, so, so, so, so, so]
      refine ⟨by rw [ho]; exact kx_sort hc, z1.1, fun i i0 i1 => ⟨(z3 i i0 i1).1.1, (z3 i i0 i1).2.1⟩, by rw [z2.1]; exact z2.2.1, fun w => ?_, fun w => ?_⟩
      · rcases z5 with y | y
        · exact y.2.2.1
        · omega
      · rcases z5 with y | y
        · omega
        · refine ⟨y.2.2.1, y.2.2.2.1, y.2.2.2.2, fun i i0 i1 => ?_⟩
          have zz := z3 i i0 i1
          rw [z8 i i0 (by omega), y.2.2.2.2, zz.2.1]
          unfold od
          rw [if_neg (by decide), R 10 (by decide), R 12 (by decide)]
          have g1 : 0 ≤ t7 10 (8 * c + i) * (100 - t7 12 c) := Int.mul_nonneg (by omega) (by omega)
          have g2 : t7 10 (8 * c + i) * (100 - t7 12 c) ≤ 999 * 100 := Int.mul_le_mul (by omega) (by omega) (by omega) (by omega)
          rw [zm_eq (a := t7 10 (8 * c + i) * (100 - t7 12 c)) (by omega) (by omega)]
    have T23 : t9 0 23 = τ 0 23 := flds9 23 (by decide) (by decide) (by omega)
    have IW' : IW s10 t9 := by
      refine ⟨⟨by rw [v10, fr0 11 (by decide), q4.1, hcv, t97], by omega, by omega⟩, by rw [c0 12 (by decide) (by decide), T23]; exact q5, fun s s0 s1 => ?_, fun h h0 h2 => houseOK (s0 := 5) (i2.2.2.2.1 h h0 h2) (cX _ (by omega) (by omega) (by omega)) (cX _ (by omega) (by omega) (by omega)) (eH9 h) ?_, ?_⟩
      · rw [t97] at s1
        by_cases z : s = c
        · rw [z]; exact ⟨SRc, SOc⟩
        · exact sortsOK (n := c) (h0 := 0) (fun s s0 s1 => i2.2.2.1 s s0 (by omega)) (fun s k s0 s1 l0 l1 => cX k (by omega) (by omega) (by omega)) eS9 (eH9 0) s s0 (by omega)
      · have z := F.sS (s := 5) (by omega)
        unfold eS at z ⊢
        rw [R 8 (by decide), R 9 (by decide), R 10 (by decide), R 11 (by decide), R 12 (by decide)]
        exact z
      · rw [T23]
        refine rulesOK (h0 := 0) (s0 := 5) i2.2.2.2.2 (fun u k u0 u1 l0 l1 => cX k (by omega) (by omega) (by omega)) (fun u _ _ => eU9 u) (eH9 0) ?_
        have z := F.sS (s := 5) (by omega)
        unfold eS at z ⊢
        rw [R 8 (by decide), R 9 (by decide), R 10 (by decide), R 11 (by decide), R 12 (by decide)]
        exact z
    have IP' : IP s10 t9 := by
      refine ⟨fun s h l0 l1 l2 l3 => ?_, fun r r0 r1 => by rw [cX 108 (by decide) (by decide) (by omega)]; exact i3.2 r r0 r1⟩
      have old : IP1 σ τ s h := i3.1 s h l0 l1 l2 l3
      obtain ⟨p0, p1, p2, p3, p4, p5, p6⟩ := old
      have so' : s10 (pO s h) = σ (pO s h) := cX _ (by unfold pO; omega) (by unfold pO; omega) (by unfold pO; omega)
      have s1c : s10 (pO s h + 1) = σ (pO s h + 1) := cX _ (by unfold pO; omega) (by unfold pO; omega) (by unfold pO; omega)
      have s2c : s10 (pO s h + 2) = σ (pO s h + 2) := cX _ (by unfold pO; omega) (by unfold pO; omega) (by unfold pO; omega)
      have e1h := (eH9 h).1
      show IP1 s10 t9 s h
      unfold IP1
      rw [so', s1c, t97, ← e1h]
      refine ⟨p0, p1, p2, p3, fun b0 b1 => ?_, fun w => p5 (by omega), p6⟩
      by_cases z : s < c
      · have hk := i2.hr (v := h) ⟨⟨l2, l3⟩, b1⟩
        exact KN_k (eqK_of (ru := -1) (eS9 s l0 z) (eH9 h) (fun z => absurd z (by decide))) (i2.2.2.1 s l0 (by omega)).2 hk.2 (Or.inl rfl) (KN_s s1c s2c (p4 (by omega) b1))
      · have n0 : σ (pO s h) 5 = 0 := p5 (Or.inl (by omega))
        rw [n0]
        have rg := i2.rg l2 l3
        refine ⟨fun n' r' b0 b1 b2 b3 => ?_, fun n' r' b0 b1 b2 b3 => by omega⟩
        have n0' : n' = 0 := by omega
        subst n0'
        rw [s1c, show (10 : Int) * 0 + r' = r' by omega, p6 r' b1 (by omega)]
        unfold cst
        rfl
    have IC' : IC t9 := by
      rcases i4 with z | ⟨w1, w2, w3, w4, w5⟩
      · exact Or.inl (by rw [flds9 32 (by decide) (by decide) (by omega)]; exact z)
      · have x28 := flds9 28 (by decide) (by decide) (by omega)
        have x29 := flds9 29 (by decide) (by decide) (by omega)
        have x30 := flds9 30 (by decide) (by decide) (by omega)
        have x31 := flds9 31 (by decide) (by decide) (by omega)
        have s28 : 0 ≤ τ 0 28 := w2.1.2.2.2.1.1.1
        refine Or.inr ⟨by rw [flds9 32 (by decide) (by decide) (by omega)]; exact w1, ?_, by omega, by omega, by omega⟩
        rw [x28, x29, x30, x31]
        exact WK_k (fun j j0 j1 => flds9 j (by omega) (by omega) (by omega)) (rows9 16 (by decide)) (rows9 17 (by decide)) (eqK_of (eS9 _ s28 (by omega)) (eH9 _) (fun _ => eU9 _)) w2
    exact ⟨it' s10 t9 (by rw [w10 13 (by decide)]) (u10 1 (by decide)) (n6 15 (by decide)) (n6 14 (by decide)), IW', IP', IC', i5.fr (fun k l0 l1 => cX k (by omega) (by omega) (by omega)) (fun k l0 l1 => cX k (by omega) (by omega) (by omega)) ⟨flds9 33 (by decide) (by decide) (by omega), flds9 42 (by decide) (by decide) (by omega), flds9 47 (by decide) (by decide) (by omega)⟩ (fun k hk => rows9 k (by omega))⟩
  · rw [if_neg (by omega)] at mm
    rw [if_neg (show ¬ k = 0 by omega), zm_eq (a := -10 - k) (by omega) (by omega), if_pos (by omega)] at xx
    refine st_eq xx mm ?_
    have W : eW τ t8 := ⟨by rw [tj 7 (by decide), T7, hcv], flds 23 (by decide) (by omega), fun s s0 s1 => eSo s s0 (by omega), fun h _ _ => eHo h, fun u _ _ => eUo u⟩
    have IW' : IW s9 t8 := by
      have e5' : eS τ t8 5 := by
        have z := F.sS (s := 5) (by omega)
        unfold eS at z ⊢
        rw [tq 8 (by decide), tq 9 (by decide), tq 10 (by decide), tq 11 (by decide), tq 12 (by decide)]
        exact z
      refine ⟨by rw [fr0 11 (by decide), W.1]; exact q4, by rw [fr0 12 (by decide), W.2.1]; exact q5, ?_, fun h h0 h2 => houseOK (s0 := 5) (i2.2.2.2.1 h h0 h2) (fr9 _ (by omega) (by omega) (by omega)) (fr9 _ (by omega) (by omega) (by omega)) (eHo h) e5', ?_⟩
      · rw [W.1]
        exact sortsOK (h0 := 0) i2.2.2.1 (fun s k s0 s1 l0 l1 => fr9 k (by omega) (by omega) (by omega)) (fun s s0 s1 => eSo s s0 (by omega)) (eHo 0)
      · rw [W.2.1]
        exact rulesOK (h0 := 0) (s0 := 5) i2.2.2.2.2 (fun u k u0 u1 l0 l1 => fr9 k (by omega) (by omega) (by omega)) (fun u _ _ => eUo u) (eHo 0) e5'
    exact ⟨it' s9 t8 rfl rfl rfl rfl, IW', IP.fr i2 i3 (fun k l0 l1 => fr9 k (by omega) (by omega) (by omega)) (fr9 108 (by decide) (by decide) (by omega)) W, IC.fr i2 i4 (fun j l0 l1 => flds j (by omega) (by omega)) (rows 16 (by decide)) (rows 17 (by decide)) W, i5.fr (fun k l0 l1 => fr9 k (by omega) (by omega) (by omega)) (fun k l0 l1 => fr9 k (by omega) (by omega) (by omega)) ⟨flds 33 (by decide) (by omega), flds 42 (by decide) (by omega), flds 47 (by decide) (by omega)⟩ (fun k hk => rows k (by omega))⟩
