/-! a rung of a house, on both sides -/
theorem X_closeBad {σ : St} {T : Int → Int} {L p : Int} (to : TO σ T L p) (nf : σ 1 2 = 0) (h : p < L ∧ lt_ (T p)) : ∃ σ', p_X4_closeClause 1 σ = some (0, σ') ∧ FA σ σ' 1 p := by
  obtain ⟨o1, o2, o3, o4⟩ := to
  have k1 : σ 1 4 = 1 := by
    rcases o4 with ⟨a, b, c⟩ | ⟨a, b, c, d⟩ | ⟨a, b, c, d, e, f⟩ | ⟨a, b, c, d⟩ | ⟨a, b, c, d, e, f⟩
    · omega
    · exact c
    · exact absurd h.2 (by unfold lt_; unfold fg_ at b; omega)
    · exact absurd h.2 (by unfold lt_; omega)
    · exact absurd h.2 b
  obtain ⟨σ5, x5, F5⟩ := X_fail nf 1 p
  refine ⟨σ5, ?_, F5⟩
  unfold p_X4_closeClause p_X4_closeClause_17
  rw [k1, if_neg (by decide), o1, x5]
  simp only [bnd_some]
  rw [F5.2.2.1, if_neg (by decide)]
theorem rung_tail {σ τ : St} {T : Int → Int} {L p sn : Int} (ps : PS σ τ T L p) (nf : σ 1 2 = 0) (hx : HX σ τ sn) (hn : τ 1 2 < 10) (hV : σ 8 (τ 1 2) = τ 2 (20 + τ 1 2) ∧ 0 ≤ τ 2 (20 + τ 1 2) ∧ τ 2 (20 + τ 1 2) ≤ 999) : ∃ (σ' : St) (c : Int) (τ' : St), p_X0_readRung_68 7 1 σ = some (0, σ') ∧ p_X8_takeHouse_244 0 τ = some (c, τ') ∧ xH σ σ' ∧ pH τ τ' ∧ OC σ σ' τ τ' T L p c sn := by
  obtain ⟨tx, tm, to, h0, sk⟩ := ps
  obtain ⟨y1, y2, y3, y4, y5, y6, y7, y8⟩ := hx
  obtain ⟨τ1, e1, a1, b1, c1⟩ := su_ex τ 1 2 (τ 1 2 + 1)
  have f1 : pH τ τ1 := pHs (by decide) e1
  obtain ⟨τ2, e2, f2, z0, z3, w5, w4, w6, w7⟩ := M_254 (τ := τ1) (v := 0) (by decide)
  rw [if_neg (by decide)] at w5 w4 w6 w7
  have z00 : τ2 0 = τ 0 := by rw [z0, a1 0 (by decide)]
  have ps2 : PS σ τ2 T L p := ⟨tx, (f1.tr f2).tx tm, to, by rw [z00]; exact h0, by rw [z00]; exact sk⟩
  obtain ⟨σ3, c3, τ3, x3, m3, g3, alt⟩ := stop_lock ps2 nf
  obtain ⟨σ4, e4, a4, b4, c4⟩ := su_ex σ3 7 1 (σ3 7 1 + 1)
  have fx4 : xH σ3 σ4 := xHs (Or.inl rfl) e4
  have s1 : σ4 1 = σ3 1 := a4 1 (by decide)
  refine ⟨σ4, c3, τ3, ?_, ?_, ?_, (f1.tr f2).tr g3.h, ?_⟩
  · unfold p_X0_readRung_68
    rw [x3]
    simp only [bnd_some]
    rw [nx_eq, e4]
  · unfold p_X8_takeHouse_244
    rw [nx_eq, e1, e2, m3]
    simp only [bnd_some]
  · rcases alt with ⟨_, _, p4, _, r4, _⟩ | ⟨_, F4, _⟩
    · exact r4.h.tr fx4
    · exact F4.h.tr fx4
  · rcases alt with ⟨rfl, w15, p4, pp4, r4, ps4⟩ | ⟨rfl, F4, w15⟩
    · have q7 : ∀ j, j ≠ 1 → σ4 7 j = σ 7 j := fun j hj => by rw [c4 j hj, r4.1 7 (by decide)]
      have q8 : σ4 8 = σ 8 := by rw [a4 8 (by decide), r4.1 8 (by decide)]
      have u : ∀ q : Int, q ≠ 0 → τ3 q = τ2 q := fun q hq => g3.1 q hq
      have t1 : τ3 1 2 = τ 1 2 + 1 := by rw [u 1 (by decide), z3 1 (by decide) (by decide), b1]
      have t2 : τ3 2 = τ 2 := by rw [u 2 (by decide), z3 2 (by decide) (by decide), a1 2 (by decide)]
      have t3 : τ3 3 = τ 3 := by rw [u 3 (by decide), z3 3 (by decide) (by decide), a1 3 (by decide)]
      refine Or.inl ⟨rfl, by rw [s1, r4.2 2 (by omega)]; exact nf, by rw [s1, r4.2 3 (by omega)], by rw [w15, z00], ⟨?_, ?_, ?_, ?_, ?_, ?_, fun r r0 r1 => ?_, ?_⟩, p4, pp4, fx4.tx ps4.1, ps4.2.1, ps4.2.2.1.c s1, ps4.2.2.2⟩
      · rw [t1, b4, r4.1 7 (by decide), y1.1]; omega
      · rw [q7 2 (by decide), t3]; exact y2
      · rw [q7 3 (by decide), u 5 (by decide), w5, a1 5 (by decide)]; exact y3
      · rw [q7 4 (by decide), u 4 (by decide), w4, a1 4 (by decide)]; exact y4
      · rw [q7 5 (by decide), u 6 (by decide), w6, a1 6 (by decide)]; exact y5
      · rw [q7 6 (by decide), u 7 (by decide), w7, a1 7 (by decide)]; exact y6
      · rw [q8, t2]
        by_cases z : r = τ 1 2
        · rw [z]; exact hV
        · exact y7 r r0 (by omega)
      · rw [g3.2 21 (by omega), z00]; exact y8
    · exact Or.inr ⟨by decide, by rw [s1]; exact F4.2.2.1, by rw [s1, w15]; exact F4.2.2.2⟩
theorem rung_body {σ τ : St} {T : Int → Int} {L p q sn : Int} (tx : TXx σ T L) (tm : TXm τ T L) (to : TO σ T L p) (nf : σ 1 2 = 0) (hx : HX σ τ sn) (rn : RN lt_ T L p q) (mw : MW T p (q - p) 0) (h18 : τ 0 18 = q) (hn : τ 1 2 < 10) : ∃ (σ' : St) (c : Int) (τ' : St), p_X0_readRung 7 1 σ = some (0, σ') ∧ p_X8_takeHouse_52 0 0 τ = some (c, τ') ∧ xH σ σ' ∧ pH τ τ' ∧ OC σ σ' τ τ' T L p c sn := by
  obtain ⟨σ1, p1, x1, r1, sk1, to1, pp1⟩ := word_step (by decide) tx to rn mw
  obtain ⟨τ1, m1, a1, b1, c1, d1⟩ := M_52 (τ := τ) (v := 0) (by decide)
  rw [if_neg (by decide), if_pos rfl] at m1
  have f1 : pH τ τ1 := ⟨fun i hi => a1 i (by omega), fun i h1 _ _ j _ => by rw [a1 i (by omega)], fun j _ => by rw [a1 2 (by decide)], fun i hi => b1 i (by omega) (by omega)⟩
  have o2 := to.2.1
  have rn1 := rn.1
  have t2' := tx.2.1
  obtain ⟨y1, y2, y3, y4, y5, y6, y7, y8⟩ := id hx
  obtain ⟨n, hN⟩ : ∃ n, τ 1 2 = n := ⟨_, rfl⟩
  have ps1 : PS σ1 τ1 T L p1 := ⟨r1.tx tx, f1.tx tm, to1, by rw [c1, h18]; omega, by rw [c1, h18]; exact sk1⟩
  have nf1 : σ1 1 2 = 0 := by rw [r1.2 2 (by omega)]; exact nf
  obtain ⟨V, σ2, c2, τ2, x2, m2, g2, alt⟩ := num_lock (lo := 0) (hi := 999) ps1 nf1 (by decide) (by decide)
  have s7 : σ1 7 1 = n := by rw [r1.1 7 (by decide), y1.1, hN]
  obtain ⟨σ3, e3, a3, b3, c3⟩ := su_ex σ2 8 n V
  have fx3 : xH σ2 σ3 := xHs (Or.inr rfl) e3
  have xx : p_X0_readRung 7 1 σ = Option.bind (p_X4_isWord 1 1 σ3) fun x43 => if zm x43.1 = 0 then (p_X0_readRung_68 7 1 x43.2) else (nx (su x43.2 7 2 (zor (x43.2 7 2) (zshl 1 (x43.2 7 1)))) fun σ61 => Option.bind (p_X4_step 1 σ61) fun x65 => p_X0_readRung_68 7 1 x65.2) := by
    unfold p_X0_readRung
    rw [y1.1, hN, zm_eq (a := n) (by omega) (by omega), if_pos (by omega), x1]
    simp only [bnd_some]
    rw [x2]
    simp only [bnd_some]
    have zs7 : zm (σ1 7 1) = n := by rw [s7]; exact zm_eq (by omega) (by omega)
    rw [gd_pos (by rw [zs7]; omega), zs7, nx_eq, show (7 : Int) + 1 = 8 from rfl, e3]
  have q7 : ∀ j, σ2 7 j = σ 7 j → σ3 7 j = σ 7 j := fun j h => by rw [a3 7 (by decide)]; exact h
  have s31 : σ3 1 = σ2 1 := a3 1 (by decide)
  rcases alt with ⟨rfl, vb, v19, _, v15, p2, pp2, r2, ps2⟩ | ⟨hc, rfl, F2, v15⟩
  · obtain ⟨τ3, e3m, a3m, b3m, c3m⟩ := su_ex τ2 2 (20 + n) V
    have f3 : pH τ2 τ3 := pH2 (by omega) e3m
    have t12 : τ2 1 2 = n := by rw [g2.1 1 (by decide), a1 1 (by decide), hN]
    have z0 : τ3 0 = τ2 0 := a3m 0 (by decide)
    obtain ⟨tx2, tm2, to2, h02, sk2⟩ := ps2
    have to3 : TO σ3 T L p2 := to2.c s31
    have tx3 : TXx σ3 T L := fx3.tx tx2
    have tm3 := f3.tx tm2
    have sk3 : SK T L (τ3 0 16) p2 := by rw [z0]; exact sk2
    have h03 : 0 ≤ τ3 0 16 := by rw [z0]; exact h02
    have nf3 : σ3 1 2 = 0 := by rw [s31, r2.2 2 (by omega)]; exact nf1
    obtain ⟨τ4, e4, a4, b4, c4⟩ := M_hr tm3 h03 sk3
    have g4 : mF τ3 τ4 := ⟨a4, fun j hj => b4 j (by omega)⟩
    have o22 := to2.2.1
    obtain ⟨q2, rn2, gl, gn⟩ := to3.rn
    obtain ⟨A, xA, A01, iA⟩ := X_isWord (w := 1) (by decide) tx3 to3 rn2
    have hx3 : HX σ3 τ4 sn := by
      have k7 : ∀ j, σ3 7 j = σ 7 j := fun j => by rw [a3 7 (by decide), r2.1 7 (by decide), r1.1 7 (by decide)]
      have k8 : ∀ r, r ≠ n → σ3 8 r = σ 8 r := fun r hr => by rw [c3 r hr, r2.1 8 (by decide), r1.1 8 (by decide)]
      have u : ∀ q : Int, q ≠ 0 → q ≠ 2 → τ4 q = τ q := fun q h1 h2 => by rw [a4 q h1, a3m q h2, g2.1 q h1, a1 q h1]
      have u2 : ∀ r : Int, r ≠ n → τ4 2 (20 + r) = τ 2 (20 + r) := fun r hr => by rw [a4 2 (by decide), c3m _ (by omega), g2.1 2 (by decide), a1 2 (by decide)]
      refine ⟨?_, ?_, ?_, ?_, ?_, ?_, fun r r0 r1 => ?_, fun j j0 j3 => ?_⟩
      · rw [k7, u 1 (by decide) (by decide)]; exact y1
      · rw [k7, u 3 (by decide) (by decide)]; exact y2
      · rw [k7, u 5 (by decide) (by decide)]; exact y3
      · rw [k7, u 4 (by decide) (by decide)]; exact y4
      · rw [k7, u 6 (by decide) (by decide)]; exact y5
      · rw [k7, u 7 (by decide) (by decide)]; exact y6
      · rw [u 1 (by decide) (by decide)] at r1
        rw [k8 r (by omega), u2 r (by omega)]
        exact y7 r r0 r1
      · rw [g4.2 21 (by omega), z0, g2.2 21 (by omega), d1, hasb_or (by decide) (by omega), y8 j j0 j3]
        constructor
        · exact fun z => Or.inl z
        · rintro (z | z)
          · exact z
          · omega
    have n4 : τ4 1 2 = n := by rw [a4 1 (by decide), a3m 1 (by decide), t12]
    have hV4 : σ3 8 (τ4 1 2) = τ4 2 (20 + τ4 1 2) ∧ 0 ≤ τ4 2 (20 + τ4 1 2) ∧ τ4 2 (20 + τ4 1 2) ≤ 999 := by
      rw [n4, b3, a4 2 (by decide), b3m]
      exact ⟨rfl, vb⟩
    have fa : pH τ τ4 := ((f1.tr g2.h).tr f3).tr g4.h
    have fxa : xH σ σ3 := (r1.h.tr r2.h).tr fx3
    have back : ∀ (σ' : St) (c : Int) (τ' : St) (pz : Int) (σz : St) (τz : St), p2 ≤ pz → σz 1 3 = σ 1 3 → τz 0 15 = τ 0 15 → OC σz σ' τz τ' T L pz c sn → OC σ σ' τ τ' T L p c sn := fun σ' c τ' pz σz τz hz h3 h15 hoc => by
      rcases hoc with ⟨w1, w2, w3, w4, w5, p5, w6, w7⟩ | w
      · exact Or.inl ⟨w1, w2, w3.trans h3, w4.trans h15, w5, p5, by omega, w7⟩
      · exact Or.inr w
    have k15 : τ4 0 15 = τ 0 15 := by rw [b4 15 (by decide), z0, v15, b1 15 (by decide) (by decide)]
    have k13 : σ3 1 3 = σ 1 3 := by rw [s31, r2.2 3 (by omega), r1.2 3 (by omega)]
    have mm : p_X8_takeHouse_52 0 0 τ = Option.bind (p_X8_within (zm (if p2 = L then -1 else T p2)) 97 122 τ4) fun x180 => if zm x180.1 = 0 then (p_X8_takeHouse_244 0 x180.2) else (Option.bind (p_X8_readWord x180.2) fun x187 => Option.bind (p_X8_code 107 101 112 116 x187.2) fun x202 => if zm (zcmp (x187.2 0 17) x202.1) = 0 then (nx (su x202.2 0 16 (x202.2 0 18)) fun σ224 => nx (su σ224 3 2 (zor (σ224 3 2) (zshl 1 (σ224 1 2)))) fun σ243 => p_X8_takeHouse_244 0 σ243) else (Option.bind (p_X8_fails 1 (x202.2 0 16) x202.2) fun x215 => some (x215.1, x215.2))) := by
      rw [m1]
      unfold p_X8_takeHouse_137
      rw [m2]
      simp only [bnd_some]
      have zt : zm (20 + τ2 1 2) = 20 + n := by rw [t12]; exact zm_eq (by omega) (by omega)
      rw [if_pos (show zm 0 ≤ 0 by decide), if_pos (show zm 0 = 0 by decide), gd_pos (by rw [zt]; omega), zt, v19, nx_eq, e3m, e4]
      simp only [bnd_some]
    have bb : i32 (if p2 = L then -1 else T p2) := by
      by_cases z : p2 = L
      · rw [if_pos z]; exact ⟨by decide, by decide⟩
      · rw [if_neg z]
        have := (tx2.2.2 p2 o22.1 (by omega)).2
        exact ⟨by omega, by omega⟩
    by_cases cl : p2 < L ∧ lt_ (T p2)
    · rw [if_neg (show ¬ p2 = L by omega)] at mm bb
      rw [M_wi bb ⟨by decide, by decide⟩ ⟨by decide, by decide⟩, if_pos cl.2] at mm
      simp only [bnd_some, zm1n, if_false] at mm
      have sk4 : SK T L (τ4 0 16) p2 := by rw [c4]; exact sk3.at
      obtain ⟨τ5, e5, g5, d15, d16, d18, d17⟩ := M_readWord (g4.tx tm3) (by omega) sk4 rn2
      rw [e5] at mm
      simp only [bnd_some] at mm
      rw [code1] at mm
      simp only [bnd_some] at mm
      have zk := zc_MW (w := 1) (by decide) rn2
      rw [← d17] at zk
      by_cases kp : MW T p2 (q2 - p2) 1
      · rw [if_pos (zk.2 kp)] at mm
        obtain ⟨τ6, e6, a6, b6, c6⟩ := su_ex τ5 0 16 (τ5 0 18)
        obtain ⟨τ7, e7, a7, b7, c7⟩ := su_ex τ6 3 2 (zor (τ6 3 2) (zshl 1 (τ6 1 2)))
        rw [nx_eq, e6, nx_eq, e7] at mm
        have f6 : pH τ5 τ6 := pH0 (j := 16) (by decide) e6
        have f7 : pH τ6 τ7 := pHs (by decide) e7
        obtain ⟨σ4, x4, a4x, b4x, c4x⟩ := su_ex σ3 7 2 (zor (σ3 7 2) (zshl 1 (σ3 7 1)))
        have fx4 : xH σ3 σ4 := xHs (Or.inl rfl) x4
        have s41 : σ4 1 = σ3 1 := a4x 1 (by decide)
        obtain ⟨σ5, p5, x5, r5, sk5, to5, pp5⟩ := word_step (w := 1) (by decide) (fx4.tx tx3) (to3.c s41) rn2 kp
        have q2b := rn2.1
        have i16 : τ7 0 16 = q2 := by rw [a7 0 (by decide), b6, d18]
        have ps7 : PS σ5 τ7 T L p5 := ⟨r5.tx (fx4.tx tx3), f7.tx (f6.tx (g5.tx (g4.tx tm3))), to5, by omega, by rw [i16]; exact sk5⟩
        have k56 : ∀ q : Int, q ≠ 0 → τ6 q = τ4 q := fun q hq => by rw [a6 q hq, g5.1 q hq]
        have hx7 : HX σ5 τ7 sn := by
          obtain ⟨w1, w2, w3, w4, w5, w6, w7, w8⟩ := hx3
          have k7 : ∀ j, j ≠ 2 → σ5 7 j = σ3 7 j := fun j hj => by rw [r5.1 7 (by decide), c4x j hj]
          have u : ∀ q : Int, q ≠ 0 → q ≠ 3 → τ7 q = τ4 q := fun q h1 h2 => by rw [a7 q h2, k56 q h1]
          refine ⟨?_, ?_, ?_, ?_, ?_, ?_, ?_, fun j j0 j3 => ?_⟩
          · rw [k7 1 (by decide), u 1 (by decide) (by decide)]; exact w1
          · rw [b7, r5.1 7 (by decide), b4x, k56 3 (by decide), k56 1 (by decide), w2, w1.1]
          · rw [k7 3 (by decide), u 5 (by decide) (by decide)]; exact w3
          · rw [k7 4 (by decide), u 4 (by decide) (by decide)]; exact w4
          · rw [k7 5 (by decide), u 6 (by decide) (by decide)]; exact w5
          · rw [k7 6 (by decide), u 7 (by decide) (by decide)]; exact w6
          · rw [u 1 (by decide) (by decide), u 2 (by decide) (by decide), r5.1 8 (by decide), a4x 8 (by decide)]; exact w7
          · rw [a7 0 (by decide), c6 21 (by decide), g5.2 21 (by omega)]; exact w8 j j0 j3
        have n7 : τ7 1 2 = n := by rw [a7 1 (by decide), k56 1 (by decide), n4]
        have hV7 : σ5 8 (τ7 1 2) = τ7 2 (20 + τ7 1 2) ∧ 0 ≤ τ7 2 (20 + τ7 1 2) ∧ τ7 2 (20 + τ7 1 2) ≤ 999 := by
          rw [n7, r5.1 8 (by decide), a4x 8 (by decide), a7 2 (by decide), k56 2 (by decide)]
          rw [n4] at hV4
          exact hV4
        obtain ⟨σ6, c6', τ8, x6, m6, fx6, fm6, oc6⟩ := rung_tail ps7 (by rw [r5.2 2 (by omega), s41]; exact nf3) hx7 (by omega) hV7
        have a1' : A = 1 := iA.2 kp
        refine ⟨σ6, c6', τ8, ?_, mm.trans m6, ((fxa.tr fx4).tr r5.h).tr fx6, ((fa.tr g5.h).tr (f6.tr f7)).tr fm6, ?_⟩
        · rw [xx, xA]
          simp only [bnd_some]
          rw [a1', if_neg (by decide), nx_eq, x4, x5]
          simp only [bnd_some]
          exact x6
        · refine back σ6 c6' τ8 p5 σ5 τ7 (by omega) (by rw [r5.2 3 (by omega), s41, k13]) ?_ oc6
          rw [a7 0 (by decide), c6 15 (by decide), d15, k15]
      · rw [if_neg (fun z => kp (zk.1 z))] at mm
        obtain ⟨τ6, m6, g6, v6⟩ := M_fails τ5 1 (τ5 0 16)
        rw [m6] at mm
        simp only [bnd_some] at mm
        obtain ⟨σ4, x4, F4⟩ := X_closeBad to3 nf3 cl
        obtain ⟨σ5, e5x, a5x, b5x, c5x⟩ := su_ex σ4 7 1 (σ4 7 1 + 1)
        have fx5 : xH σ4 σ5 := xHs (Or.inl rfl) e5x
        have s51 : σ5 1 = σ4 1 := a5x 1 (by decide)
        have a0 : A = 0 := by
          rcases A01 with z | z
          · exact z
          · exact absurd (iA.1 z) kp
        refine ⟨σ5, 1, τ6, ?_, mm, (fxa.tr F4.h).tr fx5, (fa.tr g5.h).tr g6.h, Or.inr ⟨by decide, by rw [s51]; exact F4.2.2.1, by rw [s51, v6, d16]; exact F4.2.2.2⟩⟩
        rw [xx, xA]
        simp only [bnd_some]
        rw [a0, if_pos (by decide)]
        unfold p_X0_readRung_68
        rw [x4]
        simp only [bnd_some]
        rw [nx_eq, e5x]
    · have nw : ¬ (97 ≤ (if p2 = L then -1 else T p2) ∧ (if p2 = L then -1 else T p2) ≤ 122) := by
        by_cases z : p2 = L
        · rw [if_pos z]; omega
        · rw [if_neg z]
          exact fun y => cl ⟨by omega, y⟩
      rw [M_wi bb ⟨by decide, by decide⟩ ⟨by decide, by decide⟩, if_neg nw] at mm
      simp only [bnd_some, zm0t, if_true] at mm
      have a0 : A = 0 := by
        rcases A01 with z | z
        · exact z
        · have := (iA.1 z).pos (by decide) rn2
          exact absurd this.2 cl
      obtain ⟨σ6, c6', τ8, x6, m6, fx6, fm6, oc6⟩ := rung_tail (σ := σ3) (τ := τ4) (p := p2) ⟨tx3, g4.tx tm3, to3, by omega, by rw [c4]; exact sk3.at⟩ nf3 hx3 (by omega) hV4
      refine ⟨σ6, c6', τ8, ?_, mm.trans m6, fxa.tr fx6, fa.tr fm6, back σ6 c6' τ8 p2 σ3 τ4 (by omega) k13 k15 oc6⟩
      rw [xx, xA]
      simp only [bnd_some]
      rw [a0, if_pos (by decide)]
      exact x6
  · have zc : zm c2 = c2 := zm_eq (by omega) (by omega)
    have mm : p_X8_takeHouse_52 0 0 τ = some (c2, τ2) := by
      rw [m1]
      unfold p_X8_takeHouse_137
      rw [m2]
      simp only [bnd_some]
      rw [zc, if_neg (by omega)]
    have ft : FT σ2 := by unfold FT; rw [F2.2.2.1]; omega
    have to3 : TO σ3 T L p1 := (F2.to to1).c s31
    have tx3 : TXx σ3 T L := fx3.tx (F2.tx (r1.tx tx))
    obtain ⟨q2, rn2, gl, gn⟩ := to3.rn
    obtain ⟨A, xA, A01, iA⟩ := X_isWord (w := 1) (by decide) tx3 to3 rn2
    have e68 : ∀ σz : St, σz 1 2 = c2 → σz 1 3 = p1 → xH σ σz → ∃ σ', p_X0_readRung_68 7 1 σz = some (0, σ') ∧ xH σ σ' ∧ σ' 1 2 = c2 ∧ σ' 1 3 = p1 := fun σz h2 h3 hz => by
      obtain ⟨σ5, e5x, a5x, b5x, c5x⟩ := su_ex σz 7 1 (σz 7 1 + 1)
      refine ⟨σ5, ?_, hz.tr (xHs (Or.inl rfl) e5x), by rw [a5x 1 (by decide)]; exact h2, by rw [a5x 1 (by decide)]; exact h3⟩
      unfold p_X0_readRung_68
      rw [X_closeF (by unfold FT; omega)]
      simp only [bnd_some]
      rw [nx_eq, e5x]
    have fx3' : xH σ σ3 := (r1.h.tr F2.h).tr fx3
    have h2 : σ3 1 2 = c2 := by rw [s31]; exact F2.2.2.1
    have h3 : σ3 1 3 = p1 := by rw [s31]; exact F2.2.2.2
    rcases A01 with rfl | rfl
    · obtain ⟨σ5, x5, f5, k2, k3⟩ := e68 σ3 h2 h3 fx3'
      refine ⟨σ5, c2, τ2, ?_, mm, f5, f1.tr g2.h, Or.inr ⟨by omega, k2, by rw [k3, v15]⟩⟩
      rw [xx, xA]
      simp only [bnd_some]
      rw [if_pos (by decide)]
      exact x5
    · obtain ⟨σ4, x4, a4x, b4x, c4x⟩ := su_ex σ3 7 2 (zor (σ3 7 2) (zshl 1 (σ3 7 1)))
      have fx4 : xH σ3 σ4 := xHs (Or.inl rfl) x4
      have s41 : σ4 1 = σ3 1 := a4x 1 (by decide)
      have te := (to3.c s41).e
      have o31 := to3.2.1
      obtain ⟨σ5, p5, x5, r5, _⟩ := X_step (fx4.tx tx3) (by omega : 0 ≤ σ4 1 6 ∧ σ4 1 6 ≤ L)
      obtain ⟨σ6, x6, f6, k2, k3⟩ := e68 σ5 (by rw [r5.2 2 (by omega), s41]; exact h2) (by rw [r5.2 3 (by omega), s41]; exact h3) ((fx3'.tr fx4).tr r5.h)
      refine ⟨σ6, c2, τ2, ?_, mm, f6, f1.tr g2.h, Or.inr ⟨by omega, k2, by rw [k3, v15]⟩⟩
      rw [xx, xA]
      simp only [bnd_some]
      rw [if_neg (by decide), nx_eq, x4, x5]
      simp only [bnd_some]
      exact x6
