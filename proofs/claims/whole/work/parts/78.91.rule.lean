/-! rule -/
theorem M_143k {n : Nat} {z k v c : Int} {τ : St} (hc : 0 ≤ c ∧ c < 4) (h23 : τ 0 23 = c) (hk : 1 ≤ k ∧ k ≤ 5) : ∃ τ', p_X8_takeRule_143 (n + 1) z k v τ = some (k, τ') ∧ pU c τ τ' ∧ τ' 0 15 = τ 0 15 := by
  obtain ⟨τ', e, f, g⟩ := M_289 hc h23 k hk
  refine ⟨τ', ?_, f, g⟩
  show p_X8_takeRule_143b (p_X8_takeRule_143 n) z k v τ = _
  unfold p_X8_takeRule_143b
  rw [zm_eq (a := k) (by omega) (by omega), if_neg (by omega), e]
theorem bar_word {σ τ : St} {T : Int → Int} {L p q o c m a b hi v5 vs0 : Int} {w : Nat} (ho : o = 115 + 6 * c) (hc : 0 ≤ c ∧ c < 4) (hm : 0 ≤ m ∧ m < 6) (hw : (w = 9 ∧ vs0 = 1 ∧ a = 2 ∧ b = 3 ∧ hi = 9) ∨ (w = 10 ∧ vs0 = 2 ∧ a = 4 ∧ b = 5 ∧ hi = 11)) (h5 : σ o 5 = m) (ps : PS σ τ T L p) (nf : σ 1 2 = 0) (hb : HB σ τ o c m) (rn : RN lt_ T L p q) (mw : MW T p (q - p) w) (hv : 0 ≤ v5 ∧ v5 < vs0) (n : Nat) : ∃ (σ' : St) (k : Int) (τ' : St), (∀ K : St → Option (Int × St), (Option.bind (p_X4_step 1 σ) fun x73 => spX o a b hi K x73.2) = K σ') ∧ p_X8_takeRule_143 (n + 1) (30 * c + 5 * m) 0 v5 τ = p_X8_takeRule_143 n (30 * c + 5 * m) k vs0 τ' ∧ xU o σ σ' ∧ pU c τ τ' ∧ σ' o = σ o ∧ (∀ j k' : Int, 0 ≤ j → j ≤ 4 → k' ≠ m → σ' (o + 1 + j) k' = σ (o + 1 + j) k') ∧ τ' 14 = τ 14 ∧ (∀ i : Int, (i < 30 * c + 5 * m ∨ 30 * c + 5 * m + 4 < i) → τ' 15 i = τ 15 i) ∧ ((k = 0 ∧ σ' 1 2 = 0 ∧ σ' 1 3 = σ 1 3 ∧ τ' 0 15 = τ 0 15 ∧ HB σ' τ' o c m ∧ ∃ p', p < p' ∧ PS σ' τ' T L p') ∨ ((1 ≤ k ∧ k ≤ 5) ∧ σ' 1 2 = k ∧ σ' 1 3 = τ' 0 15 ∧ TXx σ' T L ∧ ∃ p', TO σ' T L p')) := by
  have hw11 : w < 11 := by omega
  obtain ⟨tx, tm, to, h0, sk⟩ := ps
  obtain ⟨τ1, e1, a1, b1, c1⟩ := M_hr tm h0 sk
  have g1 : mF τ τ1 := ⟨a1, fun j hj => b1 j (by omega)⟩
  obtain ⟨pq, pL, lp⟩ := mw.pos hw11 rn
  have o2 := to.2.1
  obtain ⟨τ2, e2, g2, d15, d16, d18, d17⟩ := M_readWord (g1.tx tm) (by omega) (show SK T L (τ1 0 16) p by rw [c1]; exact sk.at) rn
  have z9 := zc_MW (w := 9) (by decide) rn
  have z10 := zc_MW (w := 10) (by decide) rn
  rw [← d17] at z9 z10
  obtain ⟨τ3, e3, a3, b3, c3⟩ := su_ex τ2 0 16 (τ2 0 18)
  have g3 : mF τ2 τ3 := mFs (j := 16) (by decide) e3
  obtain ⟨σ1, p1, x1, r1, sk1, to1, pp1⟩ := word_step hw11 tx to rn mw
  have rn1 := rn.1
  have i16 : τ3 0 16 = q := by rw [b3, d18]
  have G : mF τ τ3 := (g1.tr g2).tr g3
  have ps3 : PS σ1 τ3 T L p1 := ⟨r1.tx tx, G.tx tm, to1, by omega, by rw [i16]; exact sk1⟩
  obtain ⟨v, hvv⟩ : ∃ v, v = 30 * c + 5 * m + (a - 1) := ⟨_, rfl⟩
  have hb3 : HB σ1 τ3 o c m := by
    intro j j0 j4
    rw [r1.1 _ (by omega), G.1 15 (by decide)]
    exact hb j j0 j4
  obtain ⟨σ4, k4, τ4, x4, m4, fx4, fm4, so4, oth4, r14, r15, alt⟩ := span_lock (a := a) (b := b) (hi := hi) (v := v) ho hc hm (by omega) (by rw [r1.1 o (by omega)]; exact h5) ps3 (by rw [r1.2 2 (by omega)]; exact nf) hb3
  have bp := (tx.2.2 p o2.1 pL).2
  have m223 : p_X8_takeRule_223 (p_X8_takeRule_143 n) (30 * c + 5 * m) v5 vs0 τ2 = p_X8_takeRule_143 n (30 * c + 5 * m) k4 vs0 τ4 := by
    unfold p_X8_takeRule_223 p_X8_takeRule_267 p_X8_takeRule_281
    rw [zm_eq (a := v5) (by omega) (by omega), zm_eq (a := vs0) (by omega) (by omega), if_pos hv.2, nx_eq, e3]
    rcases hw with ⟨_, h1, h2, _, h4⟩ | ⟨_, h1, h2, _, h4⟩
    · rw [if_pos h1, if_pos h1, show 30 * c + 5 * m + 1 = v by omega, ← h4, m4]
      simp only [bnd_some]
    · rw [if_neg (by omega), if_neg (by omega), show 30 * c + 5 * m + 3 = v by omega, ← h4, m4]
      simp only [bnd_some]
  have nb : ¬ zm (T p) = 59 := by
    rw [zm_eq (a := T p) (by omega) (by omega)]
    unfold lt_ at lp
    omega
  have mm : p_X8_takeRule_143 (n + 1) (30 * c + 5 * m) 0 v5 τ = p_X8_takeRule_143 n (30 * c + 5 * m) k4 vs0 τ4 := by
    show p_X8_takeRule_143b (p_X8_takeRule_143 n) (30 * c + 5 * m) 0 v5 τ = _
    unfold p_X8_takeRule_143b
    rw [if_pos (by decide), e1]
    simp only [bnd_some]
    rw [if_neg (show ¬ p = L by omega), if_neg nb, e2]
    simp only [bnd_some]
    rw [code9]
    simp only []
    rw [code10]
    simp only []
    rcases hw with ⟨h0', h1, _⟩ | ⟨h0', h1, _⟩
    · subst h0'
      rw [if_pos (z9.2 mw), ← h1]
      exact m223
    · subst h0'
      have n9 : ¬ MW T p (q - p) 9 := mw.ne (by decide) (by decide) rn (by have := cw_v; rw [this.2.2.2.2.2.2.2.2.2.1, this.2.2.2.2.2.2.2.2.2.2]; decide)
      rw [if_neg (fun y => n9 (z9.1 y)), if_pos (z10.2 mw), ← h1]
      exact m223
  have k15 : τ3 0 15 = τ 0 15 := by rw [c3 15 (by decide), d15, b1 15 (by decide)]
  refine ⟨σ4, k4, τ4, fun K => ?_, mm, r1.u.tr fx4, G.u.tr fm4, by rw [so4, r1.1 o (by omega)], fun j k' j0 j4 hk' => by rw [oth4 j k' j0 j4 hk', r1.1 _ (by omega)], by rw [r14, G.1 14 (by decide)], fun i hi' => by rw [r15 i hi', G.1 15 (by decide)], ?_⟩
  · rw [x1]
    simp only [bnd_some]
    exact x4 K
  · rcases alt with ⟨w1, w2, w3, w4, w5, p5, w6, w7⟩ | w
    · exact Or.inl ⟨w1, w2, by rw [w3, r1.2 3 (by omega)], by rw [w4, k15], w5, p5, by omega, w7⟩
    · exact Or.inr w
theorem HU.sp {σ σ' τ τ' : St} {o c m : Int} (hu : HU σ τ o c) (hm : τ 14 c = m) (so : σ' o = σ o) (oth : ∀ j k' : Int, 0 ≤ j → j ≤ 4 → k' ≠ m → σ' (o + 1 + j) k' = σ (o + 1 + j) k') (r14 : τ' 14 = τ 14) (r15 : ∀ i : Int, (i < 30 * c + 5 * m ∨ 30 * c + 5 * m + 4 < i) → τ' 15 i = τ 15 i) : HU σ' τ' o c := by
  refine ⟨by rw [so, r14]; exact hu.1, fun k k0 k1 j j0 j4 => ?_⟩
  rw [r14] at k1
  rw [oth j k j0 j4 (by omega), r15 _ (by omega)]
  exact hu.2 k k0 k1 j j0 j4
/-- months, if told, and the end of a clause -/
theorem bar_months {σ τ : St} {T : Int → Int} {L p o c m v5 : Int} (ho : o = 115 + 6 * c) (hc : 0 ≤ c ∧ c < 4) (hm : 0 ≤ m ∧ m < 6) (h23 : τ 0 23 = c) (hmm : τ 14 c = m) (ps : PS σ τ T L p) (nf : σ 1 2 = 0) (hu : HU σ τ o c) (hb : HB σ τ o c m) (h5 : 0 ≤ v5 ∧ v5 ≤ 1) (h9 : ∀ q, RN lt_ T L p q → v5 < 1 → ¬ MW T p (q - p) 9) (n : Nat) : ∃ (σ' : St) (k : Int) (τ' : St), p_X5_readBar_116 o 1 σ = some (0, σ') ∧ p_X8_takeRule_143 (n + 2) (30 * c + 5 * m) 0 v5 τ = some (k, τ') ∧ xU o σ σ' ∧ pU c τ τ' ∧ OU σ σ' τ τ' T L p k o c := by
  obtain ⟨q, rn, _, _⟩ := ps.2.2.1.rn
  obtain ⟨A, xA, A01, iA⟩ := X_isWord (w := 10) (by decide) ps.1 ps.2.2.1 rn
  have xe := X_116e (o := o) xA A01
  have h5o : σ o 5 = m := by rw [hu.1.1, hmm]
  by_cases y : MW T p (q - p) 10
  · rw [if_neg (by have := iA.2 y; omega)] at xe
    obtain ⟨σ1, k1, τ1, x1, m1, fx1, fm1, so1, oth1, r14, r15, alt⟩ := bar_word (w := 10) (vs0 := 2) (a := 4) (b := 5) (hi := 11) (v5 := v5) ho hc hm (Or.inr ⟨rfl, rfl, rfl, rfl, rfl⟩) h5o ps nf hb rn y (by omega) (n + 1)
    have t23 : τ1 0 23 = c := by rw [fm1.2.2.2 23 (by omega)]; exact h23
    have xe2 := xe.trans (x1 (p_X5_readBar_169 o 1))
    rcases alt with ⟨rfl, w2, w3, w4, w5, p5, w6, w7⟩ | ⟨kb, w2, w3, w4, p5, w5⟩
    · obtain ⟨σ2, k2, τ2, x2, m2, fx2, fm2, oc2⟩ := bar_end (v5 := 2) ho hc hm t23 (by rw [r14]; exact hmm) w7 w2 (hu.sp hmm so1 oth1 r14 r15) w5 (by decide) (fun q' _ => ⟨fun z => absurd z (by decide), fun z => absurd z (by decide)⟩) n (30 * c + 5 * m)
      refine ⟨σ2, k2, τ2, xe2.trans x2, m1.trans m2, fx1.tr fx2, fm1.tr fm2, ?_⟩
      rcases oc2 with ⟨u1, u2, u3, u4, u5, p6, u6, u7⟩ | u
      · exact Or.inl ⟨u1, u2, by rw [u3, w3], by rw [u4, w4], u5, p6, by omega, u7⟩
      · exact Or.inr u
    · obtain ⟨σ2, x2, fx2, q2⟩ := X_169F (m := m) (o := o) (σ := σ1) (by omega) (by unfold FT; omega)
      obtain ⟨τ2, m2, fm2, v2⟩ := M_143k (n := n) (z := 30 * c + 5 * m) (v := 2) hc t23 kb
      exact ⟨σ2, k1, τ2, xe2.trans x2, m1.trans m2, fx1.tr fx2, fm1.tr fm2, Or.inr ⟨kb, by rw [q2]; exact w2, by rw [q2, v2]; exact w3⟩⟩
  · have a0 : A = 0 := by
      rcases A01 with z | z
      · exact z
      · exact absurd (iA.1 z) y
    rw [if_pos a0] at xe
    obtain ⟨σ2, k2, τ2, x2, m2, fx2, fm2, oc2⟩ := bar_end (v5 := v5) ho hc hm h23 hmm ps nf hu hb (by omega) (fun q' rn' => ⟨fun z => h9 q' rn' z, fun _ => by rw [RN.un rn' rn]; exact y⟩) (n + 1) (30 * c + 5 * m)
    exact ⟨σ2, k2, τ2, xe.trans x2, m2, fx2, fm2, oc2⟩
theorem bar_body {σ τ : St} {T : Int → Int} {L p q o c m : Int} (ho : o = 115 + 6 * c) (hc : 0 ≤ c ∧ c < 4) (hm : 0 ≤ m ∧ m < 6) (h23 : τ 0 23 = c) (hmm : τ 14 c = m) (tx : TXx σ T L) (tm : TXm τ T L) (to : TO σ T L p) (nf : σ 1 2 = 0) (hu : HU σ τ o c) (rn : RN lt_ T L p q) (mw : MW T p (q - p) 8) (h17 : τ 0 17 = sd T p (q - p).toNat) (h18 : τ 0 18 = q) : ∃ (σ' : St) (k : Int) (τ' : St), p_X5_readBar o 1 σ = some (0, σ') ∧ (nx (su τ 0 16 (τ 0 18)) fun σ59 => gd (0 ≤ zm (σ59 0 23) ∧ zm (σ59 0 23) < 4) (nz (((30 * (σ59 0 23)) + (5 * (σ59 14 (zm (σ59 0 23)))))) fun z81 => Option.bind (p_X8_takeNumber 0 999 σ59) fun x87 => gd (0 ≤ zm z81 ∧ zm z81 < 120) (nx (su x87.2 15 (zm z81) (x87.2 0 19)) fun σ101 => gd (0 ≤ zm (z81 + 1) ∧ zm (z81 + 1) < 120) (nx (su σ101 15 (zm (z81 + 1)) 0) fun σ110 => gd (0 ≤ zm (z81 + 2) ∧ zm (z81 + 2) < 120) (nx (su σ110 15 (zm (z81 + 2)) 9) fun σ120 => gd (0 ≤ zm (z81 + 3) ∧ zm (z81 + 3) < 120) (nx (su σ120 15 (zm (z81 + 3)) 0) fun σ129 => gd (0 ≤ zm (z81 + 4) ∧ zm (z81 + 4) < 120) (nx (su σ129 15 (zm (z81 + 4)) 11) fun σ139 => p_X8_takeRule_143 FU z81 x87.1 0 σ139))))))) = some (k, τ') ∧ xU o σ σ' ∧ pU c τ τ' ∧ OU σ σ' τ τ' T L p k o c := by
  obtain ⟨n, hn⟩ : ∃ n, FU = n + 3 := ⟨99997, rfl⟩
  obtain ⟨σ1, p1, x1, r1, sk1, to1, pp1⟩ := word_step (by decide) tx to rn mw
  obtain ⟨τ1, e1, a1, b1, c1⟩ := su_ex τ 0 16 (τ 0 18)
  have g1 : mF τ τ1 := mFs (j := 16) (by decide) e1
  have o2 := to.2.1
  have rn1 := rn.1
  have ps1 : PS σ1 τ1 T L p1 := ⟨r1.tx tx, g1.tx tm, to1, by rw [b1, h18]; omega, by rw [b1, h18]; exact sk1⟩
  have nf1 : σ1 1 2 = 0 := by rw [r1.2 2 (by omega)]; exact nf
  obtain ⟨V, σ2, k2, τ2, x2, n2, g2, alt⟩ := num_lock (lo := 0) (hi := 999) ps1 nf1 (by decide) (by decide)
  have h5o : σ o 5 = m := by rw [hu.1.1, hmm]
  have h51 : σ1 o 5 = m := by rw [r1.1 o (by omega)]; exact h5o
  obtain ⟨s3, e3, u3, v3, w3⟩ := su_ex σ2 (o + 1) m V
  obtain ⟨s4, e4, u4, v4, w4⟩ := su_ex s3 (o + 2) m 0
  obtain ⟨s5, e5, u5, v5, w5⟩ := su_ex s4 (o + 3) m 9
  obtain ⟨s6, e6, u6, v6, w6⟩ := su_ex s5 (o + 4) m 0
  obtain ⟨s7, e7, u7, v7, w7⟩ := su_ex s6 (o + 5) m 11
  have fx7 : xU o σ2 s7 := (((xUs (by omega) (by omega) e3).tr (xUs (by omega) (by omega) e4)).tr ((xUs (by omega) (by omega) e5).tr (xUs (by omega) (by omega) e6))).tr (xUs (by omega) (by omega) e7)
  have s71 : s7 1 = σ2 1 := by rw [u7 1 (by omega), u6 1 (by omega), u5 1 (by omega), u4 1 (by omega), u3 1 (by omega)]
  have s2k : ∀ k : Int, k ≠ 1 → σ2 k = σ1 k := fun k hk => by
    rcases alt with ⟨_, _, _, _, _, p2, _, r2, _⟩ | ⟨_, _, F2, _⟩
    · exact r2.1 k hk
    · exact F2.1 k hk
  have s7o : s7 o = σ o := by rw [u7 o (by omega), u6 o (by omega), u5 o (by omega), u4 o (by omega), u3 o (by omega), s2k o (by omega), r1.1 o (by omega)]
  have xx : p_X5_readBar o 1 σ = Option.bind (p_X4_isWord 1 9 s7) fun x66 => if zm x66.1 = 0 then (p_X5_readBar_116 o 1 x66.2) else (Option.bind (p_X4_step 1 x66.2) fun x73 => spX o 2 3 9 (p_X5_readBar_116 o 1) x73.2) := by
    have q1 : zm (σ1 o 5) = m := by rw [h51]; exact zm_eq (by omega) (by omega)
    have q3 : zm (s3 o 5) = m := by rw [u3 o (by omega), s2k o (by omega)]; exact q1
    have q4 : zm (s4 o 5) = m := by rw [u4 o (by omega)]; exact q3
    have q5 : zm (s5 o 5) = m := by rw [u5 o (by omega)]; exact q4
    have q6 : zm (s6 o 5) = m := by rw [u6 o (by omega)]; exact q5
    unfold p_X5_readBar spX
    rw [x1]
    simp only [bnd_some]
    rw [x2]
    simp only [bnd_some]
    rw [gd_pos (by rw [q1]; omega), q1, nx_eq, e3, gd_pos (by rw [q3]; omega), q3, nx_eq, e4, gd_pos (by rw [q4]; omega), q4, nx_eq, e5, gd_pos (by rw [q5]; omega), q5, nx_eq, e6, gd_pos (by rw [q6]; omega), q6, nx_eq, e7]
  obtain ⟨t3, m3, a3, b3, d3⟩ := su_ex τ2 15 (30 * c + 5 * m) (τ2 0 19)
  obtain ⟨t4, m4, a4, b4, d4⟩ := su_ex t3 15 (30 * c + 5 * m + 1) 0
  obtain ⟨t5, m5, a5, b5, d5⟩ := su_ex t4 15 (30 * c + 5 * m + 2) 9
  obtain ⟨t6, m6, a6, b6, d6⟩ := su_ex t5 15 (30 * c + 5 * m + 3) 0
  obtain ⟨t7, m7, a7, b7, d7⟩ := su_ex t6 15 (30 * c + 5 * m + 4) 11
  have fm7 : pU c τ2 t7 := (((pU15 (by omega) m3).tr (pU15 (by omega) m4)).tr ((pU15 (by omega) m5).tr (pU15 (by omega) m6))).tr (pU15 (by omega) m7)
  have t7q : ∀ q : Int, q ≠ 15 → t7 q = τ2 q := fun q hq => by rw [a7 q hq, a6 q hq, a5 q hq, a4 q hq, a3 q hq]
  have mm : (nx (su τ 0 16 (τ 0 18)) fun σ59 => gd (0 ≤ zm (σ59 0 23) ∧ zm (σ59 0 23) < 4) (nz (((30 * (σ59 0 23)) + (5 * (σ59 14 (zm (σ59 0 23)))))) fun z81 => Option.bind (p_X8_takeNumber 0 999 σ59) fun x87 => gd (0 ≤ zm z81 ∧ zm z81 < 120) (nx (su x87.2 15 (zm z81) (x87.2 0 19)) fun σ101 => gd (0 ≤ zm (z81 + 1) ∧ zm (z81 + 1) < 120) (nx (su σ101 15 (zm (z81 + 1)) 0) fun σ110 => gd (0 ≤ zm (z81 + 2) ∧ zm (z81 + 2) < 120) (nx (su σ110 15 (zm (z81 + 2)) 9) fun σ120 => gd (0 ≤ zm (z81 + 3) ∧ zm (z81 + 3) < 120) (nx (su σ120 15 (zm (z81 + 3)) 0) fun σ129 => gd (0 ≤ zm (z81 + 4) ∧ zm (z81 + 4) < 120) (nx (su σ129 15 (zm (z81 + 4)) 11) fun σ139 => p_X8_takeRule_143 FU z81 x87.1 0 σ139))))))) = p_X8_takeRule_143 (n + 3) (30 * c + 5 * m) k2 0 t7 := by
    have q23 : τ1 0 23 = c := by rw [c1 23 (by decide)]; exact h23
    have z23 : zm (τ1 0 23) = c := by rw [q23]; exact zm_eq (by omega) (by omega)
    rw [nx_eq, e1, gd_pos (by rw [z23]; omega), z23, q23, a1 14 (by decide), hmm, nz_eq, n2]
    simp only [bnd_some]
    rw [zm_eq (a := 30 * c + 5 * m) (by omega) (by omega), gd_pos (by omega), nx_eq, m3, zm_eq (a := 30 * c + 5 * m + 1) (by omega) (by omega), gd_pos (by omega), nx_eq, m4, zm_eq (a := 30 * c + 5 * m + 2) (by omega) (by omega), gd_pos (by omega), nx_eq, m5, zm_eq (a := 30 * c + 5 * m + 3) (by omega) (by omega), gd_pos (by omega), nx_eq, m6, zm_eq (a := 30 * c + 5 * m + 4) (by omega) (by omega), gd_pos (by omega), nx_eq, m7, hn]
  rw [mm]
  have FM : pU c τ t7 := (g1.u.tr g2.u).tr fm7
  have t23 : t7 0 23 = c := by rw [FM.2.2.2 23 (by omega)]; exact h23
  rcases alt with ⟨rfl, vb, v19, _, v15, p2, pp2, r2, ps2⟩ | ⟨hk, rfl, F2, v15⟩
  · have to7 : TO s7 T L p2 := ps2.2.2.1.c s71
    have tx7 := fx7.tx (by omega) ps2.1
    have z0 : t7 0 = τ2 0 := t7q 0 (by decide)
    have ps7 : PS s7 t7 T L p2 := ⟨tx7, fm7.tx ps2.2.1, to7, by rw [z0]; exact ps2.2.2.2.1, by rw [z0]; exact ps2.2.2.2.2⟩
    have nf7 : s7 1 2 = 0 := by rw [s71, r2.2 2 (by omega)]; exact nf1
    have FX : xU o σ s7 := (r1.u.tr r2.u).tr fx7
    have m14 : t7 14 c = m := by rw [t7q 14 (by decide), g2.1 14 (by decide), a1 14 (by decide)]; exact hmm
    have hb7 : HB s7 t7 o c m := by
      intro j j0 j4
      rcases (by omega : j = 0 ∨ j = 1 ∨ j = 2 ∨ j = 3 ∨ j = 4) with rfl | rfl | rfl | rfl | rfl
      · rw [show o + 1 + 0 = o + 1 by omega, show 30 * c + 5 * m + 0 = 30 * c + 5 * m by omega, u7 _ (by omega), u6 _ (by omega), u5 _ (by omega), u4 _ (by omega), v3, d7 _ (by omega), d6 _ (by omega), d5 _ (by omega), d4 _ (by omega), b3, v19]
        exact ⟨rfl, vb⟩
      · rw [show o + 1 + 1 = o + 2 by omega, u7 _ (by omega), u6 _ (by omega), u5 _ (by omega), v4, d7 _ (by omega), d6 _ (by omega), d5 _ (by omega), b4]
        decide
      · rw [show o + 1 + 2 = o + 3 by omega, u7 _ (by omega), u6 _ (by omega), v5, d7 _ (by omega), d6 _ (by omega), b5]
        decide
      · rw [show o + 1 + 3 = o + 4 by omega, u7 _ (by omega), v6, d7 _ (by omega), b6]
        decide
      · rw [show o + 1 + 4 = o + 5 by omega, v7, b7]
        decide
    have hu7 : HU s7 t7 o c := by
      refine ⟨by rw [s7o, m14, h5o]; omega, fun k k0 k1 j j0 j4 => ?_⟩
      rw [m14] at k1
      have cell : s7 (o + 1 + j) k = σ (o + 1 + j) k := by
        have st : ∀ (sa sb : St) (b : Int) (V : Int), su sa (o + b) m V = sb → sb (o + 1 + j) k = sa (o + 1 + j) k := fun sa sb b V e => by
          obtain ⟨sc, ec, uc, vc, wc⟩ := su_ex sa (o + b) m V
          have y : sb = sc := e.symm.trans ec
          subst y
          by_cases z : o + 1 + j = o + b
          · rw [z]; exact wc k (by omega)
          · rw [uc _ z]
        rw [st s6 s7 5 11 e7, st s5 s6 4 0 e6, st s4 s5 3 9 e5, st s3 s4 2 0 e4, st σ2 s3 1 V e3, s2k _ (by omega), r1.1 _ (by omega)]
      rw [cell, d7 _ (by omega), d6 _ (by omega), d5 _ (by omega), d4 _ (by omega), d3 _ (by omega), g2.1 15 (by decide), a1 15 (by decide)]
      exact hu.2 k k0 (by omega) j j0 j4
    have k15 : t7 0 15 = τ 0 15 := by rw [z0, v15, c1 15 (by decide)]
    have k13 : s7 1 3 = σ 1 3 := by rw [s71, r2.2 3 (by omega), r1.2 3 (by omega)]
    obtain ⟨q2, rn2, _, _⟩ := to7.rn
    obtain ⟨A, xA, A01, iA⟩ := X_isWord (w := 9) (by decide) tx7 to7 rn2
    have back : ∀ (σ' : St) (k : Int) (τ' : St) (pz : Int) (σz τz : St), p2 ≤ pz → σz 1 3 = σ 1 3 → τz 0 15 = τ 0 15 → OU σz σ' τz τ' T L pz k o c → OU σ σ' τ τ' T L p k o c := fun σ' k τ' pz σz τz hz h3 h15 hoc => by
      rcases hoc with ⟨w1, w2, w3, w4, w5, p5, w6, w7⟩ | w
      · exact Or.inl ⟨w1, w2, w3.trans h3, w4.trans h15, w5, p5, by omega, w7⟩
      · exact Or.inr w
    rw [xA] at xx
    simp only [bnd_some] at xx
    rw [zm_eq (a := A) (by omega) (by omega)] at xx
    by_cases y : MW T p2 (q2 - p2) 9
    · rw [if_neg (by have := iA.2 y; omega)] at xx
      obtain ⟨σ8, k8, τ8, x8, m8, fx8, fm8, so8, oth8, r14, r15, alt8⟩ := bar_word (w := 9) (vs0 := 1) (a := 2) (b := 3) (hi := 9) (v5 := 0) ho hc hm (Or.inl ⟨rfl, rfl, rfl, rfl, rfl⟩) (by rw [s7o]; exact h5o) ps7 nf7 hb7 rn2 y (by decide) (n + 2)
      have xx2 := xx.trans (x8 (p_X5_readBar_116 o 1))
      have t238 : τ8 0 23 = c := by rw [fm8.2.2.2 23 (by omega)]; exact t23
      rcases alt8 with ⟨rfl, w2, w3, w4, w5, p5, w6, w7⟩ | ⟨kb, w2, w3, w4, p5, w5⟩
      · obtain ⟨σ9, k9, τ9, x9, m9, fx9, fm9, oc9⟩ := bar_months (v5 := 1) ho hc hm t238 (by rw [r14]; exact m14) w7 w2 (hu7.sp m14 so8 oth8 r14 r15) w5 (by decide) (fun q' _ z => absurd z (by decide)) n
        exact ⟨σ9, k9, τ9, xx2.trans x9, m8.trans m9, (FX.tr fx8).tr fx9, (FM.tr fm8).tr fm9, back σ9 k9 τ9 p5 σ8 τ8 (by omega) (by rw [w3, k13]) (by rw [w4, k15]) oc9⟩
      · obtain ⟨σ9, x9, fx9, q92, q93⟩ := X_116F (o := o) (m := m) (σ := σ8) (by omega) hm (by rw [so8, s7o]; exact h5o) w4 w5 (by unfold FT; omega)
        obtain ⟨τ9, m9, fm9, v9⟩ := M_143k (n := n + 1) (z := 30 * c + 5 * m) (v := 1) hc t238 kb
        exact ⟨σ9, k8, τ9, xx2.trans x9, m8.trans m9, (FX.tr fx8).tr fx9, (FM.tr fm8).tr fm9, Or.inr ⟨kb, by rw [q92]; exact w2, by rw [q93, v9]; exact w3⟩⟩
    · have a0 : A = 0 := by
        rcases A01 with z | z
        · exact z
        · exact absurd (iA.1 z) y
      rw [if_pos a0] at xx
      obtain ⟨σ9, k9, τ9, x9, m9, fx9, fm9, oc9⟩ := bar_months (v5 := 0) ho hc hm t23 m14 ps7 nf7 hu7 hb7 (by decide) (fun q' rn' _ => by rw [RN.un rn' rn2]; exact y) (n + 1)
      exact ⟨σ9, k9, τ9, xx.trans x9, m9, FX.tr fx9, FM.tr fm9, back σ9 k9 τ9 p2 s7 t7 (by omega) k13 k15 oc9⟩
  · have to7 : TO s7 T L p1 := (F2.to to1).c s71
    have tx7 := fx7.tx (by omega) (F2.tx (r1.tx tx))
    have ft7 : FT s7 := by unfold FT; rw [s71, F2.2.2.1]; omega
    obtain ⟨q2, rn2, _, _⟩ := to7.rn
    obtain ⟨A, xA, A01, iA⟩ := X_isWord (w := 9) (by decide) tx7 to7 rn2
    obtain ⟨τ9, m9, fm9, v9⟩ := M_143k (n := n + 2) (z := 30 * c + 5 * m) (k := k2) (v := 0) hc t23 (by omega)
    have FX : xU o σ s7 := (r1.u.tr F2.u).tr fx7
    have f2 : s7 1 2 = k2 := by rw [s71]; exact F2.2.2.1
    have f3 : s7 1 3 = p1 := by rw [s71]; exact F2.2.2.2
    have v15' : τ9 0 15 = p1 := by rw [v9, t7q 0 (by decide), v15]
    have h57 : s7 o 5 = m := by rw [s7o]; exact h5o
    rw [xA] at xx
    simp only [bnd_some] at xx
    rw [zm_eq (a := A) (by omega) (by omega)] at xx
    rcases A01 with rfl | rfl
    · rw [if_pos rfl] at xx
      obtain ⟨σ9, x9, fx9, q92, q93⟩ := X_116F (o := o) (m := m) (σ := s7) (by omega) hm h57 tx7 to7 ft7
      exact ⟨σ9, k2, τ9, xx.trans x9, m9, FX.tr fx9, FM.tr fm9, Or.inr ⟨by omega, by rw [q92]; exact f2, by rw [q93, v15']; exact f3⟩⟩
    · rw [if_neg (by decide)] at xx
      have te := to7.e
      have o27 := to7.2.1
      obtain ⟨s8, p8, x8, r8, _, to8⟩ := X_step tx7 (by omega : 0 ≤ s7 1 6 ∧ s7 1 6 ≤ L)
      have ft8 : FT s8 := by unfold FT; rw [r8.2 2 (by omega)]; exact ft7
      obtain ⟨s9, e9, f9, q9, so9⟩ := X_spF (a := 2) (b := 3) (hi := 9) (p_X5_readBar_116 o 1) (show 115 ≤ o by omega) (by decide) (by decide) (by decide) hm (by rw [r8.1 o (by omega)]; exact h57) (r8.tx tx7) to8 ft8
      obtain ⟨σ10, x10, fx10, q102, q103⟩ := X_116F (o := o) (m := m) (σ := s9) (by omega) hm (by rw [so9, r8.1 o (by omega)]; exact h57) (f9.tx (by omega) (r8.tx tx7)) (to8.c q9) (by unfold FT; rw [q9]; exact ft8)
      rw [x8] at xx
      simp only [bnd_some] at xx
      rw [e9] at xx
      exact ⟨σ10, k2, τ9, xx.trans x10, m9, ((FX.tr r8.u).tr f9).tr fx10, FM.tr fm9, Or.inr ⟨by omega, by rw [q102, q9, r8.2 2 (by omega)]; exact f2, by rw [q103, q9, r8.2 3 (by omega), v15']; exact f3⟩⟩
theorem rule_body {σ τ : St} {T : Int → Int} {L p o c : Int} (ho : o = 115 + 6 * c) (hc : 0 ≤ c ∧ c < 4) (h23 : τ 0 23 = c) (ps : PS σ τ T L p) (hp : p < L) (nf : σ 1 2 = 0) (hu : HU σ τ o c) : ∃ (σ' : St) (k : Int) (τ' : St), (∀ (K : Int → Int → Int → St → Option (Int × St)) (i : Int), 0 ≤ i → i < 300 → p_X5_readFrom_11b K o 1 i σ = K o 1 (i + 1) σ') ∧ p_X8_takeRule τ = some (k, τ') ∧ xU o σ σ' ∧ pU c τ τ' ∧ OU σ σ' τ τ' T L p k o c := by
  obtain ⟨tx, tm, to, h0, sk⟩ := ps
  obtain ⟨q, rn, gl, gn⟩ := to.rn
  obtain ⟨τ1, e1, g1, d15, d16, d18, d17⟩ := M_readWord tm h0 sk rn
  have hu1 := hu.m g1
  have o1 := to.1
  have t23 : τ1 0 23 = c := by rw [g1.2 23 (by omega)]; exact h23
  have zt : zm (τ1 0 23) = c := by rw [t23]; exact zm_eq (by omega) (by omega)
  obtain ⟨A, xA, A01, iA⟩ := X_isWord (w := 8) (by decide) tx to rn
  have y1 := hu1.1
  have xb : ∀ (K : Int → Int → Int → St → Option (Int × St)) (i : Int), 0 ≤ i → i < 300 → p_X5_readFrom_11b K o 1 i σ = if A = 0 then (Option.bind (p_X4_fail 1 1 p σ) fun x40 => K o 1 (i + 1) x40.2) else (if τ1 14 c < 6 then (Option.bind (p_X5_readBar o 1 σ) fun x69 => K o 1 (i + 1) x69.2) else (Option.bind (p_X4_fail 1 3 p σ) fun x61 => K o 1 (i + 1) x61.2)) := fun K i i0 i1 => by
    unfold p_X5_readFrom_11b p_X5_readFrom_72
    rw [zm_eq (a := i) (by omega) (by omega), if_neg (by omega), X_goesOn to nf hp]
    simp only [bnd_some, zm1n, if_false]
    rw [xA]
    simp only [bnd_some]
    rw [zm_eq (a := A) (by omega) (by omega), y1.1, zm_eq (a := τ1 14 c) (by omega) (by omega), o1]
  have z8 := zc_MW (w := 8) (by decide) rn
  rw [← d17] at z8
  by_cases m8 : MW T p (q - p) 8
  · have a1 : A = 1 := iA.2 m8
    by_cases z6 : τ1 14 c = 6
    · obtain ⟨τ6, n6, g6, v6⟩ := M_fails τ1 3 (τ1 0 16)
      obtain ⟨σ6, x6, F6⟩ := X_fail nf 3 p
      refine ⟨σ6, 3, τ6, fun K i i0 i1 => ?_, ?_, F6.u, g1.u.tr g6.u, Or.inr ⟨by decide, F6.2.2.1, by rw [v6, d16]; exact F6.2.2.2⟩⟩
      · rw [xb K i i0 i1, if_neg (by omega), if_neg (by omega), x6]
        simp only [bnd_some]
      · unfold p_X8_takeRule p_X8_takeRule_31 p_X8_takeRule_46
        rw [e1]
        simp only [bnd_some]
        rw [c1503, if_pos (z8.2 m8), gd_pos (by rw [zt]; omega), zt, z6, if_pos (by decide), if_pos (z8.2 m8), n6]
        simp only [bnd_some]
    · obtain ⟨m, hm⟩ : ∃ m, τ1 14 c = m := ⟨_, rfl⟩
      obtain ⟨σ6, k6, τ6, x6, n6, fx, fm, oc⟩ := bar_body (m := m) ho hc (by omega) t23 hm tx (g1.tx tm) to nf hu1 rn m8 d17 d18
      refine ⟨σ6, k6, τ6, fun K i i0 i1 => ?_, ?_, fx, g1.u.tr fm, oc.m d15⟩
      · rw [xb K i i0 i1, if_neg (by omega), if_pos (by omega), x6]
        simp only [bnd_some]
      · unfold p_X8_takeRule
        rw [e1]
        simp only [bnd_some]
        rw [c1503, if_pos (z8.2 m8), gd_pos (by rw [zt]; omega), zt, zm_eq (a := τ1 14 c) (by omega) (by omega), if_neg z6]
        exact n6
  · have a0 : A = 0 := by
      rcases A01 with z | z
      · exact z
      · exact absurd (iA.1 z) m8
    obtain ⟨τ6, n6, g6, v6⟩ := M_fails τ1 1 (τ1 0 16)
    obtain ⟨σ6, x6, F6⟩ := X_fail nf 1 p
    refine ⟨σ6, 1, τ6, fun K i i0 i1 => ?_, ?_, F6.u, g1.u.tr g6.u, Or.inr ⟨by decide, F6.2.2.1, by rw [v6, d16]; exact F6.2.2.2⟩⟩
    · rw [xb K i i0 i1, if_pos a0, x6]
      simp only [bnd_some]
    · unfold p_X8_takeRule p_X8_takeRule_31 p_X8_takeRule_46
      rw [e1]
      simp only [bnd_some]
      rw [c1503, if_neg (fun w => m8 (z8.1 w)), if_neg (fun w => m8 (z8.1 w)), n6]
      simp only [bnd_some]
theorem rule_loop {T : Int → Int} {L o c : Int} (ho : o = 115 + 6 * c) (hc : 0 ≤ c ∧ c < 4) : ∀ (d f n : Nat) (i : Int) (σ τ : St) (p : Int), L - p ≤ d → d < f → d < n → 0 ≤ i → i ≤ p → PS σ τ T L p → τ 0 23 = c → σ 1 2 = 0 → σ 1 3 = τ 0 15 → HU σ τ o c → ∃ (σ' : St) (k : Int) (τ' : St), p_X5_readFrom_11 f o 1 i σ = some (0, σ') ∧ p_X8_rule_45 n 0 τ = p_X8_rule_64 k τ' ∧ xU o σ σ' ∧ pU c τ τ' ∧ σ' 1 2 = k ∧ σ' 1 3 = τ' 0 15 ∧ ((k = 0 ∧ HU σ' τ' o c) ∨ (1 ≤ k ∧ k ≤ 5)) := by
  have fin : ∀ (f n : Nat) (i : Int) (σ τ : St), 0 ≤ i → i ≤ L → PS σ τ T L L → τ 0 23 = c → σ 1 2 = 0 → σ 1 3 = τ 0 15 → HU σ τ o c → ∃ (σ' : St) (k : Int) (τ' : St), p_X5_readFrom_11 (f + 1) o 1 i σ = some (0, σ') ∧ p_X8_rule_45 (n + 1) 0 τ = p_X8_rule_64 k τ' ∧ xU o σ σ' ∧ pU c τ τ' ∧ σ' 1 2 = k ∧ σ' 1 3 = τ' 0 15 ∧ ((k = 0 ∧ HU σ' τ' o c) ∨ (1 ≤ k ∧ k ≤ 5)) := by
    intro f n i σ τ i0 iL ps h7 nf h3 hu
    obtain ⟨tx, tm, to, h0, sk⟩ := ps
    have t2 := tx.2.1
    obtain ⟨τ1, e1, a1, b1, c1⟩ := M_hr tm h0 sk
    rw [if_pos rfl] at e1
    have g1 : mF τ τ1 := ⟨a1, fun j hj => b1 j (by omega)⟩
    refine ⟨σ, 0, τ1, ?_, ?_, xU.rf, g1.u, nf, by rw [b1 15 (by decide)]; exact h3, Or.inl ⟨rfl, hu.m g1⟩⟩
    · show p_X5_readFrom_11b (p_X5_readFrom_11 f) o 1 i σ = _
      unfold p_X5_readFrom_11b
      rw [zm_eq (a := i) (by omega) (by omega), X_goesNot to nf]
      simp only [bnd_some, zm0t, if_true]
      by_cases z : 300 ≤ i
      · rw [if_pos z]
      · rw [if_neg z]
    · show p_X8_rule_45b (p_X8_rule_45 n) 0 τ = _
      unfold p_X8_rule_45b
      rw [if_pos (by decide), e1]
      simp only [bnd_some]
      rw [if_pos (by decide)]
  intro d
  induction d with
  | zero =>
    intro f n i σ τ p hd hf hn i0 ip ps h7 nf h3 hs
    obtain ⟨f, rfl⟩ := Nat.exists_eq_succ_of_ne_zero (by omega : f ≠ 0)
    obtain ⟨n, rfl⟩ := Nat.exists_eq_succ_of_ne_zero (by omega : n ≠ 0)
    have o2 := ps.2.2.1.2.1
    have e : p = L := by omega
    subst e
    exact fin f n i σ τ i0 ip ps h7 nf h3 hs
  | succ d ih =>
    intro f n i σ τ p hd hf hn i0 ip ps h7 nf h3 hs
    obtain ⟨f, rfl⟩ := Nat.exists_eq_succ_of_ne_zero (by omega : f ≠ 0)
    obtain ⟨n, rfl⟩ := Nat.exists_eq_succ_of_ne_zero (by omega : n ≠ 0)
    have o2 := ps.2.2.1.2.1
    have t2 := ps.1.2.1
    by_cases e : p = L
    · subst e
      exact fin f n i σ τ i0 ip ps h7 nf h3 hs
    · obtain ⟨tx, tm, to, h0, sk⟩ := ps
      obtain ⟨τh, eh, ah, bh, ch⟩ := M_hr tm h0 sk
      have mh : mF τ τh := ⟨ah, fun j hj => bh j (by omega)⟩
      have bt := (tx.2.2 p (by omega) (by omega)).2
      obtain ⟨σ2, k2, τ2, x2, m2, fx2, fm2, oc2⟩ := rule_body (σ := σ) (τ := τh) (T := T) (L := L) (p := p) ho hc (by rw [bh 23 (by decide)]; exact h7) ⟨tx, mh.tx tm, to, by omega, by rw [ch]; exact sk.at⟩ (by omega) nf (hs.m mh)
      have xe2 : p_X5_readFrom_11 (f + 1) o 1 i σ = p_X5_readFrom_11 f o 1 (i + 1) σ2 := x2 (p_X5_readFrom_11 f) i i0 (by omega)
      have me : p_X8_rule_45 (n + 1) 0 τ = p_X8_rule_45 n k2 τ2 := by
        show p_X8_rule_45b (p_X8_rule_45 n) 0 τ = _
        unfold p_X8_rule_45b
        rw [if_pos (by decide), eh]
        simp only [bnd_some]
        rw [if_neg e, zm_eq (a := T p) (by omega) (by omega), if_neg (by omega), m2]
        simp only [bnd_some]
      have gh : pU c τ τh := mh.u
      have t27 : τ2 0 23 = c := by rw [fm2.2.2.2 23 (by omega), bh 23 (by decide)]; exact h7
      have oc2' := oc2.m (bh 15 (by decide))
      rcases oc2' with ⟨rfl, w2, w3, w4, w5, p5, w6, w7⟩ | ⟨cb, w2, w3⟩
      · obtain ⟨σ', k', τ', y1, y2, y3, y4, y5⟩ := ih f n (i + 1) σ2 τ2 p5 (by omega) (by omega) (by omega) (by omega) (by omega) w7 t27 w2 (by rw [w3, w4]; exact h3) w5
        exact ⟨σ', k', τ', xe2.trans y1, me.trans y2, fx2.tr y3, (gh.tr fm2).tr y4, y5⟩
      · refine ⟨σ2, k2, τ2, xe2.trans ?_, me.trans ?_, fx2, gh.tr fm2, w2, w3, Or.inr cb⟩
        · cases f with
          | zero => omega
          | succ f =>
            have ft : FT σ2 := by unfold FT; omega
            show p_X5_readFrom_11b (p_X5_readFrom_11 f) o 1 (i + 1) σ2 = _
            unfold p_X5_readFrom_11b
            rw [X_goesF ft]
            simp only [bnd_some, zm0t, if_true]
            by_cases z : 300 ≤ zm (i + 1)
            · rw [if_pos z]
            · rw [if_neg z]
        · cases n with
          | zero => omega
          | succ n =>
            show p_X8_rule_45b (p_X8_rule_45 n) k2 τ2 = _
            unfold p_X8_rule_45b
            rw [zm_eq (a := k2) (by omega) (by omega), if_neg (by omega)]
theorem kx_rule {c : Int} (hc : 0 ≤ c ∧ c < 4) : kX (115 + 6 * c) = (5, 0) := by
  rcases (by omega : c = 0 ∨ c = 1 ∨ c = 2 ∨ c = 3) with rfl | rfl | rfl | rfl <;> decide
theorem pU.sS {c : Int} {τ τ' : St} (f : pU c τ τ') (s : Int) : eS τ τ' s := by
  unfold eS
  rw [f.1 8 (by decide) (by decide) (by decide), f.1 9 (by decide) (by decide) (by decide), f.1 10 (by decide) (by decide) (by decide), f.1 11 (by decide) (by decide) (by decide), f.1 12 (by decide) (by decide) (by decide)]
  exact ⟨rfl, rfl, rfl, fun _ _ _ => ⟨rfl, rfl⟩⟩
theorem pU.hH {c : Int} {τ τ' : St} (f : pU c τ τ') (h : Int) : eH τ τ' h := by
  unfold eH
  rw [f.1 1 (by decide) (by decide) (by decide), f.1 2 (by decide) (by decide) (by decide), f.1 3 (by decide) (by decide) (by decide), f.1 4 (by decide) (by decide) (by decide), f.1 5 (by decide) (by decide) (by decide), f.1 6 (by decide) (by decide) (by decide), f.1 7 (by decide) (by decide) (by decide)]
  exact ⟨rfl, rfl, rfl, rfl, rfl, rfl, fun _ _ _ => rfl⟩
theorem pU.uU {c : Int} {τ τ' : St} (f : pU c τ τ') {u : Int} (h : u ≠ c) : eU τ τ' u := ⟨(f.2.1 u h).symm, fun i i0 i1 => (f.2.2.1 _ (by omega)).symm⟩
theorem ok_rule : StepOK Inv (p_X7_rule ) (p_X8_rule ) := fun σ τ hI => by
  obtain ⟨i1, i2, i3, i4, i5⟩ := id hI
  obtain ⟨it1, it2, it3, it4⟩ := id i1
  have q4 := i2.1
  have q5 := i2.2.1
  by_cases c1 : τ 0 14 ≤ 120
  rotate_left
  · refine st_eq (a := -1000000003) ?_ ?_ hI
    · unfold p_X7_rule
      rw [it2, zm_eq (a := τ 0 14) (by omega) (by omega), if_neg c1]
    · unfold p_X8_rule
      rw [zm_eq (a := τ 0 14) (by omega) (by omega), if_neg c1]
  by_cases c2 : τ 0 23 < 4
  rotate_left
  · refine st_eq (a := -1000000004) ?_ ?_ hI
    · unfold p_X7_rule
      rw [it2, zm_eq (a := τ 0 14) (by omega) (by omega), if_pos c1, q5.1, zm_eq (a := τ 0 23) (by omega) (by omega), if_neg c2]
    · unfold p_X8_rule
      rw [zm_eq (a := τ 0 14) (by omega) (by omega), if_pos c1, zm_eq (a := τ 0 23) (by omega) (by omega), if_pos (by omega)]
  obtain ⟨c, hcv⟩ : ∃ c, τ 0 23 = c := ⟨_, rfl⟩
  obtain ⟨o, ho⟩ : ∃ o, o = 115 + 6 * c := ⟨_, rfl⟩
  have hc : 0 ≤ c ∧ c < 4 := by omega
  have zc : zm c = c := zm_eq (by omega) (by omega)
  obtain ⟨s5, e5, u5, v5, w5⟩ := su_ex σ o 5 0
  have tx5 : TXx s5 (τ 13) (τ 0 14) := ⟨by rw [u5 1 (by omega)]; exact it2, it3, fun i i0 i1 => by rw [u5 2 (by omega)]; exact it4 i i0 i1⟩
  obtain ⟨s6, p, e6, fs6, o1, o2, o3, sk, to⟩ := X_open tx5
  obtain ⟨t1, m1, a1, b1, d1⟩ := su_ex τ 0 15 (-1)
  obtain ⟨t2, m2, a2, b2, d2⟩ := su_ex t1 0 16 0
  obtain ⟨t6, m6, a6, b6, d6⟩ := su_ex t2 14 c 0
  have ft : pU c τ t6 := ((mFs (j := 15) (by decide) m1).u.tr (mFs (j := 16) (by decide) m2).u).tr (pU14 m6)
  have tm6 : TXm t6 (τ 13) (τ 0 14) := ft.tx ⟨rfl, it3, fun i i0 i1 => ⟨rfl, (it4 i i0 i1).2⟩⟩
  have g16 : t6 0 16 = 0 := by rw [a6 0 (by decide), b2]
  have g15 : t6 0 15 = -1 := by rw [a6 0 (by decide), d2 15 (by decide), b1]
  have g23 : t6 0 23 = c := by rw [ft.2.2.2 23 (by omega), hcv]
  have hu : HU s6 t6 o c := ⟨by rw [fs6 o (by omega), v5, b6]; decide, fun k k0 k1 => by rw [b6] at k1; omega⟩
  have ps : PS s6 t6 (τ 13) (τ 0 14) p := ⟨⟨by rw [o1]; exact tx5.1, it3, fun i i0 i1 => by rw [fs6 2 (by decide)]; exact tx5.2.2 i i0 i1⟩, tm6, to, by omega, by rw [g16]; exact sk⟩
  have sk1 := sk.1
  obtain ⟨s7, k, t7, x7, m7, fx, fm, q2, q3, alt⟩ := rule_loop (T := τ 13) (L := τ 0 14) ho hc 300 FU FU 0 s6 t6 p (by omega) (FU_gt (by omega)) (FU_gt (by omega)) (by decide) sk1.1 ps g23 o2 (by rw [o3, g15]) hu
  have cb : 0 ≤ k ∧ k ≤ 5 := by rcases alt with ⟨z, _⟩ | z <;> omega
  obtain ⟨s9, x9, y1, y2, y3, y4⟩ := X_closeText (s7 0 12) q2 cb
  obtain ⟨t8, m8, n1, n2, n3⟩ := su_ex t7 0 14 0
  have F : pU c τ t7 := ft.tr fm
  have fr9 : ∀ k : Int, k ≠ 0 → k ≠ 1 → (k < o ∨ o + 5 < k) → s9 k = σ k := fun k h0 h1 h2 => by rw [y1 k h0 h1, fx.1 k h1 h2, fs6 k h1, u5 k (by omega)]
  have fr0 : ∀ j : Int, j ≠ 13 → s9 0 j = σ 0 j := fun j hj => by rw [y2 j hj, fx.1 0 (by decide) (by omega), fs6 0 (by decide), u5 0 (by omega)]
  have h712 : s7 0 12 = c := by rw [fx.1 0 (by decide) (by omega), fs6 0 (by decide), u5 0 (by omega), q5.1, hcv]
  have tq : ∀ q : Int, q ≠ 0 → t8 q = t7 q := fun q hq => n1 q hq
  have tj : ∀ j : Int, j ≠ 14 → t8 0 j = t7 0 j := fun j hj => n3 j hj
  have T23 : t7 0 23 = c := by rw [F.2.2.2 23 (by omega), hcv]
  have xx : p_X7_rule σ = if zm (if k = 0 then c else -10 - k) < 0 then some ((if k = 0 then c else -10 - k), s9) else (nx (su s9 0 12 ((s9 0 12) + 1)) fun σ62 => some ((if k = 0 then c else -10 - k), σ62)) := by
    unfold p_X7_rule p_X5_readFrom
    rw [it2, zm_eq (a := τ 0 14) (by omega) (by omega), if_pos c1, q5.1, hcv, zc, if_pos (by omega), gd_pos (by omega), ← ho, nx_eq, e5, e6]
    simp only [bnd_some]
    rw [x7]
    simp only [bnd_some]
    rw [x9, h712]
    simp only [bnd_some]
  have mm : p_X8_rule τ = if zm k ≤ 0 then (nx (su t8 0 23 ((t8 0 23) + 1)) fun σ85 => some (((σ85 0 23) - 1), σ85)) else (some (((-10) - k), t8)) := by
    have z27 : zm (t2 0 23) = c := by rw [d2 23 (by decide), d1 23 (by decide), hcv]; exact zc
    unfold p_X8_rule
    rw [zm_eq (a := τ 0 14) (by omega) (by omega), if_pos c1, zm_eq (a := τ 0 23) (by omega) (by omega), if_neg (by omega), nx_eq, m1, nx_eq, m2, gd_pos (by rw [z27]; omega), z27, nx_eq, m6, m7]
    unfold p_X8_rule_64
    rw [nx_eq, m8]
  have it' : ∀ (σ' τ' : St), σ' 0 13 = s9 0 13 → σ' 1 = s9 1 → τ' 0 15 = t8 0 15 → τ' 0 14 = t8 0 14 → IT σ' τ' := fun σ' τ' h13 h1 h15 h14 => by
    refine ⟨?_, by rw [h1, y4, h14, n2], by rw [h14, n2]; decide, fun i i0 i1 => by rw [h14, n2] at i1; omega⟩
    rw [h13, y3, h15, tj 15 (by decide), q3]
  rw [zm_eq (a := k) (by omega) (by omega)] at mm
  have eSo : ∀ s, eS τ t8 s := fun s => by
    have z := F.sS s
    unfold eS at z ⊢
    rw [tq 8 (by decide), tq 9 (by decide), tq 10 (by decide), tq 11 (by decide), tq 12 (by decide)]
    exact z
  have eHo : ∀ h, eH τ t8 h := fun h => by
    have z := F.hH h
    unfold eH at z ⊢
    rw [tq 1 (by decide), tq 2 (by decide), tq 3 (by decide), tq 4 (by decide), tq 5 (by decide), tq 6 (by decide), tq 7 (by decide)]
    exact z
  have eUo : ∀ u, 0 ≤ u → u < c → eU τ t8 u := fun u u0 u1 => by
    have z := F.uU (u := u) (by omega)
    unfold eU at z ⊢
    rw [tq 14 (by decide), tq 15 (by decide)]
    exact z
  have rows : ∀ q : Int, 15 < q ∨ q = 13 → t8 q = τ q := fun q hq => by rw [tq q (by omega), F.1 q (by omega) (by omega) (by omega)]
  have flds : ∀ j : Int, j ≠ 14 → (j < 15 ∨ 20 < j) → t8 0 j = τ 0 j := fun j h14 hj => by rw [tj j h14, F.2.2.2 j hj]
  rcases alt with ⟨rfl, hu'⟩ | hk
  · rw [if_pos (by decide)] at mm
    simp only [if_true] at xx
    rw [zc, if_neg (by omega)] at xx
    obtain ⟨s10, e10, u10, v10, w10⟩ := su_ex s9 0 12 (s9 0 12 + 1)
    obtain ⟨t9, m9, n4, n5, n6⟩ := su_ex t8 0 23 (t8 0 23 + 1)
    rw [nx_eq, e10] at xx
    have t97 : t9 0 23 = c + 1 := by rw [n5, tj 23 (by decide), T23]
    rw [nx_eq, m9, t97, show c + 1 - 1 = c by omega] at mm
    refine st_eq xx mm ?_
    have K : ∀ q : Int, q ≠ 0 → t9 q = t8 q := fun q hq => n4 q hq
    have cX : ∀ k : Int, k ≠ 0 → k ≠ 1 → (k < o ∨ o + 5 < k) → s10 k = σ k := fun k h0 h1 h2 => by rw [u10 k h0, fr9 k h0 h1 h2]
    have c0 : ∀ j : Int, j ≠ 12 → j ≠ 13 → s10 0 j = σ 0 j := fun j h1 h2 => by rw [w10 j h1, fr0 j h2]
    have eS9 : ∀ s, eS τ t9 s := fun s => by
      have z := eSo s
      unfold eS at z ⊢
      rw [K 8 (by decide), K 9 (by decide), K 10 (by decide), K 11 (by decide), K 12 (by decide)]
      exact z
    have eH9 : ∀ h, eH τ t9 h := fun h => by
      have z := eHo h
      unfold eH at z ⊢
      rw [K 1 (by decide), K 2 (by decide), K 3 (by decide), K 4 (by decide), K 5 (by decide), K 6 (by decide), K 7 (by decide)]
      exact z
    have eU9 : ∀ u, 0 ≤ u → u < c → eU τ t9 u := fun u u0 u1 => by
      have z := eUo u u0 u1
      unfold eU at z ⊢
      rw [K 14 (by decide), K 15 (by decide)]
      exact z
    have rows9 : ∀ q : Int, 15 < q → t9 q = τ q := fun q hq => by rw [K q (by omega), rows q (by omega)]
    have flds9 : ∀ j : Int, j ≠ 23 → j ≠ 14 → (j < 15 ∨ 20 < j) → t9 0 j = τ 0 j := fun j h7 h14 hj => by rw [n6 j h7, flds j h14 hj]
    have R : ∀ q : Int, q ≠ 0 → t9 q = t7 q := fun q hq => by rw [K q hq, tq q hq]
    have so : ∀ k : Int, k ≠ 0 → k ≠ 1 → s10 k = s7 k := fun k h0 h1 => by rw [u10 k h0, y1 k h0 h1]
    have ROc : ROK t9 c := by
      unfold ROK
      rw [R 14 (by decide), R 15 (by decide)]
      exact ⟨hc, hu'.1.2, fun k j k0 k1 j0 j4 => (hu'.2 k k0 k1 j j0 j4).2⟩
    have RRc : RR s10 (115 + 6 * c) t9 c := by
      rw [← ho]
      unfold RR
      rw [R 14 (by decide), R 15 (by decide), so o (by omega) (by omega), so (o + 1) (by omega) (by omega), so (o + 2) (by omega) (by omega), so (o + 3) (by omega) (by omega), so (o + 4) (by omega) (by omega), so (o + 5) (by omega) (by omega)]
      refine ⟨by rw [ho]; exact kx_rule hc, hu'.1.1, fun k k0 k1 => ?_⟩
      have z := fun j j0 j4 => (hu'.2 k k0 k1 j j0 j4).1
      have z0 := z 0 (by decide) (by decide)
      have z1 := z 1 (by decide) (by decide)
      have z2 := z 2 (by decide) (by decide)
      have z3 := z 3 (by decide) (by decide)
      have z4 := z 4 (by decide) (by decide)
      rw [show o + 1 + 0 = o + 1 by omega, Int.add_zero] at z0
      rw [show o + 1 + 1 = o + 2 by omega] at z1
      rw [show o + 1 + 2 = o + 3 by omega] at z2
      rw [show o + 1 + 3 = o + 4 by omega] at z3
      rw [show o + 1 + 4 = o + 5 by omega] at z4
      exact ⟨z0, z1, z2, z3, z4⟩
    have T7 : t9 0 7 = τ 0 7 := flds9 7 (by decide) (by decide) (by omega)
    have IW' : IW s10 t9 := by
      refine ⟨by rw [c0 11 (by decide) (by decide), T7]; exact q4, ⟨by rw [v10, fr0 12 (by decide), q5.1, hcv, t97], by omega, by omega⟩, ?_, fun h h0 h2 => houseOK (s0 := 0) (i2.2.2.2.1 h h0 h2) (cX _ (by omega) (by omega) (by omega)) (cX _ (by omega) (by omega) (by omega)) (eH9 h) (eS9 0), fun u u0 u1 => ?_⟩
      · rw [T7]
        exact sortsOK (h0 := 0) i2.2.2.1 (fun s k s0 s1 l0 l1 => cX k (by omega) (by omega) (by omega)) (fun s _ _ => eS9 s) (eH9 0)
      · rw [t97] at u1
        by_cases z : u = c
        · rw [z]; exact ⟨RRc, ROc⟩
        · exact rulesOK (n := c) (h0 := 0) (s0 := 0) (fun u u0 u1 => i2.2.2.2.2 u u0 (by omega)) (fun u k u0 u1 l0 l1 => cX k (by omega) (by omega) (by omega)) eU9 (eH9 0) (eS9 0) u u0 (by omega)
    have IP' : IP s10 t9 := by
      refine ⟨fun s h l0 l1 l2 l3 => ?_, fun r r0 r1 => by rw [cX 108 (by decide) (by decide) (by omega)]; exact i3.2 r r0 r1⟩
      have old : IP1 σ τ s h := i3.1 s h l0 l1 l2 l3
      obtain ⟨p0, p1, p2, p3, p4, p5, p6⟩ := old
      have so' : s10 (pO s h) = σ (pO s h) := cX _ (by unfold pO; omega) (by unfold pO; omega) (by unfold pO; omega)
      have s1c : s10 (pO s h + 1) = σ (pO s h + 1) := cX _ (by unfold pO; omega) (by unfold pO; omega) (by unfold pO; omega)
      have s2c : s10 (pO s h + 2) = σ (pO s h + 2) := cX _ (by unfold pO; omega) (by unfold pO; omega) (by unfold pO; omega)
      have e1h := (eH9 h).1
      show IP1 s10 t9 s h
      unfold IP1
      rw [so', s1c, T7, ← e1h]
      refine ⟨p0, p1, p2, p3, fun b0 b1 => ?_, p5, p6⟩
      have hk := i2.hr (v := h) ⟨⟨l2, l3⟩, b1⟩
      exact KN_k (eqK_of (ru := -1) (eS9 s) (eH9 h) (fun z => absurd z (by decide))) (i2.2.2.1 s l0 b0).2 hk.2 (Or.inl rfl) (KN_s s1c s2c (p4 b0 b1))
    have IC' : IC t9 := by
      rcases i4 with z | ⟨w1, w2, w3, w4, w5'⟩
      · exact Or.inl (by rw [flds9 32 (by decide) (by decide) (by omega)]; exact z)
      · have x28 := flds9 28 (by decide) (by decide) (by omega)
        have x29 := flds9 29 (by decide) (by decide) (by omega)
        have x30 := flds9 30 (by decide) (by decide) (by omega)
        have x31 := flds9 31 (by decide) (by decide) (by omega)
        refine Or.inr ⟨by rw [flds9 32 (by decide) (by decide) (by omega)]; exact w1, ?_, by omega, by omega, by omega⟩
        rw [x28, x29, x30, x31]
        exact WK_k (fun j j0 j1 => flds9 j (by omega) (by omega) (by omega)) (rows9 16 (by decide)) (rows9 17 (by decide)) (eqK_of (eS9 _) (eH9 _) (fun z => eU9 _ z (by omega))) w2
    exact ⟨it' s10 t9 (by rw [w10 13 (by decide)]) (u10 1 (by decide)) (n6 15 (by decide)) (n6 14 (by decide)), IW', IP', IC', i5.fr (fun k l0 l1 => cX k (by omega) (by omega) (by omega)) (fun k l0 l1 => cX k (by omega) (by omega) (by omega)) ⟨flds9 33 (by decide) (by decide) (by omega), flds9 42 (by decide) (by decide) (by omega), flds9 47 (by decide) (by decide) (by omega)⟩ (fun k hk => rows9 k (by omega))⟩
  · rw [if_neg (by omega)] at mm
    rw [if_neg (show ¬ k = 0 by omega), zm_eq (a := -10 - k) (by omega) (by omega), if_pos (by omega)] at xx
    refine st_eq xx mm ?_
    have W : eW τ t8 := ⟨flds 7 (by decide) (by omega), by rw [tj 23 (by decide), T23, hcv], fun s _ _ => eSo s, fun h _ _ => eHo h, fun u u0 u1 => eUo u u0 (by omega)⟩
    have IW' : IW s9 t8 := by
      refine ⟨by rw [fr0 11 (by decide), W.1]; exact q4, by rw [fr0 12 (by decide), W.2.1]; exact q5, ?_, fun h h0 h2 => houseOK (s0 := 0) (i2.2.2.2.1 h h0 h2) (fr9 _ (by omega) (by omega) (by omega)) (fr9 _ (by omega) (by omega) (by omega)) (eHo h) (eSo 0), ?_⟩
      · rw [W.1]
        exact sortsOK (h0 := 0) i2.2.2.1 (fun s k s0 s1 l0 l1 => fr9 k (by omega) (by omega) (by omega)) (fun s _ _ => eSo s) (eHo 0)
      · rw [W.2.1]
        exact rulesOK (h0 := 0) (s0 := 0) i2.2.2.2.2 (fun u k u0 u1 l0 l1 => fr9 k (by omega) (by omega) (by omega)) (fun u u0 u1 => eUo u u0 (by omega)) (eHo 0) (eSo 0)
    exact ⟨it' s9 t8 rfl rfl rfl rfl, IW', IP.fr i2 i3 (fun k l0 l1 => fr9 k (by omega) (by omega) (by omega)) (fr9 108 (by decide) (by decide) (by omega)) W, IC.fr i2 i4 (fun j l0 l1 => flds j (by omega) (by omega)) (rows 16 (by decide)) (rows 17 (by decide)) W, i5.fr (fun k l0 l1 => fr9 k (by omega) (by omega) (by omega)) (fun k l0 l1 => fr9 k (by omega) (by omega) (by omega)) ⟨flds 33 (by decide) (by omega), flds 42 (by decide) (by omega), flds 47 (by decide) (by omega)⟩ (fun k hk => rows k (by omega))⟩
