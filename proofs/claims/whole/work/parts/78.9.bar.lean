/-! clauses of a rule -/
def xU (o : Int) (σ σ' : St) : Prop := (∀ k : Int, k ≠ 1 → (k < o ∨ o + 5 < k) → σ' k = σ k) ∧ σ' 1 1 = σ 1 1
def pU (c : Int) (τ τ' : St) : Prop := (∀ q : Int, q ≠ 0 → q ≠ 14 → q ≠ 15 → τ' q = τ q) ∧ (∀ j : Int, j ≠ c → τ' 14 j = τ 14 j) ∧ (∀ j : Int, (j < 30 * c ∨ 30 * c + 29 < j) → τ' 15 j = τ 15 j) ∧ ∀ j : Int, (j < 15 ∨ 20 < j) → τ' 0 j = τ 0 j
theorem xU.tr {o : Int} {a b c : St} (h : xU o a b) (g : xU o b c) : xU o a c := ⟨fun k h1 h2 => (g.1 k h1 h2).trans (h.1 k h1 h2), g.2.trans h.2⟩
theorem xU.rf {o : Int} {a : St} : xU o a a := ⟨fun _ _ _ => rfl, rfl⟩
theorem pU.tr {c : Int} {x y z : St} (h : pU c x y) (g : pU c y z) : pU c x z := ⟨fun q h1 h2 h3 => (g.1 q h1 h2 h3).trans (h.1 q h1 h2 h3), fun j hj => (g.2.1 j hj).trans (h.2.1 j hj), fun j hj => (g.2.2.1 j hj).trans (h.2.2.1 j hj), fun j hj => (g.2.2.2 j hj).trans (h.2.2.2 j hj)⟩
theorem rF.u {o : Int} {σ σ' : St} (f : rF σ σ') : xU o σ σ' := ⟨fun k h _ => f.1 k h, f.2 1 (by omega)⟩
theorem FA.u {o : Int} {σ σ' : St} {c pos : Int} (f : FA σ σ' c pos) : xU o σ σ' := ⟨fun k h _ => f.1 k h, f.2.1 1 (by decide) (by decide)⟩
theorem mF.u {c : Int} {τ τ' : St} (f : mF τ τ') : pU c τ τ' := ⟨fun q hq _ _ => f.1 q hq, fun j _ => by rw [f.1 14 (by decide)], fun j _ => by rw [f.1 15 (by decide)], fun j hj => f.2 j hj⟩
theorem xUs {o : Int} {σ σ' : St} {k j v : Int} (ho : 115 ≤ o) (hk : o ≤ k ∧ k ≤ o + 5) (e : su σ k j v = σ') : xU o σ σ' := by
  obtain ⟨σ1, e1, a1, b1, c1⟩ := su_ex σ k j v
  have q : σ' = σ1 := e.symm.trans e1
  subst q
  exact ⟨fun i _ h2 => a1 i (by omega), by rw [a1 1 (by omega)]⟩
theorem pU14 {c : Int} {τ τ' : St} {v : Int} (e : su τ 14 c v = τ') : pU c τ τ' := by
  obtain ⟨σ1, e1, a1, b1, c1⟩ := su_ex τ 14 c v
  have z : τ' = σ1 := e.symm.trans e1
  subst z
  exact ⟨fun i _ h _ => a1 i h, c1, fun j _ => by rw [a1 15 (by decide)], fun j _ => by rw [a1 0 (by decide)]⟩
theorem pU15 {c : Int} {τ τ' : St} {j v : Int} (hj : 30 * c ≤ j ∧ j ≤ 30 * c + 29) (e : su τ 15 j v = τ') : pU c τ τ' := by
  obtain ⟨σ1, e1, a1, b1, c1⟩ := su_ex τ 15 j v
  have z : τ' = σ1 := e.symm.trans e1
  subst z
  exact ⟨fun i _ _ h => a1 i h, fun j _ => by rw [a1 14 (by decide)], fun j' h => c1 j' (by omega), fun j _ => by rw [a1 0 (by decide)]⟩
theorem pU.tx {c : Int} {τ τ' : St} {T : Int → Int} {L : Int} (h : pU c τ τ') (t : TXm τ T L) : TXm τ' T L := by
  unfold TXm
  rw [h.2.2.2 14 (by omega), h.1 13 (by decide) (by decide) (by decide)]
  exact t
theorem xU.tx {o : Int} {σ σ' : St} {T : Int → Int} {L : Int} (h : xU o σ σ') (ho : 115 ≤ o) (t : TXx σ T L) : TXx σ' T L := by
  unfold TXx
  rw [h.2, h.1 2 (by decide) (by omega)]
  exact t
theorem X_closeBad2 {σ : St} {T : Int → Int} {L p : Int} (to : TO σ T L p) (nf : σ 1 2 = 0) (h : ¬ (p < L ∧ T p = 59)) : ∃ σ', p_X4_closeClause 1 σ = some (0, σ') ∧ FA σ σ' 1 p := by
  obtain ⟨o1, o2, o3, o4⟩ := to
  have k3 : σ 1 4 ≠ 3 ∧ 0 ≤ σ 1 4 ∧ σ 1 4 ≤ 4 := by
    rcases o4 with ⟨a, b, c⟩ | ⟨a, b, c, d⟩ | ⟨a, b, c, d, e, f⟩ | ⟨a, b, c, d⟩ | ⟨a, b, c, d, e, f⟩
    · omega
    · omega
    · omega
    · exact absurd ⟨a, b⟩ h
    · omega
  obtain ⟨σ5, x5, F5⟩ := X_fail nf 1 p
  refine ⟨σ5, ?_, F5⟩
  unfold p_X4_closeClause p_X4_closeClause_17
  rw [zm_eq (a := σ 1 4) (by omega) (by omega), if_neg k3.1, o1, x5]
  simp only [bnd_some]
  rw [F5.2.2.1, if_neg (by decide)]
/-- the rule so far, the clause in hand -/
def HU (σ τ : St) (o c : Int) : Prop := (σ o 5 = τ 14 c ∧ 0 ≤ τ 14 c ∧ τ 14 c ≤ 6) ∧ ∀ k : Int, 0 ≤ k → k < τ 14 c → ∀ j : Int, 0 ≤ j → j ≤ 4 → σ (o + 1 + j) k = τ 15 (30 * c + 5 * k + j) ∧ 0 ≤ τ 15 (30 * c + 5 * k + j) ∧ τ 15 (30 * c + 5 * k + j) ≤ 999
def HB (σ τ : St) (o c m : Int) : Prop := ∀ j : Int, 0 ≤ j → j ≤ 4 → σ (o + 1 + j) m = τ 15 (30 * c + 5 * m + j) ∧ 0 ≤ τ 15 (30 * c + 5 * m + j) ∧ τ 15 (30 * c + 5 * m + j) ≤ 999
def OU (σ σ' τ τ' : St) (T : Int → Int) (L p k o c : Int) : Prop := (k = 0 ∧ σ' 1 2 = 0 ∧ σ' 1 3 = σ 1 3 ∧ τ' 0 15 = τ 0 15 ∧ HU σ' τ' o c ∧ ∃ p', p < p' ∧ PS σ' τ' T L p') ∨ ((1 ≤ k ∧ k ≤ 5) ∧ σ' 1 2 = k ∧ σ' 1 3 = τ' 0 15)
theorem HU.m {σ τ τ' : St} {o c : Int} (f : mF τ τ') (h : HU σ τ o c) : HU σ τ' o c := by
  unfold HU
  rw [f.1 14 (by decide), f.1 15 (by decide)]
  exact h
theorem HB.m {σ τ τ' : St} {o c m : Int} (f : mF τ τ') (h : HB σ τ o c m) : HB σ τ' o c m := by
  unfold HB
  rw [f.1 15 (by decide)]
  exact h
theorem OU.m {σ σ' τ τ1 τ' : St} {T : Int → Int} {L p k o c : Int} (h : OU σ σ' τ1 τ' T L p k o c) (e : τ1 0 15 = τ 0 15) : OU σ σ' τ τ' T L p k o c := by
  rcases h with ⟨w1, w2, w3, w4, w5⟩ | w
  · exact Or.inl ⟨w1, w2, w3, w4.trans e, w5⟩
  · exact Or.inr w
/-- a span, by the program -/
def spX (o a b hi : Int) (K : St → Option (Int × St)) (σ : St) : Option (Int × St) := Option.bind (p_X4_number 1 0 hi σ) fun x88 => gd (0 ≤ zm (σ o 5) ∧ zm (σ o 5) < 6) (nx (su x88.2 (o + a) (zm (σ o 5)) x88.1) fun σ91 => gd (0 ≤ zm (σ91 o 5) ∧ zm (σ91 o 5) < 6) (Option.bind (p_X4_number 1 (σ91 (o + a) (zm (σ91 o 5))) hi σ91) fun x112 => nx (su x112.2 (o + b) (zm (σ91 o 5)) x112.1) fun σ115 => K σ115))
theorem X_sp {o a b hi m V1 : Int} {σ σ1 : St} (K : St → Option (Int × St)) (ho : 115 ≤ o) (ha : 1 ≤ a ∧ a ≤ 5) (hm : 0 ≤ m ∧ m < 6) (h5 : σ o 5 = m) (h5' : σ1 o 5 = m) (e : p_X4_number 1 0 hi σ = some (V1, σ1)) : spX o a b hi K σ = Option.bind (p_X4_number 1 V1 hi (su σ1 (o + a) m V1)) fun x112 => K (su x112.2 (o + b) m x112.1) := by
  obtain ⟨s1, e1, a1, b1, c1⟩ := su_ex σ1 (o + a) m V1
  have z5 : zm (σ o 5) = m := by rw [h5]; exact zm_eq (by omega) (by omega)
  have z51 : zm (s1 o 5) = m := by rw [a1 o (by omega), h5']; exact zm_eq (by omega) (by omega)
  unfold spX
  rw [e]
  simp only [bnd_some, nx_eq]
  rw [gd_pos (by rw [z5]; omega), z5, e1, gd_pos (by rw [z51]; omega), z51, b1]
theorem X_spF {o a b hi m : Int} {σ : St} {T : Int → Int} {L p : Int} (K : St → Option (Int × St)) (ho : 115 ≤ o) (ha : 1 ≤ a ∧ a ≤ 5) (hb : 1 ≤ b ∧ b ≤ 5) (hh : 0 ≤ hi ∧ hi ≤ 999) (hm : 0 ≤ m ∧ m < 6) (h5 : σ o 5 = m) (tx : TXx σ T L) (to : TO σ T L p) (ft : FT σ) : ∃ σ', spX o a b hi K σ = K σ' ∧ xU o σ σ' ∧ σ' 1 = σ 1 ∧ σ' o = σ o := by
  obtain ⟨s1, e1, a1, b1, c1⟩ := su_ex σ (o + a) m 0
  obtain ⟨s2, e2, a2, b2, c2⟩ := su_ex s1 (o + b) m 0
  have f1 : xU o σ s1 := xUs ho (by omega) e1
  have s11 : s1 1 = σ 1 := a1 1 (by omega)
  refine ⟨s2, ?_, f1.tr (xUs ho (by omega) e2), by rw [a2 1 (by omega), s11], by rw [a2 o (by omega), a1 o (by omega)]⟩
  rw [X_sp K ho ha hm h5 h5 (X_numberF tx to ft ⟨by decide, by decide⟩ ⟨by omega, by omega⟩), e1, X_numberF (f1.tx ho tx) (to.c s11) (by unfold FT; rw [s11]; exact ft) ⟨by decide, by decide⟩ ⟨by omega, by omega⟩]
  simp only [bnd_some]
  rw [e2]
theorem X_169F {o m : Int} {σ : St} (ho : 115 ≤ o) (ft : FT σ) : ∃ σ', p_X5_readBar_169 o 1 σ = some (0, σ') ∧ xU o σ σ' ∧ σ' 1 = σ 1 := by
  obtain ⟨s2, e2, a2, b2, c2⟩ := su_ex σ o 5 (σ o 5 + 1)
  refine ⟨s2, ?_, xUs ho (by omega) e2, a2 1 (by omega)⟩
  unfold p_X5_readBar_169
  rw [X_closeF ft]
  simp only [bnd_some]
  rw [nx_eq, e2]
theorem X_116e {o : Int} {σ : St} {A : Int} (xA : p_X4_isWord 1 10 σ = some (A, σ)) (hA : A = 0 ∨ A = 1) : p_X5_readBar_116 o 1 σ = if A = 0 then p_X5_readBar_169 o 1 σ else (Option.bind (p_X4_step 1 σ) fun x126 => spX o 4 5 11 (p_X5_readBar_169 o 1) x126.2) := by
  unfold p_X5_readBar_116 spX
  rw [xA]
  simp only [bnd_some]
  rw [zm_eq (a := A) (by omega) (by omega)]
theorem X_116F {o m : Int} {σ : St} {T : Int → Int} {L p : Int} (ho : 115 ≤ o) (hm : 0 ≤ m ∧ m < 6) (h5 : σ o 5 = m) (tx : TXx σ T L) (to : TO σ T L p) (ft : FT σ) : ∃ σ', p_X5_readBar_116 o 1 σ = some (0, σ') ∧ xU o σ σ' ∧ σ' 1 2 = σ 1 2 ∧ σ' 1 3 = σ 1 3 := by
  obtain ⟨q, rn, _, _⟩ := to.rn
  obtain ⟨A, xA, A01, iA⟩ := X_isWord (w := 10) (by decide) tx to rn
  rw [X_116e xA A01]
  rcases A01 with rfl | rfl
  · obtain ⟨s1, e1, f1, q1⟩ := X_169F (m := m) ho ft
    exact ⟨s1, by rw [if_pos rfl]; exact e1, f1, by rw [q1], by rw [q1]⟩
  · have te := to.e
    have o2 := to.2.1
    obtain ⟨s1, p1, x1, r1, _, to1⟩ := X_step tx (by omega : 0 ≤ σ 1 6 ∧ σ 1 6 ≤ L)
    have ft1 : FT s1 := by unfold FT; rw [r1.2 2 (by omega)]; exact ft
    obtain ⟨s2, e2, f2, q2, _⟩ := X_spF (a := 4) (b := 5) (hi := 11) (p_X5_readBar_169 o 1) ho (by decide) (by decide) (by decide) hm (by rw [r1.1 o (by omega)]; exact h5) (r1.tx tx) to1 ft1
    obtain ⟨s3, e3, f3, q3⟩ := X_169F (m := m) (σ := s2) ho (by unfold FT; rw [q2]; exact ft1)
    refine ⟨s3, ?_, (r1.u.tr f2).tr f3, by rw [q3, q2, r1.2 2 (by omega)], by rw [q3, q2, r1.2 3 (by omega)]⟩
    rw [if_neg (by decide), x1]
    simp only [bnd_some]
    rw [e2, e3]
/-- a span, on both sides -/
theorem span_lock {σ τ : St} {T : Int → Int} {L p o c m a b hi v : Int} (ho : o = 115 + 6 * c) (hc : 0 ≤ c ∧ c < 4) (hm : 0 ≤ m ∧ m < 6) (ha : (a = 2 ∧ b = 3 ∧ hi = 9 ∧ v = 30 * c + 5 * m + 1) ∨ (a = 4 ∧ b = 5 ∧ hi = 11 ∧ v = 30 * c + 5 * m + 3)) (h5 : σ o 5 = m) (ps : PS σ τ T L p) (nf : σ 1 2 = 0) (hb : HB σ τ o c m) : ∃ (σ' : St) (k : Int) (τ' : St), (∀ K : St → Option (Int × St), spX o a b hi K σ = K σ') ∧ p_X8_takeSpan v hi τ = some (k, τ') ∧ xU o σ σ' ∧ pU c τ τ' ∧ σ' o = σ o ∧ (∀ j k' : Int, 0 ≤ j → j ≤ 4 → k' ≠ m → σ' (o + 1 + j) k' = σ (o + 1 + j) k') ∧ τ' 14 = τ 14 ∧ (∀ i : Int, (i < 30 * c + 5 * m ∨ 30 * c + 5 * m + 4 < i) → τ' 15 i = τ 15 i) ∧ ((k = 0 ∧ σ' 1 2 = 0 ∧ σ' 1 3 = σ 1 3 ∧ τ' 0 15 = τ 0 15 ∧ HB σ' τ' o c m ∧ ∃ p', p < p' ∧ PS σ' τ' T L p') ∨ ((1 ≤ k ∧ k ≤ 5) ∧ σ' 1 2 = k ∧ σ' 1 3 = τ' 0 15 ∧ TXx σ' T L ∧ ∃ p', TO σ' T L p')) := by
  have hib : 9 ≤ hi ∧ hi ≤ 11 := by omega
  have hvb : 30 * c ≤ v ∧ v + 1 ≤ 30 * c + 29 := by omega
  have hvc : 30 * c + 5 * m ≤ v ∧ v + 1 ≤ 30 * c + 5 * m + 4 := by omega
  have hab : (1 ≤ a ∧ a ≤ 5) ∧ b = a + 1 ∧ b ≤ 5 ∧ v = 30 * c + 5 * m + (a - 1) := by omega
  clear ha
  obtain ⟨V1, σ1, k1, τ1, x1, n1, g1, alt⟩ := num_lock (lo := 0) (hi := hi) ps nf (by decide) (by omega)
  obtain ⟨σ2, e2, a2, b2, c2⟩ := su_ex σ1 (o + a) m V1
  have fx2 : xU o σ1 σ2 := xUs (by omega) (by omega) e2
  have s21 : σ2 1 = σ1 1 := a2 1 (by omega)
  obtain ⟨τ2, e2m, a2m, b2m, c2m⟩ := su_ex τ1 15 v (τ1 0 19)
  have f2 : pU c τ1 τ2 := pU15 (by omega) e2m
  have z0 : τ2 0 = τ1 0 := a2m 0 (by decide)
  have mm : p_X8_takeSpan v hi τ = if zm k1 ≤ 0 then (Option.bind (p_X8_takeNumber (τ1 0 19) hi τ2) fun x33 => p_X8_takeSpan_36 v x33.1 x33.2) else (p_X8_takeSpan_36 v k1 τ2) := by
    unfold p_X8_takeSpan
    rw [n1]
    simp only [bnd_some]
    rw [zm_eq (a := v) (by omega) (by omega), gd_pos (by omega), nx_eq, e2m, b2m]
  have m36 : ∀ (k : Int) (τz : St), ∃ τ', p_X8_takeSpan_36 v k τz = some (k, τ') ∧ pU c τz τ' ∧ (∀ q : Int, q ≠ 15 → τ' q = τz q) ∧ τ' 15 (v + 1) = τz 0 19 ∧ ∀ j, j ≠ v + 1 → τ' 15 j = τz 15 j := fun k τz => by
    obtain ⟨t1, e1, a1, b1, c1⟩ := su_ex τz 15 (v + 1) (τz 0 19)
    refine ⟨t1, ?_, pU15 (by omega) e1, a1, b1, c1⟩
    unfold p_X8_takeSpan_36
    rw [zm_eq (a := v + 1) (by omega) (by omega), gd_pos (by omega), nx_eq, e1]
  have h51 : σ1 o 5 = m := by
    rcases alt with ⟨_, _, _, _, _, p2, _, r1, _⟩ | ⟨_, _, F1, _⟩
    · rw [r1.1 o (by omega)]; exact h5
    · rw [F1.1 o (by omega)]; exact h5
  have xx : ∀ K : St → Option (Int × St), spX o a b hi K σ = Option.bind (p_X4_number 1 V1 hi σ2) fun x112 => K (su x112.2 (o + b) m x112.1) := fun K => by
    rw [X_sp K (by omega) (by omega) hm h5 h51 x1, e2]
  rcases alt with ⟨rfl, vb, v19, _, v15, p2, pp2, r1, ps1⟩ | ⟨hk, rfl, F1, v15⟩
  · rw [if_pos (by decide), v19] at mm
    obtain ⟨tx1, tm1, to1, h01, sk1⟩ := ps1
    have to2 : TO σ2 T L p2 := to1.c s21
    have tx2 := fx2.tx (by omega) tx1
    have ps2 : PS σ2 τ2 T L p2 := ⟨tx2, f2.tx tm1, to2, by rw [z0]; exact h01, by rw [z0]; exact sk1⟩
    have nf2 : σ2 1 2 = 0 := by rw [s21, r1.2 2 (by omega)]; exact nf
    obtain ⟨V2, σ3, k3, τ3, x3, n3, g3, alt3⟩ := num_lock (lo := V1) (hi := hi) ps2 nf2 (by omega) (by omega)
    obtain ⟨σ4, e4, a4, b4, c4⟩ := su_ex σ3 (o + b) m V2
    have fx4 : xU o σ3 σ4 := xUs (by omega) (by omega) e4
    have s41 : σ4 1 = σ3 1 := a4 1 (by omega)
    obtain ⟨τ4, m4, f4, q4, w4, w4'⟩ := m36 k3 τ3
    have xx2 : ∀ K : St → Option (Int × St), spX o a b hi K σ = K σ4 := fun K => by
      rw [xx K, x3]
      simp only [bnd_some]
      rw [e4]
    have mm2 : p_X8_takeSpan v hi τ = some (k3, τ4) := by
      rw [mm, n3]
      simp only [bnd_some]
      exact m4
    have s3k : ∀ k : Int, k ≠ 1 → σ3 k = σ2 k := fun k hk => by
      rcases alt3 with ⟨_, _, _, _, _, p3, _, r3, _⟩ | ⟨_, _, F3, _⟩
      · exact r3.1 k hk
      · exact F3.1 k hk
    have FX : xU o σ σ4 := by
      rcases alt3 with ⟨_, _, _, _, _, p3, _, r3, _⟩ | ⟨_, _, F3, _⟩
      · exact ((r1.u.tr fx2).tr r3.u).tr fx4
      · exact ((r1.u.tr fx2).tr F3.u).tr fx4
    have FM : pU c τ τ4 := ((g1.u.tr f2).tr g3.u).tr f4
    have so : σ4 o = σ o := by rw [a4 o (by omega), s3k o (by omega), a2 o (by omega), r1.1 o (by omega)]
    have oth : ∀ j k' : Int, 0 ≤ j → j ≤ 4 → k' ≠ m → σ4 (o + 1 + j) k' = σ (o + 1 + j) k' := fun j k' j0 j4 hk' => by
      have st1 : σ4 (o + 1 + j) k' = σ3 (o + 1 + j) k' := by
        by_cases z : o + 1 + j = o + b
        · rw [z]; exact c4 k' hk'
        · rw [a4 _ z]
      have st2 : σ2 (o + 1 + j) k' = σ1 (o + 1 + j) k' := by
        by_cases z : o + 1 + j = o + a
        · rw [z]; exact c2 k' hk'
        · rw [a2 _ z]
      rw [st1, s3k _ (by omega), st2, r1.1 _ (by omega)]
    have r14 : τ4 14 = τ 14 := by rw [q4 14 (by decide), g3.1 14 (by decide), a2m 14 (by decide), g1.1 14 (by decide)]
    have r15 : ∀ i : Int, i ≠ v → i ≠ v + 1 → τ4 15 i = τ 15 i := fun i h1 h2 => by rw [w4' i h2, g3.1 15 (by decide), c2m i h1, g1.1 15 (by decide)]
    refine ⟨σ4, k3, τ4, xx2, mm2, FX, FM, so, oth, r14, fun i hi => r15 i (by omega) (by omega), ?_⟩
    rcases alt3 with ⟨rfl, vb3, w19, _, w15, p3, pp3, r3, ps3⟩ | ⟨hk3, rfl, F3, w15⟩
    · have z04 : τ4 0 = τ3 0 := q4 0 (by decide)
      refine Or.inl ⟨rfl, by rw [s41, r3.2 2 (by omega)]; exact nf2, by rw [s41, r3.2 3 (by omega), s21, r1.2 3 (by omega)], by rw [z04, w15, z0, v15], fun j j0 j4 => ?_, p3, by omega, fx4.tx (by omega) ps3.1, f4.tx ps3.2.1, ps3.2.2.1.c s41, by rw [z04]; exact ps3.2.2.2.1, by rw [z04]; exact ps3.2.2.2.2⟩
      by_cases za : o + 1 + j = o + a
      · have e : 30 * c + 5 * m + j = v := by omega
        rw [e, w4' v (by omega), g3.1 15 (by decide), b2m, v19, za, a4 _ (by omega), s3k _ (by omega), b2]
        exact ⟨rfl, by omega, by omega⟩
      · by_cases zb : o + 1 + j = o + b
        · have e : 30 * c + 5 * m + j = v + 1 := by omega
          rw [e, w4, w19, zb, b4]
          exact ⟨rfl, by omega, by omega⟩
        · rw [r15 _ (by omega) (by omega), a4 _ zb, s3k _ (by omega), a2 _ za, r1.1 _ (by omega)]
          exact hb j j0 j4
    · exact Or.inr ⟨by omega, by rw [s41]; exact F3.2.2.1, by rw [s41, q4 0 (by decide), w15]; exact F3.2.2.2, fx4.tx (by omega) (F3.tx tx2), p2, (F3.to to2).c s41⟩
  · have zk : zm k1 = k1 := zm_eq (by omega) (by omega)
    rw [zk, if_neg (by omega)] at mm
    have tx0 := ps.1
    have to0 := ps.2.2.1
    have to2 : TO σ2 T L p := (F1.to to0).c s21
    have tx2 := fx2.tx (by omega) (F1.tx tx0)
    have ft2 : FT σ2 := by unfold FT; rw [s21, F1.2.2.1]; omega
    obtain ⟨σ4, e4, a4, b4, c4⟩ := su_ex σ2 (o + b) m 0
    have fx4 : xU o σ2 σ4 := xUs (by omega) (by omega) e4
    have s41 : σ4 1 = σ2 1 := a4 1 (by omega)
    obtain ⟨τ4, m4, f4, q4, w4, w4'⟩ := m36 k1 τ2
    refine ⟨σ4, k1, τ4, fun K => ?_, mm.trans m4, (F1.u.tr fx2).tr fx4, (g1.u.tr f2).tr f4, by rw [a4 o (by omega), a2 o (by omega), F1.1 o (by omega)], fun j k' j0 j4 hk' => ?_, by rw [q4 14 (by decide), a2m 14 (by decide), g1.1 14 (by decide)], fun i hi => by rw [w4' i (by omega), c2m i (by omega), g1.1 15 (by decide)], Or.inr ⟨by omega, by rw [s41, s21]; exact F1.2.2.1, by rw [s41, s21, q4 0 (by decide), z0, v15]; exact F1.2.2.2, fx4.tx (by omega) tx2, p, to2.c s41⟩⟩
    · rw [xx K, X_numberF tx2 to2 ft2 ⟨by decide, by decide⟩ ⟨by omega, by omega⟩]
      simp only [bnd_some]
      rw [e4]
    · have st1 : σ4 (o + 1 + j) k' = σ2 (o + 1 + j) k' := by
        by_cases z : o + 1 + j = o + b
        · rw [z]; exact c4 k' hk'
        · rw [a4 _ z]
      have st2 : σ2 (o + 1 + j) k' = σ1 (o + 1 + j) k' := by
        by_cases z : o + 1 + j = o + a
        · rw [z]; exact c2 k' hk'
        · rw [a2 _ z]
      rw [st1, st2, F1.1 _ (by omega)]
theorem M_289 {τ : St} {c : Int} (hc : 0 ≤ c ∧ c < 4) (h23 : τ 0 23 = c) (k : Int) (hk : 1 ≤ k ∧ k ≤ 5) : ∃ τ', p_X8_takeRule_289 k τ = some (k, τ') ∧ pU c τ τ' ∧ τ' 0 15 = τ 0 15 := by
  obtain ⟨t1, e1, a1, b1, c1⟩ := su_ex τ 14 c (τ 14 c + 1)
  refine ⟨t1, ?_, pU14 e1, by rw [a1 0 (by decide)]⟩
  unfold p_X8_takeRule_289
  rw [h23, zm_eq (a := c) (by omega) (by omega), gd_pos (by omega), nx_eq, e1, zm_eq (a := k) (by omega) (by omega), if_neg (by omega)]
theorem bar_end {σ τ : St} {T : Int → Int} {L p o c m v5 : Int} (ho : o = 115 + 6 * c) (hc : 0 ≤ c ∧ c < 4) (hm : 0 ≤ m ∧ m < 6) (h23 : τ 0 23 = c) (hmm : τ 14 c = m) (ps : PS σ τ T L p) (nf : σ 1 2 = 0) (hu : HU σ τ o c) (hb : HB σ τ o c m) (h5 : 0 ≤ v5 ∧ v5 ≤ 2) (hw : ∀ q, RN lt_ T L p q → (v5 < 1 → ¬ MW T p (q - p) 9) ∧ (v5 < 2 → ¬ MW T p (q - p) 10)) (n : Nat) (z : Int) : ∃ (σ' : St) (k : Int) (τ' : St), p_X5_readBar_169 o 1 σ = some (0, σ') ∧ p_X8_takeRule_143 (n + 1) z 0 v5 τ = some (k, τ') ∧ xU o σ σ' ∧ pU c τ τ' ∧ OU σ σ' τ τ' T L p k o c := by
  obtain ⟨tx, tm, to, h0, sk⟩ := ps
  obtain ⟨τ1, e1, a1, b1, c1⟩ := M_hr tm h0 sk
  have g1 : mF τ τ1 := ⟨a1, fun j hj => b1 j (by omega)⟩
  have o2 := to.2.1
  by_cases cs : p < L ∧ T p = 59
  · have mm : p_X8_takeRule_143 (n + 1) z 0 v5 τ = p_X8_takeRule_289 0 τ1 := by
      show p_X8_takeRule_143b (p_X8_takeRule_143 n) z 0 v5 τ = _
      unfold p_X8_takeRule_143b
      rw [if_pos (by decide), e1]
      simp only [bnd_some]
      rw [if_neg (show ¬ p = L by omega), cs.2, if_pos (by decide)]
    obtain ⟨τ2, e2, a2, b2, c2⟩ := su_ex τ1 14 c (τ1 14 c + 1)
    have f2 : pU c τ1 τ2 := pU14 e2
    have z0 : τ2 0 = τ1 0 := a2 0 (by decide)
    have ps2 : PS σ τ2 T L p := ⟨tx, f2.tx (g1.tx tm), to, by rw [z0, c1]; omega, by rw [z0, c1]; exact sk.at⟩
    obtain ⟨σ3, k3, τ3, x3, m3, g3, alt⟩ := stop_lock ps2 nf
    obtain ⟨σ4, e4, a4, b4, c4⟩ := su_ex σ3 o 5 (σ3 o 5 + 1)
    have fx4 : xU o σ3 σ4 := xUs (by omega) (by omega) e4
    have s41 : σ4 1 = σ3 1 := a4 1 (by omega)
    have mm2 : p_X8_takeRule_143 (n + 1) z 0 v5 τ = some (k3, τ3) := by
      have z23 : zm (τ1 0 23) = c := by rw [b1 23 (by decide), h23]; exact zm_eq (by omega) (by omega)
      rw [mm]
      unfold p_X8_takeRule_289
      rw [gd_pos (by rw [z23]; omega), z23, nx_eq, e2, if_pos (by decide), m3]
      simp only [bnd_some]
    refine ⟨σ4, k3, τ3, ?_, mm2, ?_, (g1.u.tr f2).tr g3.u, ?_⟩
    · unfold p_X5_readBar_169
      rw [x3]
      simp only [bnd_some]
      rw [nx_eq, e4]
    · rcases alt with ⟨_, _, p4, _, r4, _⟩ | ⟨_, F4, _⟩
      · exact r4.u.tr fx4
      · exact F4.u.tr fx4
    · rcases alt with ⟨rfl, w15, p4, pp4, r4, ps4⟩ | ⟨rfl, F4, w15⟩
      · have t14 : τ3 14 c = m + 1 := by rw [g3.1 14 (by decide), b2, a1 14 (by decide), hmm]
        have t15 : τ3 15 = τ 15 := by rw [g3.1 15 (by decide), a2 15 (by decide), a1 15 (by decide)]
        refine Or.inl ⟨rfl, by rw [s41, r4.2 2 (by omega)]; exact nf, by rw [s41, r4.2 3 (by omega)], by rw [w15, z0, b1 15 (by decide)], ⟨?_, fun k k0 k1 j j0 j4 => ?_⟩, p4, pp4, fx4.tx (by omega) ps4.1, ps4.2.1, ps4.2.2.1.c s41, ps4.2.2.2⟩
        · rw [t14, b4, r4.1 o (by omega), hu.1.1, hmm]
          exact ⟨rfl, by omega, by omega⟩
        · rw [t14] at k1
          rw [t15, a4 _ (by omega), r4.1 _ (by omega)]
          by_cases y : k = m
          · rw [y]; exact hb j j0 j4
          · exact hu.2 k k0 (by omega) j j0 j4
      · exact Or.inr ⟨by decide, by rw [s41]; exact F4.2.2.1, by rw [s41, w15]; exact F4.2.2.2⟩
  · obtain ⟨q, rn, gl, gn⟩ := to.rn
    obtain ⟨τ2, e2, g2, d15, d16, d18, d17⟩ := M_readWord (g1.tx tm) (by omega) (show SK T L (τ1 0 16) p by rw [c1]; exact sk.at) rn
    have z9 := zc_MW (w := 9) (by decide) rn
    have z10 := zc_MW (w := 10) (by decide) rn
    rw [← d17] at z9 z10
    obtain ⟨hw9, hw10⟩ := hw q rn
    have nb : ¬ zm (if p = L then -1 else T p) = 59 := by
      by_cases y : p = L
      · rw [if_pos y]; decide
      · rw [if_neg y, zm_eq (a := T p) (by have := (tx.2.2 p o2.1 (by omega)).2; omega) (by have := (tx.2.2 p o2.1 (by omega)).2; omega)]
        exact fun w => cs ⟨by omega, w⟩
    obtain ⟨τ3, m3, g3, v3⟩ := M_fails τ2 1 (τ2 0 16)
    have m223 : ∀ vs0 : Int, 0 ≤ vs0 → vs0 ≤ 2 → ¬ v5 < vs0 → p_X8_takeRule_223 (p_X8_takeRule_143 n) z v5 vs0 τ2 = some (1, τ3) := fun vs0 a b h => by
      unfold p_X8_takeRule_223
      rw [zm_eq (a := v5) (by omega) (by omega), zm_eq (a := vs0) (by omega) (by omega), if_neg h, m3]
      simp only [bnd_some]
    have mm : p_X8_takeRule_143 (n + 1) z 0 v5 τ = some (1, τ3) := by
      show p_X8_takeRule_143b (p_X8_takeRule_143 n) z 0 v5 τ = _
      unfold p_X8_takeRule_143b
      rw [if_pos (by decide), e1]
      simp only [bnd_some]
      rw [if_neg nb, e2]
      simp only [bnd_some]
      rw [code9]
      simp only []
      rw [code10]
      simp only []
      by_cases y9 : MW T p (q - p) 9
      · rw [if_pos (z9.2 y9)]
        exact m223 1 (by decide) (by decide) (fun h => hw9 h y9)
      · rw [if_neg (fun w => y9 (z9.1 w))]
        by_cases y10 : MW T p (q - p) 10
        · rw [if_pos (z10.2 y10)]
          exact m223 2 (by decide) (by decide) (fun h => hw10 h y10)
        · rw [if_neg (fun w => y10 (z10.1 w))]
          exact m223 0 (by decide) (by decide) (by omega)
    obtain ⟨σ3, x3, F3⟩ := X_closeBad2 to nf cs
    obtain ⟨σ4, e4, a4, b4, c4⟩ := su_ex σ3 o 5 (σ3 o 5 + 1)
    have fx4 : xU o σ3 σ4 := xUs (by omega) (by omega) e4
    have s41 : σ4 1 = σ3 1 := a4 1 (by omega)
    refine ⟨σ4, 1, τ3, ?_, mm, F3.u.tr fx4, (g1.u.tr g2.u).tr g3.u, Or.inr ⟨by decide, by rw [s41]; exact F3.2.2.1, by rw [s41, v3, d16]; exact F3.2.2.2⟩⟩
    unfold p_X5_readBar_169
    rw [x3]
    simp only [bnd_some]
    rw [nx_eq, e4]
