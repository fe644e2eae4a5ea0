/-! a clause of a house, on both sides -/
def xH (σ σ' : St) : Prop := (∀ k : Int, k ≠ 1 → k ≠ 7 → k ≠ 8 → σ' k = σ k) ∧ σ' 1 1 = σ 1 1
def pH (τ τ' : St) : Prop := (∀ q : Int, 7 < q → τ' q = τ q) ∧ (∀ q : Int, 1 ≤ q → q ≤ 7 → q ≠ 2 → ∀ j, j ≠ 2 → τ' q j = τ q j) ∧ (∀ j : Int, j < 20 → τ' 2 j = τ 2 j) ∧ ∀ j : Int, (j < 15 ∨ 21 < j) → τ' 0 j = τ 0 j
theorem xH.tr {a b c : St} (h : xH a b) (g : xH b c) : xH a c := ⟨fun k h1 h2 h3 => (g.1 k h1 h2 h3).trans (h.1 k h1 h2 h3), g.2.trans h.2⟩
theorem pH.tr {a b c : St} (h : pH a b) (g : pH b c) : pH a c := ⟨fun q hq => (g.1 q hq).trans (h.1 q hq), fun q a b c j d => (g.2.1 q a b c j d).trans (h.2.1 q a b c j d), fun j hj => (g.2.2.1 j hj).trans (h.2.2.1 j hj), fun j hj => (g.2.2.2 j hj).trans (h.2.2.2 j hj)⟩
theorem rF.h {σ σ' : St} (f : rF σ σ') : xH σ σ' := ⟨fun k h _ _ => f.1 k h, f.2 1 (by omega)⟩
theorem FA.h {σ σ' : St} {c pos : Int} (f : FA σ σ' c pos) : xH σ σ' := ⟨fun k h _ _ => f.1 k h, f.2.1 1 (by decide) (by decide)⟩
theorem mF.h {τ τ' : St} (f : mF τ τ') : pH τ τ' := ⟨fun q hq => f.1 q (by omega), fun q a _ _ j _ => by rw [f.1 q (by omega)], fun j _ => by rw [f.1 2 (by decide)], fun j hj => f.2 j (by omega)⟩
theorem xHs {σ σ' : St} {k j v : Int} (hk : k = 7 ∨ k = 8) (e : su σ k j v = σ') : xH σ σ' := by
  obtain ⟨σ1, e1, a1, b1, c1⟩ := su_ex σ k j v
  have q : σ' = σ1 := e.symm.trans e1
  subst q
  exact ⟨fun i _ h2 h3 => a1 i (by omega), by rw [a1 1 (by omega)]⟩
theorem pHs {τ τ' : St} {q v : Int} (hq : 1 ≤ q ∧ q ≤ 7 ∧ q ≠ 2) (e : su τ q 2 v = τ') : pH τ τ' := by
  obtain ⟨σ1, e1, a1, b1, c1⟩ := su_ex τ q 2 v
  have z : τ' = σ1 := e.symm.trans e1
  subst z
  refine ⟨fun i hi => a1 i (by omega), fun i _ _ _ j hj => ?_, fun j _ => by rw [a1 2 (by omega)], fun j _ => by rw [a1 0 (by omega)]⟩
  by_cases y : i = q
  · rw [y]; exact c1 j hj
  · rw [a1 i y]
theorem pH2 {τ τ' : St} {j v : Int} (hj : 20 ≤ j) (e : su τ 2 j v = τ') : pH τ τ' := by
  obtain ⟨σ1, e1, a1, b1, c1⟩ := su_ex τ 2 j v
  have z : τ' = σ1 := e.symm.trans e1
  subst z
  exact ⟨fun i hi => a1 i (by omega), fun i _ _ h2 j _ => by rw [a1 i h2], fun j _ => c1 j (by omega), fun j _ => by rw [a1 0 (by omega)]⟩
theorem pH0 {τ τ' : St} {j v : Int} (hj : 15 ≤ j ∧ j ≤ 21) (e : su τ 0 j v = τ') : pH τ τ' := by
  obtain ⟨σ1, e1, a1, b1, c1⟩ := su_ex τ 0 j v
  have z : τ' = σ1 := e.symm.trans e1
  subst z
  exact ⟨fun i hi => a1 i (by omega), fun i h1 _ _ j _ => by rw [a1 i (by omega)], fun j _ => by rw [a1 2 (by decide)], fun i hi => c1 i (by omega)⟩
theorem pH.tx {τ τ' : St} {T : Int → Int} {L : Int} (h : pH τ τ') (t : TXm τ T L) : TXm τ' T L := by
  unfold TXm
  rw [h.2.2.2 14 (by omega), h.1 13 (by decide)]
  exact t
theorem xH.tx {σ σ' : St} {T : Int → Int} {L : Int} (h : xH σ σ') (t : TXx σ T L) : TXx σ' T L := by
  unfold TXx
  rw [h.2, h.1 2 (by decide) (by decide) (by decide)]
  exact t
theorem TO.c {σ σ' : St} {T : Int → Int} {L p : Int} (h : TO σ T L p) (e : σ' 1 = σ 1) : TO σ' T L p := by
  unfold TO
  rw [e]
  exact h
def HX (σ τ : St) (sn : Int) : Prop := (σ 7 1 = τ 1 2 ∧ 0 ≤ τ 1 2 ∧ τ 1 2 ≤ 10) ∧ σ 7 2 = τ 3 2 ∧ (σ 7 3 = τ 5 2 ∧ 1 ≤ τ 5 2 ∧ τ 5 2 ≤ 9) ∧ (σ 7 4 = τ 4 2 ∧ 1 ≤ τ 4 2 ∧ τ 4 2 ≤ 9) ∧ (σ 7 5 = τ 6 2 ∧ 0 ≤ τ 6 2 ∧ τ 6 2 ≤ 99) ∧ (σ 7 6 = τ 7 2 ∧ 0 ≤ τ 7 2 ∧ τ 7 2 ≤ 9) ∧ (∀ r : Int, 0 ≤ r → r < τ 1 2 → σ 8 r = τ 2 (20 + r) ∧ 0 ≤ τ 2 (20 + r) ∧ τ 2 (20 + r) ≤ 999) ∧ (∀ k : Int, 0 ≤ k → k ≤ 3 → (hasb sn k ↔ hasb (τ 0 21) (k + 1)))
def OC (σ σ' τ τ' : St) (T : Int → Int) (L p c sn : Int) : Prop := (c = 0 ∧ σ' 1 2 = 0 ∧ σ' 1 3 = σ 1 3 ∧ τ' 0 15 = τ 0 15 ∧ HX σ' τ' sn ∧ ∃ p', p < p' ∧ PS σ' τ' T L p') ∨ ((1 ≤ c ∧ c ≤ 5) ∧ σ' 1 2 = c ∧ σ' 1 3 = τ' 0 15)
theorem M_254 {τ : St} {v : Int} (hv : 0 ≤ v ∧ v ≤ 4) : ∃ τ', p_X8_takeHouse_254 v τ = (Option.bind (p_X8_takeStop τ') fun x351 => some (x351.1, x351.2)) ∧ pH τ τ' ∧ τ' 0 = τ 0 ∧ (∀ q : Int, 1 ≤ q → q ≤ 3 → τ' q = τ q) ∧ τ' 5 2 = (if v = 1 then τ 0 19 else τ 5 2) ∧ τ' 4 2 = (if v = 2 then τ 0 19 else τ 4 2) ∧ τ' 6 2 = (if v = 3 then τ 0 19 else τ 6 2) ∧ τ' 7 2 = (if v = 4 then τ 0 19 else τ 7 2) := by
  have zv : zm v = v := zm_eq (by omega) (by omega)
  have z2 : zm 2 = 2 := by decide
  obtain ⟨A5, h5⟩ : ∃ A, A = (if v = 1 then τ 0 19 else τ 5 2) := ⟨_, rfl⟩
  obtain ⟨A4, h4⟩ : ∃ A, A = (if v = 2 then τ 0 19 else τ 4 2) := ⟨_, rfl⟩
  obtain ⟨A6, h6⟩ : ∃ A, A = (if v = 3 then τ 0 19 else τ 6 2) := ⟨_, rfl⟩
  obtain ⟨A7, h7⟩ : ∃ A, A = (if v = 4 then τ 0 19 else τ 7 2) := ⟨_, rfl⟩
  obtain ⟨τ1, e1, a1, b1, c1⟩ := su_ex τ 5 2 A5
  obtain ⟨τ2, e2, a2, b2, c2⟩ := su_ex τ1 4 2 A4
  obtain ⟨τ3, e3, a3, b3, c3⟩ := su_ex τ2 6 2 A6
  obtain ⟨τ4, e4, a4, b4, c4⟩ := su_ex τ3 7 2 A7
  have s1 : p_X8_takeHouse_254 v τ = p_X8_takeHouse_277 v 5 2 A5 τ := by
    unfold p_X8_takeHouse_254
    rw [zv]
    by_cases y : v = 1
    · rw [h5, if_pos y, if_pos y]
    · rw [h5, if_neg y, if_neg y]
  have s2 : p_X8_takeHouse_277 v 5 2 A5 τ = p_X8_takeHouse_301 v 4 2 A4 τ1 := by
    unfold p_X8_takeHouse_277
    rw [z2, gd_pos (by decide), nx_eq, e1, zv, a1 0 (by decide), a1 4 (by decide)]
    by_cases y : v = 2
    · rw [h4, if_pos y, if_pos y]
    · rw [h4, if_neg y, if_neg y]
  have s3 : p_X8_takeHouse_301 v 4 2 A4 τ1 = p_X8_takeHouse_325 v 6 2 A6 τ2 := by
    unfold p_X8_takeHouse_301
    rw [z2, gd_pos (by decide), nx_eq, e2, zv, a2 0 (by decide), a1 0 (by decide), a2 6 (by decide), a1 6 (by decide)]
    by_cases y : v = 3
    · rw [h6, if_pos y, if_pos y]
    · rw [h6, if_neg y, if_neg y]
  have s4 : p_X8_takeHouse_325 v 6 2 A6 τ2 = p_X8_takeHouse_349 7 2 A7 τ3 := by
    unfold p_X8_takeHouse_325
    rw [z2, gd_pos (by decide), nx_eq, e3, zv, a3 0 (by decide), a2 0 (by decide), a1 0 (by decide), a3 7 (by decide), a2 7 (by decide), a1 7 (by decide)]
    by_cases y : v = 4
    · rw [h7, if_pos y, if_pos y]
    · rw [h7, if_neg y, if_neg y]
  have s5 : p_X8_takeHouse_349 7 2 A7 τ3 = (Option.bind (p_X8_takeStop τ4) fun x351 => some (x351.1, x351.2)) := by
    unfold p_X8_takeHouse_349
    rw [z2, gd_pos (by decide), nx_eq, e4]
  refine ⟨τ4, ?_, ((pHs (by decide) e1).tr (pHs (by decide) e2)).tr ((pHs (by decide) e3).tr (pHs (by decide) e4)), ?_, fun q q1 q3 => by rw [a4 q (by omega), a3 q (by omega), a2 q (by omega), a1 q (by omega)], ?_, ?_, ?_, ?_⟩
  · rw [s1, s2, s3, s4, s5]
  · rw [a4 0 (by decide), a3 0 (by decide), a2 0 (by decide), a1 0 (by decide)]
  · rw [a4 5 (by decide), a3 5 (by decide), a2 5 (by decide), b1, h5]
  · rw [a4 4 (by decide), a3 4 (by decide), b2, h4]
  · rw [a4 6 (by decide), b3, h6]
  · rw [b4, h7]
abbrev loK (k : Int) : Int := if k = 0 ∨ k = 1 then 1 else 0
abbrev hiK (k : Int) : Int := if k = 2 then 99 else 9
theorem X_readStep {σ : St} {sn k : Int} (hk : 0 ≤ k ∧ k ≤ 3) (h : p_X0_stepTold 1 σ = some (k, σ)) (hb : ¬ hasb sn k) : p_X0_readStep 7 1 sn σ = Option.bind (p_X4_step 1 σ) fun x41 => p_X0_readStep_71 7 1 sn k 1 (loK k) (hiK k) x41.2 := by
  have zk : zm k = k := zm_eq (by omega) (by omega)
  unfold p_X0_readStep
  rw [h]
  simp only [bnd_some]
  rw [zk, if_neg (by omega), if_pos (Classical.not_not.1 hb)]
  congr 1
  funext x41
  unfold p_X0_readStep_54 p_X0_readStep_59 loK hiK
  rw [zk]
  by_cases k0 : k = 0
  · have n2 : ¬ k = 2 := by omega
    have y : k = 0 ∨ k = 1 := Or.inl k0
    simp only [if_pos k0, if_neg n2, if_pos y]
  · by_cases k1 : k = 1
    · have n2 : ¬ k = 2 := by omega
      have y : k = 0 ∨ k = 1 := Or.inr k1
      simp only [if_neg k0, if_pos k1, if_neg n2, if_pos y]
    · have y : ¬ (k = 0 ∨ k = 1) := by omega
      by_cases k2 : k = 2
      · simp only [if_neg k0, if_neg k1, if_pos k2, if_neg y]
      · simp only [if_neg k0, if_neg k1, if_neg k2, if_neg y]
theorem X_setStep {σ : St} {k v : Int} (hk : 0 ≤ k ∧ k ≤ 3) : ∃ σ', p_X0_setStep 7 k v σ = some (0, σ') ∧ xH σ σ' ∧ σ' 1 = σ 1 ∧ σ' 8 = σ 8 ∧ σ' 7 (3 + k) = v ∧ ∀ j, j ≠ 3 + k → σ' 7 j = σ 7 j := by
  obtain ⟨σ1, e1, a1, b1, c1⟩ := su_ex σ 7 (3 + k) v
  refine ⟨σ1, ?_, xHs (Or.inl rfl) e1, a1 1 (by decide), a1 8 (by decide), b1, c1⟩
  have zk : zm k = k := zm_eq (by omega) (by omega)
  unfold p_X0_setStep
  simp only [nx_eq]
  rw [zk]
  rcases (by omega : k = 0 ∨ k = 1 ∨ k = 2 ∨ k = 3) with rfl | rfl | rfl | rfl
  · rw [if_pos rfl, ← e1]; rfl
  · rw [if_neg (by decide), if_pos rfl, ← e1]; rfl
  · rw [if_neg (by decide), if_neg (by decide), if_pos rfl, ← e1]; rfl
  · rw [if_neg (by decide), if_neg (by decide), if_neg (by decide), ← e1]; rfl
/-- the reference, from a clause's word on -/
theorem M_52 {τ : St} {v : Int} (hv : 0 ≤ v ∧ v ≤ 4) : ∃ τ', p_X8_takeHouse_52 v 0 τ = p_X8_takeHouse_137 v (if v = 1 ∨ v = 2 then 1 else 0) (if v = 0 then 999 else if v = 3 then 99 else 9) τ' ∧ (∀ q : Int, q ≠ 0 → τ' q = τ q) ∧ (∀ j : Int, j ≠ 16 → j ≠ 21 → τ' 0 j = τ 0 j) ∧ τ' 0 16 = τ 0 18 ∧ τ' 0 21 = zor (τ 0 21) (zshl 1 v) := by
  have zv : zm v = v := zm_eq (by omega) (by omega)
  obtain ⟨τ1, e1, a1, b1, c1⟩ := su_ex τ 0 21 (zor (τ 0 21) (zshl 1 v))
  obtain ⟨τ2, e2, a2, b2, c2⟩ := su_ex τ1 0 16 (τ1 0 18)
  refine ⟨τ2, ?_, fun q hq => by rw [a2 q hq, a1 q hq], fun j h1 h2 => by rw [c2 j h1, c1 j h2], by rw [b2, c1 18 (by decide)], by rw [c2 21 (by decide), b1]⟩
  unfold p_X8_takeHouse_52 p_X8_takeHouse_110 p_X8_takeHouse_115
  rw [zv, if_neg (by omega), if_pos (show zm 0 = 0 by decide), nx_eq, e1, nx_eq, e2]
  by_cases v1 : v = 1
  · rw [if_pos v1, if_neg (show ¬ v = 0 by omega), if_neg (show ¬ v = 3 by omega), if_pos (Or.inl v1), if_neg (show ¬ v = 0 by omega), if_neg (show ¬ v = 3 by omega)]
  · rw [if_neg v1]
    by_cases v2 : v = 2
    · rw [if_pos v2, if_neg (show ¬ v = 0 by omega), if_neg (show ¬ v = 3 by omega), if_pos (Or.inr v2), if_neg (show ¬ v = 0 by omega), if_neg (show ¬ v = 3 by omega)]
    · rw [if_neg v2, if_neg (show ¬ (v = 1 ∨ v = 2) by omega)]
      by_cases v0 : v = 0
      · rw [if_pos v0, if_pos v0]
      · rw [if_neg v0, if_neg v0]
        by_cases v3 : v = 3
        · rw [if_pos v3, if_pos v3]
        · rw [if_neg v3, if_neg v3]
/-- a step told, not yet told -/
theorem step_body {σ τ : St} {T : Int → Int} {L p q sn k : Int} {w : Nat} (hw : w < 11) (hk : 0 ≤ k ∧ k ≤ 3) (tx : TXx σ T L) (tm : TXm τ T L) (to : TO σ T L p) (nf : σ 1 2 = 0) (hx : HX σ τ sn) (rn : RN lt_ T L p q) (mw : MW T p (q - p) w) (h18 : τ 0 18 = q) (hst : p_X0_stepTold 1 σ = some (k, σ)) (hb : ¬ hasb sn k) : ∃ (σ' : St) (c : Int) (τ' : St), p_X0_readStep 7 1 sn σ = some (zor sn (zshl 1 k), σ') ∧ p_X8_takeHouse_52 (k + 1) 0 τ = some (c, τ') ∧ xH σ σ' ∧ pH τ τ' ∧ OC σ σ' τ τ' T L p c (zor sn (zshl 1 k)) := by
  obtain ⟨σ1, p1, x1, r1, sk1, to1, pp1⟩ := word_step hw tx to rn mw
  obtain ⟨τ1, m1, a1, b1, c1, d1⟩ := M_52 (τ := τ) (v := k + 1) (by omega)
  have f1 : pH τ τ1 := ⟨fun i hi => a1 i (by omega), fun i h1 _ _ j _ => by rw [a1 i (by omega)], fun j _ => by rw [a1 2 (by decide)], fun i hi => b1 i (by omega) (by omega)⟩
  have elo : (if k + 1 = 1 ∨ k + 1 = 2 then (1 : Int) else 0) = loK k := by
    unfold loK
    by_cases y : k = 0 ∨ k = 1
    · rw [if_pos y, if_pos (by omega)]
    · rw [if_neg y, if_neg (by omega)]
  have ehi : (if k + 1 = 0 then (999 : Int) else if k + 1 = 3 then 99 else 9) = hiK k := by
    unfold hiK
    rw [if_neg (by omega)]
    by_cases y : k = 2
    · rw [if_pos y, if_pos (by omega)]
    · rw [if_neg y, if_neg (by omega)]
  rw [elo, ehi] at m1
  have bl : 0 ≤ loK k ∧ loK k ≤ 1 := by unfold loK; split <;> omega
  have bh : 9 ≤ hiK k ∧ hiK k ≤ 99 := by unfold hiK; split <;> omega
  have o2 := to.2.1
  have rn1 := rn.1
  have ps1 : PS σ1 τ1 T L p1 := ⟨r1.tx tx, f1.tx tm, to1, by rw [c1, h18]; omega, by rw [c1, h18]; exact sk1⟩
  have nf1 : σ1 1 2 = 0 := by rw [r1.2 2 (by omega)]; exact nf
  obtain ⟨V, σ2, c2, τ2, x2, m2, g2, alt⟩ := num_lock (lo := loK k) (hi := hiK k) ps1 nf1 (by omega) (by omega)
  have xx : p_X0_readStep 7 1 sn σ = Option.bind (p_X4_closeClause 1 σ2) fun x77 => Option.bind (p_X0_setStep 7 k V x77.2) fun x84 => some (zor sn (zshl 1 k), x84.2) := by
    rw [X_readStep hk hst hb, x1]
    simp only [bnd_some]
    unfold p_X0_readStep_71
    rw [x2]
    simp only [bnd_some]
  have mm : p_X8_takeHouse_52 (k + 1) 0 τ = if zm c2 ≤ 0 then p_X8_takeHouse_254 (k + 1) τ2 else some (c2, τ2) := by
    rw [m1]
    unfold p_X8_takeHouse_137
    rw [m2]
    simp only [bnd_some]
    rw [zm_eq (a := k + 1) (by omega) (by omega), if_neg (show ¬ k + 1 = 0 by omega)]
  rcases alt with ⟨rfl, vb, v19, _, v15, p2, pp2, r2, ps2⟩ | ⟨hc, rfl, F2, v15⟩
  · rw [if_pos (show zm 0 ≤ 0 by decide)] at mm
    obtain ⟨τ3, e3, f3, z0, z3, w5, w4, w6, w7⟩ := M_254 (τ := τ2) (v := k + 1) (by omega)
    have nf2 : σ2 1 2 = 0 := by rw [r2.2 2 (by omega)]; exact nf1
    have ps3 : PS σ2 τ3 T L p2 := ⟨ps2.1, f3.tx ps2.2.1, ps2.2.2.1, by rw [z0]; exact ps2.2.2.2.1, by rw [z0]; exact ps2.2.2.2.2⟩
    obtain ⟨σ4, c4, τ4, x4, m4, g4, alt4⟩ := stop_lock ps3 nf2
    obtain ⟨σ5, x5, f5, s1, s8, s7, s7'⟩ := X_setStep (σ := σ4) (v := V) hk
    have xx2 : p_X0_readStep 7 1 sn σ = some (zor sn (zshl 1 k), σ5) := by
      rw [xx, x4]
      simp only [bnd_some]
      rw [x5]
      simp only [bnd_some]
    have mm2 : p_X8_takeHouse_52 (k + 1) 0 τ = some (c4, τ4) := by
      rw [mm, e3, m4]
      simp only [bnd_some]
    have fm : pH τ τ4 := (f1.tr g2.h).tr (f3.tr g4.h)
    refine ⟨σ5, c4, τ4, xx2, mm2, ?_, fm, ?_⟩
    · rcases alt4 with ⟨_, _, p4, _, r4, _⟩ | ⟨_, F4, _⟩
      · exact ((r1.h.tr r2.h).tr r4.h).tr f5
      · exact ((r1.h.tr r2.h).tr F4.h).tr f5
    · rcases alt4 with ⟨rfl, w15, p4, pp4, r4, ps4⟩ | ⟨rfl, F4, w15⟩
      · have q7 : ∀ j, σ4 7 j = σ 7 j := fun j => by rw [r4.1 7 (by decide), r2.1 7 (by decide), r1.1 7 (by decide)]
        have q8 : σ5 8 = σ 8 := by rw [s8, r4.1 8 (by decide), r2.1 8 (by decide), r1.1 8 (by decide)]
        have u : ∀ q : Int, 1 ≤ q → q ≤ 3 → τ4 q = τ q := fun q h1 h3 => by rw [g4.1 q (by omega), z3 q h1 h3, g2.1 q (by omega), a1 q (by omega)]
        have u4 : ∀ q : Int, q ≠ 0 → τ2 q = τ q := fun q hq => by rw [g2.1 q hq, a1 q hq]
        have t21 : τ4 0 21 = zor (τ 0 21) (zshl 1 (k + 1)) := by rw [g4.2 21 (by omega), z0, g2.2 21 (by omega), d1]
        obtain ⟨y1, y2, y3, y4, y5, y6, y7, y8⟩ := hx
        refine Or.inl ⟨rfl, by rw [s1, r4.2 2 (by omega)]; exact nf2, by rw [s1, r4.2 3 (by omega), r2.2 3 (by omega), r1.2 3 (by omega)], by rw [w15, z0, v15, b1 15 (by decide) (by decide)], ⟨?_, ?_, ?_, ?_, ?_, ?_, ?_, ?_⟩, p4, by omega, f5.tx ps4.1, ps4.2.1, ps4.2.2.1.c s1, ps4.2.2.2⟩
        · rw [s7' 1 (by omega), q7, u 1 (by decide) (by decide)]; exact y1
        · rw [s7' 2 (by omega), q7, u 3 (by decide) (by decide)]; exact y2
        · rw [g4.1 5 (by decide), w5]
          by_cases z : k = 0
          · rw [if_pos (by omega), v19, show (3 : Int) = 3 + k by omega, s7]
            subst z
            exact ⟨rfl, vb⟩
          · rw [if_neg (by omega), s7' 3 (by omega), q7, u4 5 (by decide)]; exact y3
        · rw [g4.1 4 (by decide), w4]
          by_cases z : k = 1
          · rw [if_pos (by omega), v19, show (4 : Int) = 3 + k by omega, s7]
            subst z
            exact ⟨rfl, vb⟩
          · rw [if_neg (by omega), s7' 4 (by omega), q7, u4 4 (by decide)]; exact y4
        · rw [g4.1 6 (by decide), w6]
          by_cases z : k = 2
          · rw [if_pos (by omega), v19, show (5 : Int) = 3 + k by omega, s7]
            subst z
            exact ⟨rfl, vb⟩
          · rw [if_neg (by omega), s7' 5 (by omega), q7, u4 6 (by decide)]; exact y5
        · rw [g4.1 7 (by decide), w7]
          by_cases z : k = 3
          · rw [if_pos (by omega), v19, show (6 : Int) = 3 + k by omega, s7]
            subst z
            exact ⟨rfl, vb⟩
          · rw [if_neg (by omega), s7' 6 (by omega), q7, u4 7 (by decide)]; exact y6
        · rw [u 1 (by decide) (by decide), u 2 (by decide) (by decide), q8]; exact y7
        · intro j j0 j3
          rw [t21, hasb_or (by omega) (by omega), hasb_or (by omega) (by omega), y8 j j0 j3]
          constructor
          · rintro (z | z)
            · exact Or.inl z
            · exact Or.inr (by omega)
          · rintro (z | z)
            · exact Or.inl z
            · exact Or.inr (by omega)
      · exact Or.inr ⟨by decide, by rw [s1]; exact F4.2.2.1, by rw [s1, w15]; exact F4.2.2.2⟩
  · have zc : zm c2 = c2 := zm_eq (by omega) (by omega)
    rw [zc, if_neg (by omega)] at mm
    have ft : FT σ2 := by unfold FT; rw [F2.2.2.1]; omega
    obtain ⟨σ5, x5, f5, s1, _⟩ := X_setStep (σ := σ2) (v := loK k) hk
    refine ⟨σ5, c2, τ2, ?_, mm, (r1.h.tr F2.h).tr f5, f1.tr g2.h, Or.inr ⟨by omega, by rw [s1]; exact F2.2.2.1, by rw [s1, v15]; exact F2.2.2.2⟩⟩
    rw [xx, X_closeF ft]
    simp only [bnd_some]
    rw [x5]
    simp only [bnd_some]
