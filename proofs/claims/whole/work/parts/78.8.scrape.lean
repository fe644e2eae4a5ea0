/-! clauses of a sort -/
def xS (o : Int) (σ σ' : St) : Prop := (∀ k : Int, k ≠ 1 → (k < o ∨ o + 3 < k) → σ' k = σ k) ∧ σ' 1 1 = σ 1 1
def pS (c : Int) (τ τ' : St) : Prop := (∀ q : Int, q ≠ 0 → (q < 8 ∨ 12 < q) → τ' q = τ q) ∧ (∀ q j : Int, (q = 8 ∨ q = 11 ∨ q = 12) → j ≠ c → τ' q j = τ q j) ∧ (∀ q j : Int, (q = 9 ∨ q = 10) → (j < 8 * c ∨ 8 * c + 7 < j) → τ' q j = τ q j) ∧ ∀ j : Int, (j < 15 ∨ 22 < j) → τ' 0 j = τ 0 j
theorem xS.tr {o : Int} {a b c : St} (h : xS o a b) (g : xS o b c) : xS o a c := ⟨fun k h1 h2 => (g.1 k h1 h2).trans (h.1 k h1 h2), g.2.trans h.2⟩
theorem xS.rf {o : Int} {a : St} : xS o a a := ⟨fun _ _ _ => rfl, rfl⟩
theorem pS.tr {c : Int} {x y z : St} (h : pS c x y) (g : pS c y z) : pS c x z := ⟨fun q h1 h2 => (g.1 q h1 h2).trans (h.1 q h1 h2), fun q j h1 h2 => (g.2.1 q j h1 h2).trans (h.2.1 q j h1 h2), fun q j h1 h2 => (g.2.2.1 q j h1 h2).trans (h.2.2.1 q j h1 h2), fun j hj => (g.2.2.2 j hj).trans (h.2.2.2 j hj)⟩
theorem rF.s {o : Int} {σ σ' : St} (f : rF σ σ') : xS o σ σ' := ⟨fun k h _ => f.1 k h, f.2 1 (by omega)⟩
theorem FA.s {o : Int} {σ σ' : St} {c pos : Int} (f : FA σ σ' c pos) : xS o σ σ' := ⟨fun k h _ => f.1 k h, f.2.1 1 (by decide) (by decide)⟩
theorem mF.s {c : Int} {τ τ' : St} (f : mF τ τ') : pS c τ τ' := ⟨fun q hq _ => f.1 q hq, fun q j h _ => by rw [f.1 q (by omega)], fun q j h _ => by rw [f.1 q (by omega)], fun j hj => f.2 j (by omega)⟩
theorem xSs {o : Int} {σ σ' : St} {k j v : Int} (ho : 27 ≤ o) (hk : o ≤ k ∧ k ≤ o + 3) (e : su σ k j v = σ') : xS o σ σ' := by
  obtain ⟨σ1, e1, a1, b1, c1⟩ := su_ex σ k j v
  have q : σ' = σ1 := e.symm.trans e1
  subst q
  exact ⟨fun i _ h2 => a1 i (by omega), by rw [a1 1 (by omega)]⟩
theorem pSs {c : Int} {τ τ' : St} {q v : Int} (hq : q = 8 ∨ q = 11 ∨ q = 12) (e : su τ q c v = τ') : pS c τ τ' := by
  obtain ⟨σ1, e1, a1, b1, c1⟩ := su_ex τ q c v
  have z : τ' = σ1 := e.symm.trans e1
  subst z
  refine ⟨fun i _ hi => a1 i (by omega), fun i j hi hj => ?_, fun i j hi _ => by rw [a1 i (by omega)], fun j _ => by rw [a1 0 (by omega)]⟩
  by_cases y : i = q
  · rw [y]; exact c1 j hj
  · rw [a1 i y]
theorem pS9 {c : Int} {τ τ' : St} {q j v : Int} (hq : q = 9 ∨ q = 10) (hj : 8 * c ≤ j ∧ j ≤ 8 * c + 7) (e : su τ q j v = τ') : pS c τ τ' := by
  obtain ⟨σ1, e1, a1, b1, c1⟩ := su_ex τ q j v
  have z : τ' = σ1 := e.symm.trans e1
  subst z
  refine ⟨fun i _ hi => a1 i (by omega), fun i j hi _ => by rw [a1 i (by omega)], fun i j' hi hj' => ?_, fun j _ => by rw [a1 0 (by omega)]⟩
  by_cases y : i = q
  · rw [y]; exact c1 j' (by omega)
  · rw [a1 i y]
theorem pS0 {c : Int} {τ τ' : St} {j v : Int} (hj : 15 ≤ j ∧ j ≤ 22) (e : su τ 0 j v = τ') : pS c τ τ' := by
  obtain ⟨σ1, e1, a1, b1, c1⟩ := su_ex τ 0 j v
  have z : τ' = σ1 := e.symm.trans e1
  subst z
  exact ⟨fun i h _ => a1 i h, fun i j hi _ => by rw [a1 i (by omega)], fun i j hi _ => by rw [a1 i (by omega)], fun i hi => c1 i (by omega)⟩
theorem pS.tx {c : Int} {τ τ' : St} {T : Int → Int} {L : Int} (h : pS c τ τ') (t : TXm τ T L) : TXm τ' T L := by
  unfold TXm
  rw [h.2.2.2 14 (by omega), h.1 13 (by decide) (by decide)]
  exact t
theorem xS.tx {o : Int} {σ σ' : St} {T : Int → Int} {L : Int} (h : xS o σ σ') (ho : 27 ≤ o) (t : TXx σ T L) : TXx σ' T L := by
  unfold TXx
  rw [h.2, h.1 2 (by decide) (by omega)]
  exact t
/-- the sort so far -/
def HS (σ τ : St) (o c : Int) : Prop := (σ o 3 = τ 8 c ∧ 0 ≤ τ 8 c ∧ τ 8 c ≤ 8) ∧ (σ o 4 = τ 0 22 ∧ τ 0 22 = sm (fun i => τ 10 (8 * c + i)) (τ 8 c).toNat ∧ 0 ≤ τ 0 22 ∧ τ 0 22 ≤ 1000) ∧ (∀ i : Int, 0 ≤ i → i < τ 8 c → (σ (o + 1) i = τ 9 (8 * c + i) ∧ 1 ≤ τ 9 (8 * c + i) ∧ τ 9 (8 * c + i) ≤ 999) ∧ σ (o + 2) i = τ 10 (8 * c + i) ∧ 1 ≤ τ 10 (8 * c + i) ∧ τ 10 (8 * c + i) ≤ 999) ∧ (∀ i : Int, 0 ≤ i → i + 1 < τ 8 c → τ 9 (8 * c + i) < τ 9 (8 * c + (i + 1))) ∧ ((τ 11 c = -1 ∧ τ 12 c = -1 ∧ σ o 5 = 0 ∧ σ o 7 = 0) ∨ ((0 ≤ τ 11 c ∧ τ 11 c ≤ 999) ∧ (0 ≤ τ 12 c ∧ τ 12 c ≤ 100) ∧ σ o 5 = 1 ∧ σ o 6 = τ 11 c ∧ σ o 7 = τ 12 c))
def OS (σ σ' τ τ' : St) (T : Int → Int) (L p k o c : Int) : Prop := (k = 0 ∧ σ' 1 2 = 0 ∧ σ' 1 3 = σ 1 3 ∧ τ' 0 15 = τ 0 15 ∧ HS σ' τ' o c ∧ ∃ p', p < p' ∧ PS σ' τ' T L p') ∨ ((1 ≤ k ∧ k ≤ 5) ∧ σ' 1 2 = k ∧ σ' 1 3 = τ' 0 15 ∧ 0 ≤ σ' o 3 ∧ σ' o 3 ≤ 8)
theorem HS.m {σ τ τ' : St} {o c : Int} (f : mF τ τ') (h : HS σ τ o c) : HS σ τ' o c := by
  unfold HS
  rw [f.1 8 (by decide), f.1 9 (by decide), f.1 10 (by decide), f.1 11 (by decide), f.1 12 (by decide), f.2 22 (by omega)]
  exact h
theorem OS.m {σ σ' τ τ1 τ' : St} {T : Int → Int} {L p k o c : Int} (h : OS σ σ' τ1 τ' T L p k o c) (e : τ1 0 15 = τ 0 15) : OS σ σ' τ τ' T L p k o c := by
  rcases h with ⟨w1, w2, w3, w4, w5⟩ | w
  · exact Or.inl ⟨w1, w2, w3, w4.trans e, w5⟩
  · exact Or.inr w
/-- the program, from the second number of a scrape on -/
def scX (o : Int) (σ62 : St) : Option (Int × St) := Option.bind (p_X4_number 1 1 999 σ62) fun x81 => gd (0 ≤ zm (σ62 o 3) ∧ zm (σ62 o 3) < 8) (nx (su x81.2 (o + 2) (zm (σ62 o 3)) x81.1) fun σ84 => gd (0 ≤ zm (σ84 o 3) ∧ zm (σ84 o 3) < 8) (nx (su σ84 o 4 ((σ84 o 4) + (σ84 (o + 2) (zm (σ84 o 3))))) fun σ100 => if zm (σ100 o 4) ≤ 1000 then (p_X6_readScrape_119 o 1 σ100) else (Option.bind (p_X4_fail 1 4 (σ62 1 5) σ100) fun x116 => p_X6_readScrape_119 o 1 x116.2)))
theorem X_scr56 {σ : St} {o m lo V : Int} {σ2 : St} (hm : 0 ≤ m ∧ m < 8) (e : p_X4_number 1 lo 999 σ = some (V, σ2)) : p_X6_readScrape_56 o 1 (o + 1) m 1 lo σ = scX o (su σ2 (o + 1) m V) := by
  unfold p_X6_readScrape_56 scX
  rw [e]
  simp only [bnd_some]
  rw [zm_eq (a := m) (by omega) (by omega), gd_pos (by omega), nx_eq]
/-- the same, once the second number is read -/
theorem X_scX {σ : St} {o m S V : Int} {σ2 : St} (ho : 27 ≤ o) (hm : 0 ≤ m ∧ m < 8) (h3 : σ o 3 = m) (h3' : σ2 o 3 = m) (h4 : σ2 o 4 = S) (hS : 0 ≤ S ∧ S ≤ 1000) (hV : 0 ≤ V ∧ V ≤ 1000) (e : p_X4_number 1 1 999 σ = some (V, σ2)) : ∃ σ3, scX o σ = (if S + V ≤ 1000 then p_X6_readScrape_119 o 1 σ3 else (Option.bind (p_X4_fail 1 4 (σ 1 5) σ3) fun x116 => p_X6_readScrape_119 o 1 x116.2)) ∧ xS o σ2 σ3 ∧ σ3 1 = σ2 1 ∧ (∀ j : Int, j ≠ 4 → σ3 o j = σ2 o j) ∧ σ3 o 4 = S + V ∧ σ3 (o + 1) = σ2 (o + 1) ∧ σ3 (o + 2) m = V ∧ (∀ j : Int, j ≠ m → σ3 (o + 2) j = σ2 (o + 2) j) := by
  obtain ⟨s1, e1, a1, b1, c1⟩ := su_ex σ2 (o + 2) m V
  obtain ⟨s2, e2, a2, b2, c2⟩ := su_ex s1 o 4 (S + V)
  refine ⟨s2, ?_, (xSs ho (by omega) e1).tr (xSs ho (by omega) e2), by rw [a2 1 (by omega), a1 1 (by omega)], fun j hj => by rw [c2 j hj, a1 o (by omega)], b2, by rw [a2 _ (by omega), a1 _ (by omega)], by rw [a2 _ (by omega), b1], fun j hj => by rw [a2 _ (by omega), c1 j hj]⟩
  have zm3 : zm (σ o 3) = m := by rw [h3]; exact zm_eq (by omega) (by omega)
  have s13 : zm (s1 o 3) = m := by rw [a1 o (by omega), h3']; exact zm_eq (by omega) (by omega)
  unfold scX
  rw [e]
  simp only [bnd_some]
  rw [gd_pos (by rw [zm3]; omega), zm3, nx_eq, e1, gd_pos (by rw [s13]; omega), s13, b1, a1 o (by omega), h4, nx_eq, e2, b2, zm_eq (a := S + V) (by omega) (by omega)]
/-- after a fault -/
theorem X_scXF {σ : St} {T : Int → Int} {L p o m S : Int} (ho : 27 ≤ o) (hm : 0 ≤ m ∧ m < 8) (tx : TXx σ T L) (to : TO σ T L p) (ft : FT σ) (h3 : σ o 3 = m) (h4 : σ o 4 = S) (hS : 0 ≤ S ∧ S ≤ 1000) : ∃ σ', scX o σ = some (0, σ') ∧ xS o σ σ' ∧ σ' 1 = σ 1 ∧ 0 ≤ σ' o 3 ∧ σ' o 3 ≤ 8 := by
  obtain ⟨s1, e1, f1, q1, c1, d1, _⟩ := X_scX (V := 1) ho hm h3 h3 h4 hS (by decide) (X_numberF (lo := 1) (hi := 999) tx to ft ⟨by decide, by decide⟩ ⟨by decide, by decide⟩)
  obtain ⟨s2, e2, a2, b2, c2⟩ := su_ex s1 o 3 (s1 o 3 + 1)
  have ft1 : FT s1 := by unfold FT; rw [q1]; exact ft
  have e119 : p_X6_readScrape_119 o 1 s1 = some (0, s2) := by
    unfold p_X6_readScrape_119
    rw [X_closeF ft1]
    simp only [bnd_some]
    rw [nx_eq, e2]
  have h31 : s1 o 3 = m := by rw [c1 3 (by decide), h3]
  refine ⟨s2, ?_, f1.tr (xSs ho (by omega) e2), by rw [a2 1 (by omega), q1], by rw [b2]; omega, by rw [b2]; omega⟩
  rw [e1, X_failF ft1]
  simp only [bnd_some]
  rw [e119]
  by_cases z : S + 1 ≤ 1000
  · rw [if_pos z]
  · rw [if_neg z]
theorem M_136 {τ : St} {c : Int} (hc : 0 ≤ c ∧ c < 4) (h7 : τ 0 7 = c) (k : Int) : ∃ τ', p_X8_takeScrape_136 k τ = some (k, τ') ∧ pS c τ τ' ∧ (∀ q : Int, q ≠ 0 → q ≠ 8 → τ' q = τ q) ∧ (∀ j : Int, j ≠ 22 → τ' 0 j = τ 0 j) ∧ τ' 0 22 = τ 0 22 + τ 0 19 ∧ τ' 8 c = τ 8 c + 1 := by
  obtain ⟨t1, e1, a1, b1, c1⟩ := su_ex τ 0 22 (τ 0 22 + τ 0 19)
  obtain ⟨t2, e2, a2, b2, c2⟩ := su_ex t1 8 c (t1 8 c + 1)
  have z7 : zm (t1 0 7) = c := by rw [c1 7 (by decide), h7]; exact zm_eq (by omega) (by omega)
  refine ⟨t2, ?_, (pS0 (j := 22) (by decide) e1).tr (pSs (by omega) e2), fun q h0 h8 => by rw [a2 q h8, a1 q h0], fun j hj => by rw [a2 0 (by decide), c1 j hj], by rw [a2 0 (by decide), b1], by rw [b2, a1 8 (by decide)]⟩
  unfold p_X8_takeScrape_136
  rw [nx_eq, e1, gd_pos (by rw [z7]; omega), z7, nx_eq, e2]
theorem M_96F {τ : St} {c m k : Int} (hc : 0 ≤ c ∧ c < 4) (h7 : τ 0 7 = c) (hm : 0 ≤ m ∧ m < 8) (hk : 1 ≤ k ∧ k ≤ 5) : ∃ τ', p_X8_takeScrape_96 (8 * c + m) k τ = some (k, τ') ∧ pS c τ τ' ∧ τ' 0 15 = τ 0 15 := by
  obtain ⟨t1, e1, a1, b1, c1⟩ := su_ex τ 10 (8 * c + m) (τ 0 19)
  obtain ⟨t2, e2, f2, g2, j2, _⟩ := M_136 (τ := t1) (k := k) hc (by rw [a1 0 (by decide)]; exact h7)
  refine ⟨t2, ?_, (pS9 (Or.inr rfl) (by omega) e1).tr f2, by rw [j2 15 (by decide), a1 0 (by decide)]⟩
  unfold p_X8_takeScrape_96
  rw [zm_eq (a := 8 * c + m) (by omega) (by omega), gd_pos (by omega), nx_eq, e1, zm_eq (a := k) (by omega) (by omega), if_neg (by omega), e2]
theorem sm_snoc {f g : Int → Int} {n : Nat} (h : ∀ i : Int, 0 ≤ i → i < n → g i = f i) : sm g (n + 1) = sm f n + g n := by
  show sm g n + g n = sm f n + g n
  rw [sm_congr n h]
/-- a scrape told -/
theorem scrape_body {σ τ : St} {T : Int → Int} {L p q o c : Int} (ho : o = 27 + 4 * c) (hc : 0 ≤ c ∧ c < 4) (h7 : τ 0 7 = c) (tx : TXx σ T L) (tm : TXm τ T L) (to : TO σ T L p) (nf : σ 1 2 = 0) (hs : HS σ τ o c) (rn : RN lt_ T L p q) (mw : MW T p (q - p) 6) (h16 : τ 0 16 = p) (h18 : τ 0 18 = q) : ∃ (σ' : St) (k : Int) (τ' : St), p_X6_readScrape o 1 σ = some (0, σ') ∧ (Option.bind (p_X8_takeScrape τ) fun x82 => p_X8_takeSort_92 x82.1 x82.2) = some (k, τ') ∧ xS o σ σ' ∧ pS c τ τ' ∧ OS σ σ' τ τ' T L p k o c := by
  obtain ⟨y1, y2, y3, y4, y5⟩ := id hs
  have o1 := to.1
  have zc : zm c = c := zm_eq (by omega) (by omega)
  obtain ⟨m, hm⟩ : ∃ m, τ 8 c = m := ⟨_, rfl⟩
  have m92 : ∀ (k : Int) (τz : St), 1 ≤ k → k ≤ 5 → p_X8_takeSort_92 k τz = some (k, τz) := fun k τz k1 k5 => by
    unfold p_X8_takeSort_92
    rw [zm_eq (a := k) (by omega) (by omega), if_neg (by omega)]
  by_cases m8 : m = 8
  · obtain ⟨τ6, m6, g6, v6⟩ := M_fails τ 3 (τ 0 16)
    obtain ⟨σ6, x6, F6⟩ := X_fail nf 3 p
    refine ⟨σ6, 3, τ6, ?_, ?_, F6.s, g6.s, Or.inr ⟨by decide, F6.2.2.1, by rw [v6, h16]; exact F6.2.2.2, by rw [F6.1 o (by omega)]; omega, by rw [F6.1 o (by omega)]; omega⟩⟩
    · unfold p_X6_readScrape
      rw [y1.1, hm, m8, if_neg (by decide), o1, x6]
      simp only [bnd_some]
    · unfold p_X8_takeScrape
      rw [h7, zc, gd_pos (by omega), hm, m8, if_pos (by decide), m6]
      simp only [bnd_some]
      exact m92 3 τ6 (by decide) (by decide)
  · obtain ⟨σ1, p1, x1, r1, sk1, to1, pp1⟩ := word_step (by decide) tx to rn mw
    obtain ⟨τ1, e1, a1, b1, c1⟩ := su_ex τ 0 16 (τ 0 18)
    have f1 : pS c τ τ1 := pS0 (j := 16) (by decide) e1
    have o2 := to.2.1
    have rn1 := rn.1
    have ps1 : PS σ1 τ1 T L p1 := ⟨r1.tx tx, f1.tx tm, to1, by rw [b1, h18]; omega, by rw [b1, h18]; exact sk1⟩
    have nf1 : σ1 1 2 = 0 := by rw [r1.2 2 (by omega)]; exact nf
    have s1o : ∀ k : Int, k ≠ 1 → σ1 k = σ k := r1.1
    obtain ⟨lo, hlo⟩ : ∃ lo, lo = (if m = 0 then 1 else τ 9 (8 * c + (m - 1)) + 1) := ⟨_, rfl⟩
    have blo : 1 ≤ lo ∧ lo ≤ 1000 := by
      rw [hlo]
      by_cases z : m = 0
      · rw [if_pos z]; decide
      · rw [if_neg z]
        have := (y3 (m - 1) (by omega) (by omega)).1
        omega
    obtain ⟨V1, σ2, k1, τ2, x2, n2, g2, alt⟩ := num_lock (lo := lo) (hi := 999) ps1 nf1 (by omega) (by decide)
    have xx : p_X6_readScrape o 1 σ = scX o (su σ2 (o + 1) m V1) := by
      unfold p_X6_readScrape
      rw [y1.1, hm, zm_eq (a := m) (by omega) (by omega), if_pos (by omega), x1]
      simp only [bnd_some]
      have s3 : σ1 o 3 = m := by rw [s1o o (by omega), y1.1, hm]
      have z3 : zm (σ1 o 3) = m := by rw [s3]; exact zm_eq (by omega) (by omega)
      have z31 : zm (σ1 o 3 - 1) = m - 1 := by rw [s3]; exact zm_eq (by omega) (by omega)
      by_cases z : m = 0
      · rw [if_pos (by rw [z3]; omega), s3, show (1 : Int) = lo by rw [hlo, if_pos z]]
        rw [show lo = 1 by rw [hlo, if_pos z]] at x2 ⊢
        exact X_scr56 (by omega) x2
      · rw [if_neg (by rw [z3]; omega), gd_pos (by rw [z31]; omega), z31, s3, s1o _ (by omega), (y3 (m - 1) (by omega) (by omega)).1.1, show τ 9 (8 * c + (m - 1)) + 1 = lo by rw [hlo, if_neg z]]
        exact X_scr56 (by omega) x2
    have mm : p_X8_takeScrape τ = p_X8_takeScrape_63 (8 * c + m) lo τ1 := by
      unfold p_X8_takeScrape
      rw [h7, zc, gd_pos (by omega), hm, zm_eq (a := m) (by omega) (by omega), if_neg m8, nx_eq, e1, c1 7 (by decide), h7]
      by_cases z : m = 0
      · rw [if_pos z, hlo, if_pos z]
      · rw [if_neg z, zm_eq (a := 8 * c + m - 1) (by omega) (by omega), gd_pos (by omega), a1 9 (by decide), hlo, if_neg z, show 8 * c + m - 1 = 8 * c + (m - 1) by omega]
    obtain ⟨σ3, e3, a3, b3, c3⟩ := su_ex σ2 (o + 1) m V1
    rw [e3] at xx
    have fx3 : xS o σ2 σ3 := xSs (by omega) (by omega) e3
    have s31 : σ3 1 = σ2 1 := a3 1 (by omega)
    rcases alt with ⟨rfl, vb, v19, _, v15, p2, pp2, r2, ps2⟩ | ⟨hk, rfl, F2, v15⟩
    · obtain ⟨τ3, e3m, a3m, b3m, c3m⟩ := su_ex τ2 9 (8 * c + m) V1
      have f3 : pS c τ2 τ3 := pS9 (Or.inl rfl) (by omega) e3m
      have z0 : τ3 0 = τ2 0 := a3m 0 (by decide)
      have mm2 : p_X8_takeScrape τ = Option.bind (p_X8_takeNumber 1 999 τ3) fun x93 => p_X8_takeScrape_96 (8 * c + m) x93.1 x93.2 := by
        rw [mm]
        unfold p_X8_takeScrape_63
        rw [n2]
        simp only [bnd_some]
        rw [zm_eq (a := 8 * c + m) (by omega) (by omega), gd_pos (by omega), v19, nx_eq, e3m, if_pos (by decide)]
      obtain ⟨tx2, tm2, to2, h02, sk2⟩ := ps2
      have to3 : TO σ3 T L p2 := to2.c s31
      have tx3 : TXx σ3 T L := fx3.tx (by omega) tx2
      have ps3 : PS σ3 τ3 T L p2 := ⟨tx3, f3.tx tm2, to3, by rw [z0]; exact h02, by rw [z0]; exact sk2⟩
      have nf3 : σ3 1 2 = 0 := by rw [s31, r2.2 2 (by omega)]; exact nf1
      obtain ⟨V2, σ4, k2, τ4, x4, n4, g4, alt2⟩ := num_lock (lo := 1) (hi := 999) ps3 nf3 (by decide) (by decide)
      have so : ∀ j, σ3 o j = σ o j := fun j => by rw [a3 o (by omega), r2.1 o (by omega), s1o o (by omega)]
      have t7 : τ4 0 7 = c := by rw [g4.2 7 (by omega), z0, g2.2 7 (by omega), c1 7 (by decide), h7]
      have t22 : τ4 0 22 = τ 0 22 := by rw [g4.2 22 (by omega), z0, g2.2 22 (by omega), c1 22 (by decide)]
      have t8 : τ4 8 = τ 8 := by rw [g4.1 8 (by decide), a3m 8 (by decide), g2.1 8 (by decide), a1 8 (by decide)]
      have F3 : pS c τ τ3 := (f1.tr g2.s).tr f3
      have FX3 : xS o σ σ3 := (r1.s.tr r2.s).tr fx3
      rcases alt2 with ⟨rfl, vb2, w19, w20, w15, p3, pp3, r4, ps4⟩ | ⟨hk2, rfl, F4, w15⟩
      · obtain ⟨σ5, x5, fx5, q5, c5, d5, i5, j5, k5⟩ := X_scX (o := o) (m := m) (S := τ 0 22) (V := V2) (by omega) (by omega) (by rw [so, y1.1, hm]) (by rw [r4.1 o (by omega), so, y1.1, hm]) (by rw [r4.1 o (by omega), so, y2.1]) y2.2.2 (by omega) x4
        obtain ⟨τ5, e5, a5, b5, c5m⟩ := su_ex τ4 10 (8 * c + m) V2
        have f5 : pS c τ4 τ5 := pS9 (Or.inr rfl) (by omega) e5
        have z05 : τ5 0 = τ4 0 := a5 0 (by decide)
        have mm3 : p_X8_takeScrape τ = if τ 0 22 + V2 ≤ 1000 then p_X8_takeScrape_136 0 τ5 else (Option.bind (p_X8_fails 4 (τ5 0 20) τ5) fun x132 => p_X8_takeScrape_136 x132.1 x132.2) := by
          rw [mm2, n4]
          simp only [bnd_some]
          unfold p_X8_takeScrape_96
          rw [zm_eq (a := 8 * c + m) (by omega) (by omega), gd_pos (by omega), w19, nx_eq, e5, if_pos (by decide), z05, t22, w19, zm_eq (a := τ 0 22 + V2) (by omega) (by omega)]
        by_cases zs : τ 0 22 + V2 ≤ 1000
        · rw [if_pos zs] at x5 mm3
          obtain ⟨τ6, m6, f6, q6, j6, v6, w6⟩ := M_136 (τ := τ5) hc (by rw [z05]; exact t7) 0
          rw [m6] at mm3
          have ps6 : PS σ5 τ6 T L p3 := ⟨fx5.tx (by omega) ps4.1, f6.tx (f5.tx ps4.2.1), ps4.2.2.1.c q5, by rw [j6 16 (by decide), z05]; exact ps4.2.2.2.1, by rw [j6 16 (by decide), z05]; exact ps4.2.2.2.2⟩
          have nf5 : σ5 1 2 = 0 := by rw [q5, r4.2 2 (by omega)]; exact nf3
          obtain ⟨σ7, k7, τ7, x7, m7, g7, alt7⟩ := stop_lock ps6 nf5
          obtain ⟨σ8, e8, a8, b8, c8⟩ := su_ex σ7 o 3 (σ7 o 3 + 1)
          have fx8 : xS o σ7 σ8 := xSs (by omega) (by omega) e8
          have s81 : σ8 1 = σ7 1 := a8 1 (by omega)
          have xx2 : p_X6_readScrape o 1 σ = some (0, σ8) := by
            rw [xx, x5]
            unfold p_X6_readScrape_119
            rw [x7]
            simp only [bnd_some]
            rw [nx_eq, e8]
          have mm4 : (Option.bind (p_X8_takeScrape τ) fun x82 => p_X8_takeSort_92 x82.1 x82.2) = some (k7, τ7) := by
            rw [mm3]
            simp only [bnd_some]
            unfold p_X8_takeSort_92
            rw [if_pos (by decide), m7]
            simp only [bnd_some]
          have FM : pS c τ τ7 := ((F3.tr g4.s).tr (f5.tr f6)).tr g7.s
          have s7o : ∀ j, σ7 o j = σ5 o j := fun j => by
            rcases alt7 with ⟨_, _, p7, _, r7, _⟩ | ⟨_, F7, _⟩
            · rw [r7.1 o (by omega)]
            · rw [F7.1 o (by omega)]
          have m73 : σ8 o 3 = m + 1 := by rw [b8, s7o, c5 3 (by decide), r4.1 o (by omega), so, y1.1, hm]
          refine ⟨σ8, k7, τ7, xx2, mm4, ?_, FM, ?_⟩
          · rcases alt7 with ⟨_, _, p7, _, r7, _⟩ | ⟨_, F7, _⟩
            · exact ((FX3.tr r4.s).tr fx5).tr (r7.s.tr fx8)
            · exact ((FX3.tr r4.s).tr fx5).tr (F7.s.tr fx8)
          · rcases alt7 with ⟨rfl, w15', p7, pp7, r7, ps7⟩ | ⟨rfl, F7, w15'⟩
            · have t7q : ∀ q : Int, q ≠ 0 → τ7 q = τ6 q := fun q hq => g7.1 q hq
              have r8 : τ7 8 c = m + 1 := by rw [t7q 8 (by decide), w6, a5 8 (by decide), t8, hm]
              have r22 : τ7 0 22 = τ 0 22 + V2 := by rw [g7.2 22 (by omega), v6, z05, t22, w19]
              have r9 : τ7 9 = τ3 9 := by rw [t7q 9 (by decide), q6 9 (by decide) (by decide), a5 9 (by decide), g4.1 9 (by decide)]
              have r10 : τ7 10 = τ5 10 := by rw [t7q 10 (by decide), q6 10 (by decide) (by decide)]
              have r11 : τ7 11 = τ 11 := by rw [t7q 11 (by decide), q6 11 (by decide) (by decide), a5 11 (by decide), g4.1 11 (by decide), a3m 11 (by decide), g2.1 11 (by decide), a1 11 (by decide)]
              have r12 : τ7 12 = τ 12 := by rw [t7q 12 (by decide), q6 12 (by decide) (by decide), a5 12 (by decide), g4.1 12 (by decide), a3m 12 (by decide), g2.1 12 (by decide), a1 12 (by decide)]
              have n9 : ∀ i : Int, i ≠ m → τ7 9 (8 * c + i) = τ 9 (8 * c + i) := fun i hi => by rw [r9, c3m _ (by omega), g2.1 9 (by decide), a1 9 (by decide)]
              have n9m : τ7 9 (8 * c + m) = V1 := by rw [r9, b3m]
              have n10 : ∀ i : Int, i ≠ m → τ7 10 (8 * c + i) = τ 10 (8 * c + i) := fun i hi => by rw [r10, c5m _ (by omega), g4.1 10 (by decide), a3m 10 (by decide), g2.1 10 (by decide), a1 10 (by decide)]
              have n10m : τ7 10 (8 * c + m) = V2 := by rw [r10, b5]
              have u1 : ∀ i : Int, i ≠ m → σ8 (o + 1) i = σ (o + 1) i := fun i hi => by rw [a8 _ (by omega), r7.1 _ (by omega), i5, r4.1 _ (by omega), c3 i hi, r2.1 _ (by omega), s1o _ (by omega)]
              have u1m : σ8 (o + 1) m = V1 := by rw [a8 _ (by omega), r7.1 _ (by omega), i5, r4.1 _ (by omega), b3]
              have u2 : ∀ i : Int, i ≠ m → σ8 (o + 2) i = σ (o + 2) i := fun i hi => by rw [a8 _ (by omega), r7.1 _ (by omega), k5 i hi, r4.1 _ (by omega), a3 _ (by omega), r2.1 _ (by omega), s1o _ (by omega)]
              have u2m : σ8 (o + 2) m = V2 := by rw [a8 _ (by omega), r7.1 _ (by omega), j5]
              have uo : ∀ j : Int, j ≠ 3 → j ≠ 4 → σ8 o j = σ o j := fun j h3 h4 => by rw [c8 j h3, s7o, c5 j h4, r4.1 o (by omega), so]
              refine Or.inl ⟨rfl, by rw [s81, r7.2 2 (by omega)]; exact nf5, by rw [s81, r7.2 3 (by omega), q5, r4.2 3 (by omega), s31, r2.2 3 (by omega), r1.2 3 (by omega)], by rw [w15', j6 15 (by decide), z05, w15, z0, v15, c1 15 (by decide)], ⟨?_, ?_, fun i i0 i1 => ?_, fun i i0 i1 => ?_, ?_⟩, p7, by omega, fx8.tx (by omega) ps7.1, ps7.2.1, ps7.2.2.1.c s81, ps7.2.2.2⟩
              · rw [m73, r8]; exact ⟨rfl, by omega, by omega⟩
              · rw [c8 4 (by decide), s7o, d5, r22, r8, show (m + 1).toNat = m.toNat + 1 by omega]
                refine ⟨rfl, ?_, by omega, by omega⟩
                rw [sm_snoc (f := fun i => τ 10 (8 * c + i)) (fun i i0 i1 => n10 i (by omega)), show ((m.toNat : Nat) : Int) = m by omega, n10m, y2.2.1, hm]
              · rw [r8] at i1
                by_cases z : i = m
                · rw [z, u1m, u2m, n9m, n10m]
                  exact ⟨⟨rfl, by omega, vb.2⟩, rfl, vb2⟩
                · rw [u1 i z, u2 i z, n9 i z, n10 i z]
                  exact y3 i i0 (by omega)
              · rw [r8] at i1
                by_cases z : i + 1 = m
                · rw [n9 i (by omega), z, n9m]
                  have : lo = τ 9 (8 * c + (m - 1)) + 1 := by rw [hlo, if_neg (by omega)]
                  rw [show i = m - 1 by omega]
                  omega
                · rw [n9 i (by omega), n9 (i + 1) z]
                  exact y4 i i0 (by omega)
              · rw [r11, r12, uo 5 (by decide) (by decide), uo 6 (by decide) (by decide), uo 7 (by decide) (by decide)]
                exact y5
            · exact Or.inr ⟨by decide, by rw [s81]; exact F7.2.2.1, by rw [s81, w15']; exact F7.2.2.2, by omega, by omega⟩
        · rw [if_neg zs] at x5 mm3
          obtain ⟨τ6, m6, g6, v6⟩ := M_fails τ5 4 (τ5 0 20)
          rw [m6] at mm3
          simp only [bnd_some] at mm3
          obtain ⟨τ7, m7, f7, q7, j7, _⟩ := M_136 (τ := τ6) hc (by rw [g6.2 7 (by omega), z05]; exact t7) 4
          rw [m7] at mm3
          have nf5 : σ5 1 2 = 0 := by rw [q5, r4.2 2 (by omega)]; exact nf3
          obtain ⟨σ6, x6, F6⟩ := X_fail nf5 4 (σ3 1 5)
          obtain ⟨σ8, e8, a8, b8, c8⟩ := su_ex σ6 o 3 (σ6 o 3 + 1)
          have fx8 : xS o σ6 σ8 := xSs (by omega) (by omega) e8
          have s81 : σ8 1 = σ6 1 := a8 1 (by omega)
          have ft6 : FT σ6 := by unfold FT; rw [F6.2.2.1]; decide
          have m83 : σ8 o 3 = m + 1 := by rw [b8, F6.1 o (by omega), c5 3 (by decide), r4.1 o (by omega), so, y1.1, hm]
          refine ⟨σ8, 4, τ7, ?_, ?_, ((FX3.tr r4.s).tr fx5).tr (F6.s.tr fx8), ((F3.tr g4.s).tr (f5.tr g6.s)).tr f7, Or.inr ⟨by decide, by rw [s81]; exact F6.2.2.1, ?_, by omega, by omega⟩⟩
          · rw [xx, x5, x6]
            simp only [bnd_some]
            unfold p_X6_readScrape_119
            rw [X_closeF ft6]
            simp only [bnd_some]
            rw [nx_eq, e8]
          · rw [mm3]
            simp only [bnd_some]
            exact m92 4 τ7 (by decide) (by decide)
          · rw [s81, F6.2.2.2, j7 15 (by decide), v6, z05, w20]
            exact to3.1
      · have ft4 : FT σ4 := by unfold FT; rw [F4.2.2.1]; omega
        obtain ⟨σ5, x5, fx5, q5, c5, d5, i5, j5, k5⟩ := X_scX (o := o) (m := m) (S := τ 0 22) (V := 1) (by omega) (by omega) (by rw [so, y1.1, hm]) (by rw [F4.1 o (by omega), so, y1.1, hm]) (by rw [F4.1 o (by omega), so, y2.1]) y2.2.2 (by decide) x4
        obtain ⟨τ5, m5, f5, j5m⟩ := M_96F (τ := τ4) (m := m) (k := k2) hc t7 (by omega) (by omega)
        have ft5 : FT σ5 := by unfold FT; rw [q5]; exact ft4
        obtain ⟨σ8, e8, a8, b8, c8⟩ := su_ex σ5 o 3 (σ5 o 3 + 1)
        have fx8 : xS o σ5 σ8 := xSs (by omega) (by omega) e8
        have s81 : σ8 1 = σ5 1 := a8 1 (by omega)
        have m83 : σ8 o 3 = m + 1 := by rw [b8, c5 3 (by decide), F4.1 o (by omega), so, y1.1, hm]
        have e119 : p_X6_readScrape_119 o 1 σ5 = some (0, σ8) := by
          unfold p_X6_readScrape_119
          rw [X_closeF ft5]
          simp only [bnd_some]
          rw [nx_eq, e8]
        refine ⟨σ8, k2, τ5, ?_, ?_, ((FX3.tr F4.s).tr fx5).tr fx8, (F3.tr g4.s).tr f5, Or.inr ⟨by omega, by rw [s81, q5]; exact F4.2.2.1, by rw [s81, q5, j5m, w15]; exact F4.2.2.2, by omega, by omega⟩⟩
        · rw [xx, x5, X_failF ft5]
          simp only [bnd_some]
          rw [e119]
          by_cases z : τ 0 22 + 1 ≤ 1000
          · rw [if_pos z]
          · rw [if_neg z]
        · rw [mm2, n4]
          simp only [bnd_some]
          rw [m5]
          simp only [bnd_some]
          exact m92 k2 τ5 (by omega) (by omega)
    · have ft3 : FT σ3 := by unfold FT; rw [s31, F2.2.2.1]; omega
      have to3 : TO σ3 T L p1 := (F2.to to1).c s31
      have tx3 : TXx σ3 T L := fx3.tx (by omega) (F2.tx (r1.tx tx))
      have so : ∀ j, σ3 o j = σ o j := fun j => by rw [a3 o (by omega), F2.1 o (by omega), s1o o (by omega)]
      obtain ⟨σ4, x4, fx4, q4, b3a, b3b⟩ := X_scXF (o := o) (m := m) (S := τ 0 22) (by omega) (by omega) tx3 to3 ft3 (by rw [so, y1.1, hm]) (by rw [so, y2.1]) y2.2.2
      obtain ⟨τ3, e3m, a3m, b3m, c3m⟩ := su_ex τ2 9 (8 * c + m) (τ2 0 19)
      have f3 : pS c τ2 τ3 := pS9 (Or.inl rfl) (by omega) e3m
      obtain ⟨τ5, m5, f5, j5m⟩ := M_96F (τ := τ3) (m := m) (k := k1) hc (by rw [a3m 0 (by decide), g2.2 7 (by omega), c1 7 (by decide), h7]) (by omega) (by omega)
      refine ⟨σ4, k1, τ5, by rw [xx, x4], ?_, ((r1.s.tr F2.s).tr fx3).tr fx4, ((f1.tr g2.s).tr f3).tr f5, Or.inr ⟨by omega, by rw [q4, s31]; exact F2.2.2.1, by rw [q4, s31, j5m, a3m 0 (by decide), v15]; exact F2.2.2.2, b3a, b3b⟩⟩
      rw [mm]
      unfold p_X8_takeScrape_63
      rw [n2]
      simp only [bnd_some]
      rw [zm_eq (a := 8 * c + m) (by omega) (by omega), gd_pos (by omega), nx_eq, e3m, zm_eq (a := k1) (by omega) (by omega), if_neg (by omega), m5]
      simp only [bnd_some]
      exact m92 k1 τ5 (by omega) (by omega)
