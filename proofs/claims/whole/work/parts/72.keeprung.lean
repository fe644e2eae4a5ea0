/-! a house copied -/
theorem X_cf2 {o o1 : Int} (ho : o + 2 ≤ o1 ∨ o1 + 2 ≤ o) : ∀ (d f r : Nat) (σ : St), r + d = 10 → d < f → ∃ σ', p_X0_copyFrom_2 f o o1 r σ = some (0, σ') ∧ (∀ q : Int, q ≠ o → q ≠ o + 1 → σ' q = σ q) ∧ (∀ j : Int, 1 ≤ j → j ≤ 6 → σ' o j = σ o1 j) ∧ (∀ r' : Int, r' < r → σ' (o + 1) r' = σ (o + 1) r') ∧ (∀ r' : Int, r ≤ r' → r' < 10 → σ' (o + 1) r' = σ (o1 + 1) r') := by
  intro d
  induction d with
  | zero =>
    intro f r σ hk hf
    obtain ⟨f, rfl⟩ := Nat.exists_eq_succ_of_ne_zero (by omega : f ≠ 0)
    obtain ⟨σ1, e1, a1, b1, c1⟩ := su_ex σ o 1 (σ o1 1)
    obtain ⟨σ2, e2, a2, b2, c2⟩ := su_ex σ1 o 2 (σ1 o1 2)
    obtain ⟨σ3, e3, a3, b3, c3⟩ := su_ex σ2 o 3 (σ2 o1 3)
    obtain ⟨σ4, e4, a4, b4, c4⟩ := su_ex σ3 o 4 (σ3 o1 4)
    obtain ⟨σ5, e5, a5, b5, c5⟩ := su_ex σ4 o 5 (σ4 o1 5)
    obtain ⟨σ6, e6, a6, b6, c6⟩ := su_ex σ5 o 6 (σ5 o1 6)
    have n1 : o1 ≠ o := by omega
    refine ⟨σ6, ?_, fun q q1 q2 => by rw [a6 q q1, a5 q q1, a4 q q1, a3 q q1, a2 q q1, a1 q q1], fun j j1 j6 => ?_, fun r' _ => by rw [a6 _ (by omega), a5 _ (by omega), a4 _ (by omega), a3 _ (by omega), a2 _ (by omega), a1 _ (by omega)], fun r' q1 q2 => by omega⟩
    · show p_X0_copyFrom_2b (p_X0_copyFrom_2 f) o o1 r σ = _
      unfold p_X0_copyFrom_2b
      simp only [nx_eq]
      rw [zm_eq (a := (r : Int)) (by omega) (by omega), if_pos (by omega), e1, e2, e3, e4, e5, e6]
    · rcases (by omega : j = 1 ∨ j = 2 ∨ j = 3 ∨ j = 4 ∨ j = 5 ∨ j = 6) with rfl | rfl | rfl | rfl | rfl | rfl
      · rw [c6 1 (by decide), c5 1 (by decide), c4 1 (by decide), c3 1 (by decide), c2 1 (by decide), b1]
      · rw [c6 2 (by decide), c5 2 (by decide), c4 2 (by decide), c3 2 (by decide), b2, a1 _ n1]
      · rw [c6 3 (by decide), c5 3 (by decide), c4 3 (by decide), b3, a2 _ n1, a1 _ n1]
      · rw [c6 4 (by decide), c5 4 (by decide), b4, a3 _ n1, a2 _ n1, a1 _ n1]
      · rw [c6 5 (by decide), b5, a4 _ n1, a3 _ n1, a2 _ n1, a1 _ n1]
      · rw [b6, a5 _ n1, a4 _ n1, a3 _ n1, a2 _ n1, a1 _ n1]
  | succ d ih =>
    intro f r σ hk hf
    obtain ⟨f, rfl⟩ := Nat.exists_eq_succ_of_ne_zero (by omega : f ≠ 0)
    obtain ⟨σ1, e1, a1, b1, c1⟩ := su_ex σ (o + 1) r (σ (o1 + 1) r)
    obtain ⟨σ', e', a', b', c', d'⟩ := ih f (r + 1) σ1 (by omega) (by omega)
    refine ⟨σ', ?_, fun q q1 q2 => by rw [a' q q1 q2, a1 q q2], fun j j1 j6 => by rw [b' j j1 j6, a1 _ (by omega)], fun r' hr => by rw [c' r' (by omega), c1 r' (by omega)], fun r' q1 q2 => ?_⟩
    · refine Eq.trans ?_ e'
      show p_X0_copyFrom_2b (p_X0_copyFrom_2 f) o o1 r σ = _
      unfold p_X0_copyFrom_2b
      rw [zm_eq (a := (r : Int)) (by omega) (by omega), if_neg (by omega), gd_pos (by omega), nx_eq, e1]
      rfl
    · by_cases e : r' = r
      · subst e
        rw [c' _ (by omega), b1]
      · rw [d' r' (by omega) q2, a1 _ (by omega)]
theorem X_copyFrom {o o1 : Int} (ho : o + 2 ≤ o1 ∨ o1 + 2 ≤ o) (σ : St) : ∃ σ', p_X0_copyFrom o o1 σ = some (0, σ') ∧ (∀ q : Int, q ≠ o → q ≠ o + 1 → σ' q = σ q) ∧ (∀ j : Int, 1 ≤ j → j ≤ 6 → σ' o j = σ o1 j) ∧ (∀ r' : Int, 0 ≤ r' → r' < 10 → σ' (o + 1) r' = σ (o1 + 1) r') := by
  obtain ⟨σ', e, a, b, c, d⟩ := X_cf2 ho 10 FU 0 σ (by omega) (FU_gt (by omega))
  exact ⟨σ', e, a, b, d⟩
theorem M_ch14 {v1 v2 : Int} (h1 : 0 ≤ v1 ∧ v1 < 3) (h2 : 0 ≤ v2 ∧ v2 < 3) (hne : v1 ≠ v2) : ∀ (d n r : Nat) (τ : St), r + d = 10 → d < n → ∃ τ', p_X8_copyHouse_14 n v1 v2 r τ = some (0, τ') ∧ (∀ q : Int, (q < 2 ∨ 7 < q) → τ' q = τ q) ∧ (∀ q : Int, 3 ≤ q → q ≤ 7 → τ' q v2 = τ q v1 ∧ ∀ j, j ≠ v2 → τ' q j = τ q j) ∧ (∀ r' : Int, r ≤ r' → r' < 10 → τ' 2 (10 * v2 + r') = τ 2 (10 * v1 + r')) ∧ (∀ j : Int, (j < 10 * v2 + r ∨ 10 * v2 + 9 < j) → τ' 2 j = τ 2 j) := by
  intro d
  induction d with
  | zero =>
    intro n r τ hk hn
    obtain ⟨n, rfl⟩ := Nat.exists_eq_succ_of_ne_zero (by omega : n ≠ 0)
    obtain ⟨σ1, e1, a1, b1, c1⟩ := su_ex τ 3 v2 (τ 3 v1)
    obtain ⟨σ2, e2, a2, b2, c2⟩ := su_ex σ1 4 v2 (σ1 4 v1)
    obtain ⟨σ3, e3, a3, b3, c3⟩ := su_ex σ2 5 v2 (σ2 5 v1)
    obtain ⟨σ4, e4, a4, b4, c4⟩ := su_ex σ3 6 v2 (σ3 6 v1)
    obtain ⟨σ5, e5, a5, b5, c5⟩ := su_ex σ4 7 v2 (σ4 7 v1)
    refine ⟨σ5, ?_, fun q hq => by rw [a5 q (by omega), a4 q (by omega), a3 q (by omega), a2 q (by omega), a1 q (by omega)], fun q q3 q7 => ?_, fun r' q1 q2 => by omega, fun j _ => by rw [a5 2 (by omega), a4 2 (by omega), a3 2 (by omega), a2 2 (by omega), a1 2 (by omega)]⟩
    · show p_X8_copyHouse_14b (p_X8_copyHouse_14 n) v1 v2 r τ = _
      unfold p_X8_copyHouse_14b
      simp only [nx_eq]
      rw [zm_eq (a := (r : Int)) (by omega) (by omega), if_pos (by omega), zm_eq (a := v1) (by omega) (by omega), zm_eq (a := v2) (by omega) (by omega), gd_pos (by omega), gd_pos (by omega), e1, e2, e3, e4, e5]
    · rcases (by omega : q = 3 ∨ q = 4 ∨ q = 5 ∨ q = 6 ∨ q = 7) with rfl | rfl | rfl | rfl | rfl
      · rw [a5 3 (by decide), a4 3 (by decide), a3 3 (by decide), a2 3 (by decide)]
        exact ⟨b1, c1⟩
      · rw [a5 4 (by decide), a4 4 (by decide), a3 4 (by decide), b2, a1 4 (by decide)]
        exact ⟨rfl, fun j hj => by rw [c2 j hj, a1 4 (by decide)]⟩
      · rw [a5 5 (by decide), a4 5 (by decide), b3, a2 5 (by decide), a1 5 (by decide)]
        exact ⟨rfl, fun j hj => by rw [c3 j hj, a2 5 (by decide), a1 5 (by decide)]⟩
      · rw [a5 6 (by decide), b4, a3 6 (by decide), a2 6 (by decide), a1 6 (by decide)]
        exact ⟨rfl, fun j hj => by rw [c4 j hj, a3 6 (by decide), a2 6 (by decide), a1 6 (by decide)]⟩
      · rw [b5, a4 7 (by decide), a3 7 (by decide), a2 7 (by decide), a1 7 (by decide)]
        exact ⟨rfl, fun j hj => by rw [c5 j hj, a4 7 (by decide), a3 7 (by decide), a2 7 (by decide), a1 7 (by decide)]⟩
  | succ d ih =>
    intro n r τ hk hn
    obtain ⟨n, rfl⟩ := Nat.exists_eq_succ_of_ne_zero (by omega : n ≠ 0)
    obtain ⟨σ1, e1, a1, b1, c1⟩ := su_ex τ 2 (10 * v2 + r) (τ 2 (10 * v1 + r))
    obtain ⟨τ', e', a', b', c', d'⟩ := ih n (r + 1) σ1 (by omega) (by omega)
    refine ⟨τ', ?_, fun q hq => by rw [a' q hq, a1 q (by omega)], fun q q3 q7 => by
      rw [← a1 q (by omega)]
      exact b' q q3 q7, fun r' q1 q2 => ?_, fun j hj => by rw [d' j (by omega), c1 j (by omega)]⟩
    · refine Eq.trans ?_ e'
      show p_X8_copyHouse_14b (p_X8_copyHouse_14 n) v1 v2 r τ = _
      unfold p_X8_copyHouse_14b
      rw [zm_eq (a := (r : Int)) (by omega) (by omega), if_neg (by omega), zm_eq (a := 10 * v1 + (r : Int)) (by omega) (by omega), zm_eq (a := 10 * v2 + (r : Int)) (by omega) (by omega), gd_pos (by omega), gd_pos (by omega), nx_eq, e1]
      rfl
    · by_cases e : r' = r
      · subst e
        rw [d' _ (by omega), b1]
      · rw [c' r' (by omega) q2, c1 _ (by omega)]
def eC (τ τ' : St) (v1 v2 : Int) : Prop := (∀ q : Int, (q < 1 ∨ 7 < q) → τ' q = τ q) ∧ (∀ q : Int, (q = 1 ∨ (3 ≤ q ∧ q ≤ 7)) → τ' q v2 = τ q v1 ∧ ∀ j, j ≠ v2 → τ' q j = τ q j) ∧ (∀ r' : Int, 0 ≤ r' → r' < 10 → τ' 2 (10 * v2 + r') = τ 2 (10 * v1 + r')) ∧ (∀ j : Int, (j < 10 * v2 ∨ 10 * v2 + 9 < j) → τ' 2 j = τ 2 j)
theorem M_copyHouse {v1 v2 : Int} (h1 : 0 ≤ v1 ∧ v1 < 3) (h2 : 0 ≤ v2 ∧ v2 < 3) (hne : v1 ≠ v2) (τ : St) : ∃ τ', p_X8_copyHouse v1 v2 τ = some (0, τ') ∧ eC τ τ' v1 v2 := by
  obtain ⟨σ1, e1, a1, b1, c1⟩ := su_ex τ 1 v2 (τ 1 v1)
  obtain ⟨τ', e', a', b', c', d'⟩ := M_ch14 h1 h2 hne 10 FU 0 σ1 (by omega) (FU_gt (by omega))
  refine ⟨τ', ?_, fun q hq => by rw [a' q (by omega), a1 q (by omega)], fun q hq => ?_, fun r r0 r1 => by rw [c' r r0 r1, a1 2 (by decide)], fun j hj => by rw [d' j (by omega), a1 2 (by decide)]⟩
  · unfold p_X8_copyHouse
    rw [zm_eq (a := v1) (by omega) (by omega), zm_eq (a := v2) (by omega) (by omega), gd_pos (by omega), gd_pos (by omega), nx_eq, e1]
    exact e'
  · by_cases q1 : q = 1
    · rw [q1, a' 1 (by omega)]
      exact ⟨b1, c1⟩
    · rw [← a1 q q1]
      exact b' q (by omega) (by omega)
theorem HOK_C {τ τ' : St} {v1 v2 : Int} (e : eC τ τ' v1 v2) (h2 : 0 ≤ v2 ∧ v2 < 3) (h : HOK τ v1) : HOK τ' v2 := by
  obtain ⟨a1, a2, a3, a4, a5, a6, a7⟩ := h
  have q1 := (e.2.1 1 (by omega)).1
  have q4 := (e.2.1 4 (by omega)).1
  have q5 := (e.2.1 5 (by omega)).1
  have q6 := (e.2.1 6 (by omega)).1
  have q7 := (e.2.1 7 (by omega)).1
  refine ⟨h2, by omega, fun r r0 r1 => ?_, by omega, by omega, by omega, by omega⟩
  rw [e.2.2.1 r r0 (by omega)]
  exact a3 r r0 (by omega)
/-- only the third house's entries change -/
def h2O (τ τ' : St) : Prop := (∀ q : Int, (q < 1 ∨ 7 < q) → τ' q = τ q) ∧ (∀ q : Int, 1 ≤ q → q ≤ 7 → q ≠ 2 → ∀ j, j ≠ 2 → τ' q j = τ q j) ∧ (∀ j : Int, j < 20 → τ' 2 j = τ 2 j)
theorem eC.h2 {τ τ' : St} {v : Int} (e : eC τ τ' v 2) : h2O τ τ' := ⟨e.1, fun q q1 q7 q2 j hj => (e.2.1 q (by omega)).2 j hj, fun j hj => e.2.2.2 j (by omega)⟩
theorem h2O.tr {a b c : St} (h : h2O a b) (g : h2O b c) : h2O a c := ⟨fun q hq => (g.1 q hq).trans (h.1 q hq), fun q q1 q7 q2 j hj => (g.2.1 q q1 q7 q2 j hj).trans (h.2.1 q q1 q7 q2 j hj), fun j hj => (g.2.2 j hj).trans (h.2.2 j hj)⟩
theorem h2O.eW {τ τ' : St} (f : h2O τ τ') : eW τ τ' := by
  have t0 := f.1 0 (by omega)
  refine ⟨by rw [t0], by rw [t0], fun s _ _ => ?_, fun h h0 h1 => ?_, fun u _ _ => ?_⟩
  · unfold eS
    rw [f.1 8 (by omega), f.1 9 (by omega), f.1 10 (by omega), f.1 11 (by omega), f.1 12 (by omega)]
    exact ⟨rfl, rfl, rfl, fun _ _ _ => ⟨rfl, rfl⟩⟩
  · exact ⟨(f.2.1 1 (by decide) (by decide) (by decide) h (by omega)).symm, (f.2.1 3 (by decide) (by decide) (by decide) h (by omega)).symm, (f.2.1 4 (by decide) (by decide) (by decide) h (by omega)).symm, (f.2.1 5 (by decide) (by decide) (by decide) h (by omega)).symm, (f.2.1 6 (by decide) (by decide) (by decide) h (by omega)).symm, (f.2.1 7 (by decide) (by decide) (by decide) h (by omega)).symm, fun r r0 r1 => (f.2.2 _ (by omega)).symm⟩
  · unfold eU
    rw [f.1 14 (by omega), f.1 15 (by omega)]
    exact ⟨rfl, fun _ _ _ => rfl⟩
theorem Inv.h2 {σ τ τ' : St} (hI : Inv σ τ) (f : h2O τ τ') : Inv σ τ' := by
  obtain ⟨i1, i2, i3, i4, i5⟩ := hI
  have e := f.eW
  have t0 := f.1 0 (by omega)
  exact ⟨i1.fr rfl rfl rfl (by rw [t0]) (by rw [t0]) (f.1 13 (by omega)), i2.fr rfl rfl (fun _ _ _ => rfl) (fun _ _ _ => rfl) e, IP.fr i2 i3 (fun _ _ _ => rfl) rfl e, IC.fr i2 i4 (fun j h1 h2 => by rw [t0]) (f.1 16 (by omega)) (f.1 17 (by omega)) e, i5.fr (fun _ _ _ => rfl) (fun _ _ _ => rfl) ⟨by rw [t0], by rw [t0], by rw [t0]⟩ (fun k hk => f.1 k (by omega))⟩
/-- the reference works on the third house -/
theorem M_wk2 {σ τ : St} {s Y : Int} (hI : Inv σ τ) (cs : cS τ s) (hh : HOK τ 2) (hY : 1 ≤ Y ∧ Y ≤ 30) : ∃ τ', p_X8_work s 2 (-1) Y τ = some (0, τ') ∧ wkO τ τ' ∧ WK τ' s 2 (-1) Y ∧ Inv σ τ' := by
  have hc : τ 0 32 = 0 ∨ (τ 0 32 = 1 ∧ WK τ (τ 0 28) (τ 0 29) (τ 0 30) (τ 0 31) ∧ τ 0 29 < 2) := by
    rcases hI.2.2.2.1 with q | ⟨q1, q2, q3, _⟩
    · exact Or.inl q
    · exact Or.inr ⟨q1, q2, q3⟩
  obtain ⟨τ', e, o, w, f⟩ := M_work (hI.2.1.2.2.1 s cs.1 cs.2).2 hh (Or.inl rfl) hY hc
  rw [if_neg (by decide)] at f
  exact ⟨τ', e, o, w, hI.m o (Or.inl f)⟩
/-! two houses alike -/
def eX (a b : St) (s h h' : Int) : Prop := eS a b s ∧ a 1 h = b 1 h' ∧ (∀ r, 0 ≤ r → r < a 1 h → (hasb (a 3 h) r ↔ hasb (b 3 h') r)) ∧ a 4 h = b 4 h' ∧ a 5 h = b 5 h' ∧ a 6 h = b 6 h' ∧ ∀ r, 0 ≤ r → r < a 1 h → a 2 (10 * h + r) = b 2 (10 * h' + r)
theorem od_x {a b : St} {s p i : Int} (e : eS a b s) (hi : 0 ≤ i ∧ i < 8) : od a s p i = od b s p i := by
  unfold od
  rw [(e.2.2.2 i hi.1 hi.2).2, e.2.2.1]
theorem nxt_x {a b : St} {s h h' r k : Int} (e : eX a b s h h') (hr : 0 ≤ r ∧ r < a 1 h) : nxt a h r k = nxt b h' r k := by
  obtain ⟨_, e1, e3, e4, e5, e6, e2⟩ := e
  unfold nxt
  rw [e1, e4, e5]
  by_cases c : hasb (a 3 h) r
  · rw [if_pos c, if_pos ((e3 r hr.1 hr.2).1 c)]
  · rw [if_neg c, if_neg (fun z => c ((e3 r hr.1 hr.2).2 z))]
theorem by_x {a b : St} {s h h' r m k S : Int} {g : Int → Int} (e : eX a b s h h') : by_ a h (-1) r m k g S = by_ b h' (-1) r m k g S := by
  have q : bea a h S = bea b h' S := by
    unfold bea
    rw [e.2.2.2.2.2.1]
  have i : ask a h (-1) r m k g S ↔ ask b h' (-1) r m k g S := by
    unfold ask
    rw [q]
    constructor
    · rintro (z | z)
      · exact absurd z.1 (by decide)
      · exact Or.inr z
    · rintro (z | z)
      · exact absurd z.1 (by decide)
      · exact Or.inr z
  unfold by_
  by_cases c : ask a h (-1) r m k g S
  · rw [if_pos c, if_pos (i.1 c), q]
  · rw [if_neg c, if_neg (fun x => c (i.2 x))]
theorem mon_x {a b : St} {s h h' p r m k : Int} {g : Int → Int} (e : eX a b s h h') (hs : SOK a s) : mon a s h (-1) p r m g k = mon b s h' (-1) p r m g k := by
  have h8 := hs.2.1
  have e8 := e.1.1
  have e1 : sm (od a s p) (a 8 s).toNat = sm (od b s p) (a 8 s).toNat := sm_congr _ (fun i i0 i1 => od_x e.1 (by omega))
  have e2 : sm (fun i => od a s p i * by_ a h (-1) r m k g (a 9 (8 * s + i))) (a 8 s).toNat = sm (fun i => od b s p i * by_ b h' (-1) r m k g (b 9 (8 * s + i))) (a 8 s).toNat := sm_congr _ (fun i i0 i1 => by
    rw [od_x e.1 (by omega), by_x e, (e.1.2.2.2 i i0 (by omega)).1])
  unfold mon msum
  rw [e2, e1, e8]
theorem inM_x {a b : St} {s h h' p r : Int} {c : Int → Int} (e : eX a b s h h') (hs : SOK a s) (hr : 0 ≤ r ∧ r < a 1 h) : ∀ (j : Nat) (k : Int), inM a s h (-1) p r c j k = inM b s h' (-1) p r c j k
  | 0, k => by unfold inM; rw [nxt_x e hr]
  | j + 1, k => by
    unfold inM
    rw [mon_x e hs, funext (inM_x e hs hr j)]
theorem cst_x {a b : St} {s h h' : Int} (e : eX a b s h h') (hs : SOK a s) (hh : HOK a h) : ∀ (n : Nat) (r : Int), 0 ≤ r → r < a 1 h → cst a s h (-1) n r = cst b s h' (-1) n r
  | 0, _, _, _ => by unfold cst; rfl
  | n + 1, r, r0, r1 => by
    have hc := cst_x e hs hh n
    have i0 : inM a s h (-1) 0 r (cst a s h (-1) n) 12 0 = inM b s h' (-1) 0 r (cst b s h' (-1) n) 12 0 := by
      rw [inM_g hh ⟨r0, r1⟩ hc 12 0 (by decide) (by decide), inM_x e hs ⟨r0, r1⟩]
    have i1 : inM a s h (-1) 1 r (cst a s h (-1) n) 12 0 = inM b s h' (-1) 1 r (cst b s h' (-1) n) 12 0 := by
      rw [inM_g hh ⟨r0, r1⟩ hc 12 0 (by decide) (by decide), inM_x e hs ⟨r0, r1⟩]
    have hp : pnd a s h (-1) (cst a s h (-1) n) r ↔ pnd b s h' (-1) (cst b s h' (-1) n) r := by
      unfold pnd
      rw [i0, i1, e.1.2.1]
    unfold cst
    by_cases q : pnd a s h (-1) (cst a s h (-1) n) r
    · rw [if_pos q, if_pos (hp.1 q), i1, e.1.2.1, e.2.2.2.2.2.2 r r0 r1]
    · rw [if_neg q, if_neg (fun x => q (hp.2 x)), i0, e.2.2.2.2.2.2 r r0 r1]
theorem hasb_or {v r i : Int} (hr : 0 ≤ r ∧ r < 10) (hi : 0 ≤ i ∧ i < 10) : hasb (zor v (zshl 1 r)) i ↔ (hasb v i ∨ i = r) := by
  obtain ⟨r, rfl⟩ := Int.eq_ofNat_of_zero_le hr.1
  obtain ⟨i, rfl⟩ := Int.eq_ofNat_of_zero_le hi.1
  rw [hasb_bit (by omega), hasb_bit (by omega), zI_or, BitVec.getLsbD_or, bit_shl r (by omega) i (by omega)]
  by_cases e : i = r
  · subst e
    simp
  · have e' : ¬ ((i : Int) = (r : Int)) := by omega
    simp [e, e']
theorem ok_keepRung {a1 a2 a3 a4 : Int} (h1 : i32 a1) (h2 : i32 a2) (h3 : i32 a3) (h4 : i32 a4) : StepOK Inv (p_X7_keepRung a1 a2 a3 a4) (p_X8_keepRung a1 a2 a3 a4) := fun σ τ hI => by
  have hw := hI.2.1
  by_cases c1 : cS τ a1
  rotate_left
  · refine st_eq (a := -1000000001) ?_ ?_ hI
    · unfold p_X7_keepRung
      rw [X_isSort hw h1, if_neg c1]
      simp only [bnd_some, zm0t, zm1n, if_true, if_false]
    · unfold p_X8_keepRung
      rw [M_isSort hw h1, if_neg c1]
      simp only [bnd_some, zm0t, zm1n, if_true, if_false]
  by_cases c2 : cG τ a2 a4
  rotate_left
  · refine st_eq (a := -1000000001) ?_ ?_ hI
    · unfold p_X7_keepRung
      rw [X_isSort hw h1, if_pos c1]
      simp only [bnd_some, zm0t, zm1n, if_true, if_false]
      rw [X_isRung hw h2 h4, if_neg c2]
      simp only [bnd_some, zm0t, zm1n, if_true, if_false]
    · unfold p_X8_keepRung
      rw [M_isSort hw h1, if_pos c1]
      simp only [bnd_some, zm0t, zm1n, if_true, if_false]
      rw [M_isRung hw h2 h4, if_neg c2]
      simp only [bnd_some, zm0t, zm1n, if_true, if_false]
  by_cases c3 : 1 ≤ a3 ∧ a3 ≤ 30
  rotate_left
  · refine st_eq (a := -1000000002) ?_ ?_ hI
    · unfold p_X7_keepRung
      rw [X_isSort hw h1, if_pos c1]
      simp only [bnd_some, zm0t, zm1n, if_true, if_false]
      rw [X_isRung hw h2 h4, if_pos c2]
      simp only [bnd_some, zm0t, zm1n, if_true, if_false]
      rw [X_isOut h3 ⟨by decide, by decide⟩ ⟨by decide, by decide⟩, if_neg c3]
      simp only [bnd_some, zm0t, zm1n, if_true, if_false]
    · unfold p_X8_keepRung
      rw [M_isSort hw h1, if_pos c1]
      simp only [bnd_some, zm0t, zm1n, if_true, if_false]
      rw [M_isRung hw h2 h4, if_pos c2]
      simp only [bnd_some, zm0t, zm1n, if_true, if_false]
      rw [M_isTime h3, if_neg c3]
      simp only [bnd_some, zm0t, zm1n, if_true, if_false]
  obtain ⟨τ1, e1, o1, w1, hI1, cs1, ch1, _⟩ := M_wk hI c1 c2.1 (Or.inl rfl) c3
  have t1 : τ1 1 a2 = τ 1 a2 := by rw [o1.1 1 (by decide) (by decide) (by decide)]
  have g1 := c2.1.1
  have g2 := c2.2
  have h10 := hw.rg g1.1 g1.2
  have q4 := hw.1
  obtain ⟨τ2, e2, C2⟩ := M_copyHouse (v1 := a2) (v2 := 2) (by omega) (by decide) (by omega) τ1
  obtain ⟨τ3, e3, b3, c3', d3⟩ := su_ex τ2 3 2 (zor (τ2 3 2) (zshl 1 a4))
  have f3 : h2O τ1 τ3 := C2.h2.tr ⟨fun q hq => b3 q (by omega), fun q _ _ _ j hj => by
    by_cases z : q = 3
    · rw [z, d3 j hj]
    · rw [b3 q z], fun j _ => by rw [b3 2 (by decide)]⟩
  have hI3 := hI1.h2 f3
  have W := f3.eW
  obtain ⟨_, hh1⟩ := hI1.2.1.hr ch1
  obtain ⟨_, hs1⟩ := hI1.2.1.2.2.1 a1 cs1.1 cs1.2
  have cs3 : cS τ3 a1 := by unfold cS; rw [W.1]; exact cs1
  have hk2 : HOK τ2 2 := HOK_C C2 (by decide) hh1
  have hh3 : HOK τ3 2 := by
    unfold HOK
    rw [b3 1 (by decide), b3 2 (by decide), b3 4 (by decide), b3 5 (by decide), b3 6 (by decide), b3 7 (by decide)]
    exact hk2
  obtain ⟨τ4, e4, o4, w4, hI4⟩ := M_wk2 (Y := a3) hI3 cs3 hh3 c3
  have s4 : cS τ4 a1 := by unfold cS; rw [o4.2 7 (by omega)]; exact cs3
  have m4 : ∀ q : Int, 1 ≤ q → q ≤ 15 → τ4 q = τ3 q := fun q q1 q2 => o4.1 q (by omega) (by omega) (by omega)
  have k14 : eqK τ1 τ4 a1 a2 (-1) := by
    refine ⟨?_, ?_, fun q => absurd q (by decide)⟩
    · rw [m4 8 (by decide) (by decide), m4 9 (by decide) (by decide), m4 10 (by decide) (by decide), m4 11 (by decide) (by decide), m4 12 (by decide) (by decide)]
      exact W.2.2.1 a1 cs1.1 cs1.2
    · rw [m4 1 (by decide) (by decide), m4 2 (by decide) (by decide), m4 3 (by decide) (by decide), m4 4 (by decide) (by decide), m4 5 (by decide) (by decide), m4 6 (by decide) (by decide), m4 7 (by decide) (by decide)]
      exact W.2.2.2.1 a2 g1.1 g1.2
  have v1 : τ1 16 a4 = cst τ4 a1 a2 (-1) a3.toNat a4 := by
    have q := w1.2.2.2.2.1 0 a4 (by omega) (by omega) (by omega) (by omega)
    rw [show (10 : Int) * 0 + a4 = a4 by omega, show a3 - 0 = a3 by omega] at q
    rw [q, cst_k k14 hs1 hh1 (Or.inl rfl) _ a4 (by omega) (by omega)]
  have r2 : τ4 1 2 = τ1 1 a2 := by rw [m4 1 (by decide) (by decide), b3 1 (by decide)]; exact (C2.2.1 1 (by omega)).1
  have v4 : τ4 16 a4 = cst τ4 a1 2 (-1) a3.toNat a4 := by
    have q := w4.2.2.2.2.1 0 a4 (by omega) (by omega) (by omega) (by omega)
    rw [show (10 : Int) * 0 + a4 = a4 by omega, show a3 - 0 = a3 by omega] at q
    exact q
  have k3 : τ4 3 2 = zor (τ1 3 a2) (zshl 1 a4) := by rw [m4 3 (by decide) (by decide), c3', (C2.2.1 3 (by omega)).1]
  have ch4 : cH τ4 a2 := by unfold cH; rw [m4 1 (by decide) (by decide), f3.2.1 1 (by decide) (by decide) (by decide) a2 (by omega)]; exact ch1
  have em : p_X8_keepRung a1 a2 a3 a4 τ = some (cst τ4 a1 a2 (-1) a3.toNat a4 - cst τ4 a1 2 (-1) a3.toNat a4, τ4) := by
    unfold p_X8_keepRung
    rw [M_isSort hw h1, if_pos c1]
    simp only [bnd_some, zm0t, zm1n, if_true, if_false]
    rw [M_isRung hw h2 h4, if_pos c2]
    simp only [bnd_some, zm0t, zm1n, if_true, if_false]
    rw [M_isTime h3, if_pos c3]
    simp only [bnd_some, zm0t, zm1n, if_true, if_false]
    rw [e1]
    simp only [bnd_some]
    rw [zm_i h4, gd_pos (by omega), e2]
    simp only [bnd_some]
    rw [nx_eq, e3, e4]
    simp only [bnd_some]
    rw [v1, v4]
  have hw4 := hI4.2.1
  obtain ⟨hr4, hh4⟩ := hw4.hr ch4
  obtain ⟨sr4, hs4⟩ := hw4.2.2.1 a1 s4.1 s4.2
  have t3 : τ4 3 a2 = τ1 3 a2 := k14.2.1.2.1.symm
  by_cases kp : hasb (τ4 3 a2) a4
  · have X : eX τ4 τ4 a1 a2 2 := by
      have z := k14.2.1
      have y := fun q hq => (C2.2.1 q hq).1
      refine ⟨⟨rfl, rfl, rfl, fun _ _ _ => ⟨rfl, rfl⟩⟩, by rw [r2]; exact z.1.symm, fun r r0 r1 => ?_, ?_, ?_, ?_, fun r r0 r1 => ?_⟩
      · rw [k3, ← t3, hasb_or (by omega) (by have := z.1; omega)]
        constructor
        · exact fun q => Or.inl q
        · rintro (q | q)
          · exact q
          · rw [q]; exact kp
      · rw [← z.2.2.1, m4 4 (by decide) (by decide), b3 4 (by decide)]
        exact (y 4 (by omega)).symm
      · rw [← z.2.2.2.1, m4 5 (by decide) (by decide), b3 5 (by decide)]
        exact (y 5 (by omega)).symm
      · rw [← z.2.2.2.2.1, m4 6 (by decide) (by decide), b3 6 (by decide)]
        exact (y 6 (by omega)).symm
      · rw [← z.2.2.2.2.2.2 r r0 (by have := z.1; omega), m4 2 (by decide) (by decide), b3 2 (by decide)]
        exact (C2.2.2.1 r r0 (by have := z.1; omega)).symm
    have cx := cst_x X hs4 hh4 a3.toNat a4 (by omega) (by have := k14.2.1.1; omega)
    refine st_eq (a := 0) ?_ ?_ hI4
    · unfold p_X7_keepRung
      rw [X_isSort hw h1, if_pos c1]
      simp only [bnd_some, zm0t, zm1n, if_true, if_false]
      rw [X_isRung hw h2 h4, if_pos c2]
      simp only [bnd_some, zm0t, zm1n, if_true, if_false]
      rw [X_isOut h3 ⟨by decide, by decide⟩ ⟨by decide, by decide⟩, if_pos c3]
      simp only [bnd_some, zm0t, zm1n, if_true, if_false]
      rw [zm_i h2, gd_pos (by omega), X_isKept hr4, if_pos kp]
      simp only [bnd_some, zm1n, if_false]
    · rw [em, cx, Int.sub_self]
  · obtain ⟨σ1, x1, f1, j1, p1⟩ := X_copyFrom (o := 7) (o1 := 23 + 2 * a2) (by omega) σ
    obtain ⟨σ2, x2, f2, j2, p2⟩ := su_ex σ1 7 2 (zor (σ1 7 2) (zshl 1 a4))
    have tr2 : ∀ k : Int, (k < 7 ∨ 8 < k) → σ2 k = σ k := fun k hk => by rw [f2 k (by omega), f1 k (by omega) (by omega)]
    have hI5 : Inv σ2 τ4 := hI4.tr (fun k hk => tr2 k (by omega)) (fun r _ _ => by rw [tr2 108 (by decide)])
    have z := k14.2.1
    have y := fun q hq => (C2.2.1 q hq).1
    have HR2 : HR σ2 7 τ4 2 := by
      refine ⟨by decide, ?_, ?_, ?_, ?_, ?_, ?_, fun r r0 r1 => ?_⟩
      · rw [p2 1 (by decide), j1 1 (by decide) (by decide), hr4.2.1, r2, z.1]
      · rw [j2, j1 2 (by decide) (by decide), hr4.2.2.1, k3, t3]
      · rw [p2 3 (by decide), j1 3 (by decide) (by decide), hr4.2.2.2.1, ← z.2.2.2.1, m4 5 (by decide) (by decide), b3 5 (by decide)]
        exact (y 5 (by omega)).symm
      · rw [p2 4 (by decide), j1 4 (by decide) (by decide), hr4.2.2.2.2.1, ← z.2.2.1, m4 4 (by decide) (by decide), b3 4 (by decide)]
        exact (y 4 (by omega)).symm
      · rw [p2 5 (by decide), j1 5 (by decide) (by decide), hr4.2.2.2.2.2.1, ← z.2.2.2.2.1, m4 6 (by decide) (by decide), b3 6 (by decide)]
        exact (y 6 (by omega)).symm
      · rw [p2 6 (by decide), j1 6 (by decide) (by decide), hr4.2.2.2.2.2.2.1, ← z.2.2.2.2.2.1, m4 7 (by decide) (by decide), b3 7 (by decide)]
        exact (y 7 (by omega)).symm
      · have q8 := p1 r r0 (by omega)
        rw [f2 _ (by decide), q8, hr4.2.2.2.2.2.2.2 r r0 (by have := z.1; omega), ← z.2.2.2.2.2.2 r r0 (by omega), m4 2 (by decide) (by decide), b3 2 (by decide)]
        exact (C2.2.2.1 r r0 (by omega)).symm
    have hh42 : HOK τ4 2 := w4.1.2.2.2.2.1
    obtain ⟨sr5, _⟩ := hI5.2.1.2.2.1 a1 s4.1 s4.2
    obtain ⟨σ3, x3, f3x, hc3, z5, _, kn3⟩ := X_trial (n3 := -1) (ru := -1) sr5 hs4 HR2 hh42 (Or.inl ⟨by decide, rfl⟩) hI5.2.2.1.2
    obtain ⟨σ4, x4, k4, ⟨n, n1, n2, n3, n4, n5⟩, k0⟩ := X_know (left := a3) hc3 (by omega) z5 (by omega) kn3
    have hI6 : Inv σ4 τ4 := hI5.tr (fun k hk => by rw [k4.1.1 k (by omega), f3x k (by omega)]) (fun r r0 r1 => (k0 r r1).trans (by rw [f3x _ (by decide)]; rfl))
    obtain ⟨σ5, x5, f5, hI7, hc5, n', n1', n2', kn5⟩ := X_planOf hI6 s4 ch4 (Y := a3) (by omega)
    have kn5' : KN σ5 107 τ4 a1 2 (-1) n 0 := KN_s (f5 _ (by unfold pO; omega)) (f5 _ (by unfold pO; omega)) n5
    refine st_eq (a := cst τ4 a1 a2 (-1) a3.toNat a4 - cst τ4 a1 2 (-1) a3.toNat a4) ?_ em hI7
    unfold p_X7_keepRung
    rw [X_isSort hw h1, if_pos c1]
    simp only [bnd_some, zm0t, zm1n, if_true, if_false]
    rw [X_isRung hw h2 h4, if_pos c2]
    simp only [bnd_some, zm0t, zm1n, if_true, if_false]
    rw [X_isOut h3 ⟨by decide, by decide⟩ ⟨by decide, by decide⟩, if_pos c3]
    simp only [bnd_some, zm0t, zm1n, if_true, if_false]
    rw [zm_i h2, gd_pos (by omega), X_isKept hr4, if_neg kp]
    simp only [bnd_some, zm0t, if_true]
    rw [x1]
    simp only [bnd_some]
    rw [nx_eq, x2, zm_i h1, gd_pos (by omega), x3]
    simp only [bnd_some]
    rw [x4]
    simp only [bnd_some]
    rw [x5]
    simp only [bnd_some]
    rw [gd_pos hc5.1, X_cw kn5 n2' (by omega) (by have := z.1; omega) (by have := z.1; omega)]
    simp only [bnd_some]
    rw [X_cw kn5' n3 (by omega) (by omega) (by omega)]
    simp only [bnd_some]
