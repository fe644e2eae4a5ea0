abbrev cpn (t : St) (s ru : Int) : Prop := ru < 0 ∧ 0 ≤ t 11 s
theorem M_canPain {τ : St} {s h ru : Int} (hc : MC τ s h ru) : p_X8_canPain τ = some (if cpn τ s ru then 1 else 0, τ) := by
  obtain ⟨h28, h29, h30, hs, hh, hu⟩ := hc
  have h0 := hs.1
  have hpn := hs.2.2.2.2.2.2
  have hru : -1 ≤ ru ∧ ru < 4 := by
    rcases hu with hu | hu
    · omega
    · have := hu.1; omega
  unfold p_X8_canPain
  rw [h30, h28, zm_eq (a := ru) (by omega) (by omega), zm_eq (a := s) (by omega) (by omega), gd_pos (by omega), zm_eq (a := τ 11 s) (by omega) (by omega)]
  by_cases c1 : 0 ≤ ru
  · rw [if_pos c1, if_neg (by unfold cpn; omega)]
  · rw [if_neg c1]
    by_cases c2 : τ 11 s < 0
    · rw [if_pos c2, if_neg (by unfold cpn; omega)]
    · rw [if_neg c2, if_pos (by unfold cpn; omega)]
theorem M_plainAt {τ : St} {s h ru y r : Int} (hc : MC τ s h ru) (hy : 0 ≤ y ∧ y < 30) (hr : 0 ≤ r ∧ r < τ 1 h) : p_X8_plainAt y r τ = some (1000 * τ 2 (10 * h + r) + τ 17 (pl 0 y r 0 0), τ) := by
  obtain ⟨h28, h29, h30, hs, hh, hu⟩ := hc
  have h0 := hh.1
  have h1 := hh.2.1
  have b := pl_bd (p := 0) (by omega) hy (r := r) (by omega) (m := 0) (k := 0) (by omega) (by omega)
  unfold p_X8_plainAt
  rw [h29, zm_eq (a := 10 * h + r) (by omega) (by omega), gd_pos (by omega)]
  simp only [Option.bind_some, M_place]
  rw [zm_eq (a := pl 0 y r 0 0) (by omega) (by omega), gd_pos (by omega)]
theorem M_painsAt {τ : St} {s h ru y r : Int} (hc : MC τ s h ru) (hy : 0 ≤ y ∧ y < 30) (hr : 0 ≤ r ∧ r < τ 1 h) : p_X8_painsAt y r τ = some (1000 * τ 2 (10 * h + r) + 1000 * τ 11 s + τ 17 (pl 1 y r 0 0), τ) := by
  obtain ⟨h28, h29, h30, hs, hh, hu⟩ := hc
  have h0 := hh.1
  have h0' := hs.1
  have h1 := hh.2.1
  have b := pl_bd (p := 1) (by omega) hy (r := r) (by omega) (m := 0) (k := 0) (by omega) (by omega)
  unfold p_X8_painsAt
  rw [h29, h28, zm_eq (a := 10 * h + r) (by omega) (by omega), gd_pos (by omega), zm_eq (a := s) (by omega) (by omega), gd_pos (by omega)]
  simp only [Option.bind_some, M_place]
  rw [zm_eq (a := pl 1 y r 0 0) (by omega) (by omega), gd_pos (by omega)]
theorem M_isPained {τ : St} {s h ru y r a b : Int} (hc : MC τ s h ru) (hy : 0 ≤ y ∧ y < 30) (hr : 0 ≤ r ∧ r < τ 1 h) (ha : τ 17 (pl 0 y r 0 0) = a) (hab : 0 ≤ a ∧ a ≤ 420000000) (hb : cpn τ s ru → τ 17 (pl 1 y r 0 0) = b ∧ 0 ≤ b ∧ b ≤ 420000000) : p_X8_isPained y r τ = some (if cpn τ s ru ∧ 1000 * τ 11 s + b < a then 1 else 0, τ) := by
  have hP := hc.2.2.2.2.1.2.2.1 r hr.1 hr.2
  have hpn := hc.2.2.2.1.2.2.2.2.2.2
  unfold p_X8_isPained
  rw [M_canPain hc]
  simp only [Option.bind_some]
  by_cases c1 : cpn τ s ru
  · obtain ⟨hb1, hb2, hb3⟩ := hb c1
    rw [if_pos c1, if_neg (by decide), M_painsAt hc hy hr]
    simp only [Option.bind_some]
    rw [M_plainAt hc hy hr]
    simp only [Option.bind_some]
    rw [ha, hb1, zm_eq (a := 1000 * τ 2 (10 * h + r) + a) (by omega) (by omega), zm_eq (a := 1000 * τ 2 (10 * h + r) + 1000 * τ 11 s + b) (by omega) (by omega)]
    by_cases c2 : 1000 * τ 11 s + b < a
    · rw [if_neg (by omega), if_pos ⟨c1, c2⟩]
    · rw [if_pos (by omega), if_neg (fun q => c2 q.2)]
  · rw [if_neg c1, if_pos (by decide), if_neg (fun q => c1 q.1)]
/-- what is done of the years' table: years behind y, and rungs below r of year y -/
def WI (τ0 τ : St) (s h ru : Int) (Y : Int) (y r : Int) : Prop := (∀ q : Int, q ≠ 16 → q ≠ 17 → τ q = τ0 q) ∧ (∀ y' r' : Int, 0 ≤ r' → r' < τ0 1 h → y' ≤ Y → (y < y' ∨ (y' = y ∧ r' < r)) → τ 16 (10 * y' + r') = cst τ0 s h ru (Y - y').toNat r') ∧ (∀ y' r' p m k : Int, 0 ≤ r' → r' < τ0 1 h → y' < Y → (y < y' ∨ (y' = y ∧ r' < r)) → (p = 0 ∨ (p = 1 ∧ cpn τ0 s ru)) → 0 ≤ m → m ≤ 12 → 0 ≤ k → k ≤ 3 → τ 17 (pl p y' r' m k) = inM τ0 s h ru p r' (cst τ0 s h ru (Y - y' - 1).toNat) (12 - m).toNat k)
theorem WI.T {τ0 τ : St} {s h ru Y y r : Int} (hF : WI τ0 τ s h ru Y y r) : eqT τ τ0 := fun q _ h2 _ => hF.1 q (by omega) (by omega)
theorem MC_c {a b : St} {s h ru : Int} (h0 : b 0 = a 0) (hT : eqT a b) (hc : MC a s h ru) : MC b s h ru := by
  obtain ⟨h28, h29, h30, hs, hh, hu⟩ := hc
  refine ⟨by rw [h0]; exact h28, by rw [h0]; exact h29, by rw [h0]; exact h30, SOK_c hT hs, HOK_c hT hh, ?_⟩
  rcases hu with hu | hu
  · exact Or.inl hu
  · exact Or.inr (ROK_c hT hu)
section WK
variable {τ0 : St} {s h ru Y : Int}
theorem M_w124 (K116 : Int → Int → St → Option (Int × St)) (hc : MC τ0 s h ru) (hY : 1 ≤ Y ∧ Y ≤ 30) {y : Int} (hy : 0 ≤ y ∧ y < Y) : ∀ (d n r : Nat) (τ : St), (r : Int) + d = τ0 1 h → d < n → WI τ0 τ s h ru Y y r → ∃ τ', p_X8_work_124 K116 n h y r τ = K116 h (y + (-1)) τ' ∧ WI τ0 τ' s h ru Y (y - 1) 0 := by
  have hs := hc.2.2.2.1
  have hh := hc.2.2.2.2.1
  have hh0 := hh.1
  have h10 := hh.2.1
  intro d
  induction d with
  | zero =>
    intro n r τ hr hn hF
    obtain ⟨n, rfl⟩ := Nat.exists_eq_succ_of_ne_zero (by omega : n ≠ 0)
    refine ⟨τ, ?_, hF.1, fun y' r' a1 a2 a3 a4 => hF.2.1 y' r' a1 a2 a3 (by omega), fun y' r' p m k a1 a2 a3 a4 a5 a6 a7 a8 a9 => hF.2.2 y' r' p m k a1 a2 a3 (by omega) a5 a6 a7 a8 a9⟩
    show p_X8_work_124b K116 (p_X8_work_124 K116 n) h y r τ = _
    unfold p_X8_work_124b
    rw [hF.1 1 (by decide) (by decide), zm_eq (a := h) (by omega) (by omega), gd_pos (by omega), zm_eq (a := τ0 1 h) (by omega) (by omega), zm_eq (a := (r : Int)) (by omega) (by omega), if_pos (by omega)]
  | succ d ih =>
    intro n r τ hr hn hF
    obtain ⟨n, rfl⟩ := Nat.exists_eq_succ_of_ne_zero (by omega : n ≠ 0)
    have hC := MC_c (hF.1 0 (by decide) (by decide)) hF.T.symm hc
    have hT := hF.T
    generalize hcd : cst τ0 s h ru (Y - y - 1).toNat = C
    have hCb : ∀ r, 0 ≤ r → r < τ0 1 h → 0 ≤ C r ∧ C r ≤ 12987000 * (((Y - y - 1).toNat : Nat) : Int) := by
      rw [← hcd]; exact cst_bd hs hh _
    have h16 : ∀ q, 0 ≤ q → q < τ0 1 h → τ 16 (10 * (y + 1) + q) = C q := by
      intro q q0 q1
      rw [hF.2.1 (y + 1) q q0 q1 (by omega) (by omega), ← hcd]
      congr 1
      omega
    have hT1 := hT 1 (by decide) (by decide) (by decide)
    obtain ⟨τ1, e1, F1⟩ := M_fillYear (τ0 := τ) (p := 0) (y := y) (r := r) (c := C) (G := 12987000 * (((Y - y - 1).toNat : Nat) : Int)) hC (Or.inl rfl) (by omega) (by rw [hT1]; omega) (by omega) (by rw [hT1]; exact hCb) (by rw [hT1]; exact h16)
    have hC1 := F1.MC hC
    -- with pains, or not
    have hpn2 : ∃ τ2 : St, (Option.bind (p_X8_canPain τ1) fun x145 => if zm x145.1 = 0 then p_X8_work_160 K116 (p_X8_work_124 K116 n) h y r x145.2 else Option.bind (p_X8_fillYear 1 y r x145.2) fun x157 => p_X8_work_160 K116 (p_X8_work_124 K116 n) h y r x157.2) = p_X8_work_160 K116 (p_X8_work_124 K116 n) h y r τ2 ∧ (∀ q : Int, q ≠ 17 → τ2 q = τ q) ∧ (∀ i : Int, (i < pl 0 y r 0 0 ∨ pl 0 y r 0 0 + 52 ≤ i) → (i < pl 1 y r 0 0 ∨ pl 1 y r 0 0 + 52 ≤ i) → τ2 17 i = τ 17 i) ∧ (∀ p m k : Int, (p = 0 ∨ (p = 1 ∧ cpn τ0 s ru)) → 0 ≤ m → m ≤ 12 → 0 ≤ k → k ≤ 3 → τ2 17 (pl p y r m k) = inM τ0 s h ru p r C (12 - m).toNat k) := by
      have k0 : ∀ m k : Int, 0 ≤ m → m ≤ 12 → 0 ≤ k → k ≤ 3 → τ1 17 (pl 0 y r m k) = inM τ0 s h ru 0 r C (12 - m).toNat k := by
        intro m k a1 a2 a3 a4
        rw [F1.2.2 m k a1 a2 a3 a4 (by omega), inM_c hT]
      have hcp : cpn τ1 s ru ↔ cpn τ0 s ru := by
        unfold cpn
        rw [F1.1 11 (by decide), hT 11 (by decide) (by decide) (by decide)]
      rw [M_canPain hC1]
      by_cases c1 : cpn τ0 s ru
      · have hT2 : eqT τ1 τ0 := F1.T.trans hT
        have hT21 := hT2 1 (by decide) (by decide) (by decide)
        obtain ⟨τ2, e2, F2⟩ := M_fillYear (τ0 := τ1) (p := 1) (y := y) (r := r) (c := C) (G := 12987000 * (((Y - y - 1).toNat : Nat) : Int)) hC1 (Or.inr ⟨rfl, (hcp.mpr c1).2⟩) (by omega) (by rw [hT21]; omega) (by omega) (by rw [hT21]; exact hCb) (by rw [hT21]; intro q q0 q1; rw [F1.1 16 (by decide)]; exact h16 q q0 q1)
        refine ⟨τ2, ?_, fun q hq => (F2.1 q hq).trans (F1.1 q hq), fun i i0 i1 => (F2.2.1 i i1).trans (F1.2.1 i i0), fun p m k hp a1 a2 a3 a4 => ?_⟩
        · simp only [Option.bind_some]
          rw [if_pos (hcp.mpr c1), if_neg (by decide), e2]
          simp only [Option.bind_some]
        · rcases hp with rfl | ⟨rfl, _⟩
          · rw [F2.2.1 _ (by unfold pl; omega)]
            exact k0 m k a1 a2 a3 a4
          · rw [F2.2.2 m k a1 a2 a3 a4 (by omega), inM_c hT2]
      · refine ⟨τ1, ?_, F1.1, fun i i0 _ => F1.2.1 i i0, fun p m k hp a1 a2 a3 a4 => ?_⟩
        · simp only [Option.bind_some]
          rw [if_neg (fun q => c1 (hcp.mp q)), if_pos (by decide)]
        · rcases hp with rfl | ⟨rfl, hp⟩
          · exact k0 m k a1 a2 a3 a4
          · exact absurd hp c1
    obtain ⟨τ2, e2, G1, G2, G3⟩ := hpn2
    have hT2 : eqT τ2 τ0 := fun q a1 a2 a3 => (G1 q (by omega)).trans (hT q a1 a2 a3)
    have hC2 : MC τ2 s h ru := MC_c ((G1 0 (by decide)).trans (hF.1 0 (by decide) (by decide))) hT2.symm hc
    have ia := inM_bd (ru := ru) (r := (r : Int)) (c := C) hs hh (Or.inl rfl : (0 : Int) = 0 ∨ _) (by omega) hCb 12 0 (by omega) (by omega)
    have hP := hh.2.2.1 r (by omega) (by omega)
    have hpn := hs.2.2.2.2.2.2
    have hip := M_isPained (y := y) (r := r) (a := inM τ0 s h ru 0 r C 12 0) (b := inM τ0 s h ru 1 r C 12 0) hC2 (by omega) (by rw [hT2 1 (by decide) (by decide) (by decide)]; omega) (G3 0 0 0 (Or.inl rfl) (by omega) (by omega) (by omega) (by omega)) (by omega) (fun hq => by
      have hq' : cpn τ0 s ru := by unfold cpn at *; rw [← hT2 11 (by decide) (by decide) (by decide)]; exact hq
      have ib := inM_bd (ru := ru) (r := (r : Int)) (c := C) hs hh (Or.inr ⟨rfl, hq'.2⟩ : (1 : Int) = 0 ∨ _) (by omega) hCb 12 0 (by omega) (by omega)
      exact ⟨G3 1 0 0 (Or.inr ⟨rfl, hq'⟩) (by omega) (by omega) (by omega) (by omega), by omega, by omega⟩)
    have hcp2 : (cpn τ2 s ru ∧ 1000 * τ2 11 s + inM τ0 s h ru 1 r C 12 0 < inM τ0 s h ru 0 r C 12 0) ↔ pnd τ0 s h ru C r := by
      unfold cpn pnd
      rw [hT2 11 (by decide) (by decide) (by decide), and_assoc]
    have hcost : cst τ0 s h ru (Y - y).toNat r = 1000 * τ0 2 (10 * h + r) + (if pnd τ0 s h ru C r then 1000 * τ0 11 s + inM τ0 s h ru 1 r C 12 0 else inM τ0 s h ru 0 r C 12 0) := by
      have e3 : (Y - y).toNat = (Y - y - 1).toNat + 1 := by omega
      rw [e3]
      show 1000 * τ0 2 (10 * h + r) + (if pnd τ0 s h ru (cst τ0 s h ru (Y - y - 1).toNat) r then _ else _) = _
      rw [hcd]
    have e4 : p_X8_work_160 K116 (p_X8_work_124 K116 n) h y r τ2 = p_X8_work_124 K116 n h y ((r : Int) + 1) (su τ2 16 (10 * y + r) (cst τ0 s h ru (Y - y).toNat r)) := by
      have key : ∀ v, p_X8_work_202 K116 (p_X8_work_124 K116 n) h y r 16 (10 * y + r) v τ2 = p_X8_work_124 K116 n h y ((r : Int) + 1) (su τ2 16 (10 * y + r) v) := by
        intro v
        unfold p_X8_work_202
        rw [zm_eq (a := 10 * y + r) (by omega) (by omega), gd_pos (by omega)]
        simp only [nx]
      unfold p_X8_work_160
      rw [hip]
      simp only [Option.bind_some]
      rw [hcost]
      have hr2 : 0 ≤ (r : Int) ∧ (r : Int) < τ2 1 h := by rw [hT2 1 (by decide) (by decide) (by decide)]; omega
      by_cases c2 : pnd τ0 s h ru C r
      · rw [if_pos (hcp2.mpr c2), if_neg (by decide), if_pos c2]
        rw [M_painsAt hC2 (by omega) hr2, G3 1 0 0 (Or.inr ⟨rfl, c2.1, c2.2.1⟩) (by omega) (by omega) (by omega) (by omega), hT2 2 (by decide) (by decide) (by decide), hT2 11 (by decide) (by decide) (by decide), Int.add_assoc]
        exact key _
      · rw [if_neg (fun q => c2 (hcp2.mp q)), if_pos (by decide), if_neg c2]
        rw [M_plainAt hC2 (by omega) hr2, G3 0 0 0 (Or.inl rfl) (by omega) (by omega) (by omega) (by omega), hT2 2 (by decide) (by decide) (by decide)]
        exact key _
    have hF2 : WI τ0 (su τ2 16 (10 * y + r) (cst τ0 s h ru (Y - y).toNat r)) s h ru Y y ((r : Int) + 1) := by
      refine ⟨fun q a1 a2 => by rw [su_ne _ _ _ a1, G1 q a2]; exact hF.1 q a1 a2, fun y' r' a1 a2 a3 a4 => ?_, fun y' r' p m k a1 a2 a3 a4 a5 a6 a7 a8 a9 => ?_⟩
      · rw [su_self]
        by_cases e : y' = y ∧ r' = r
        · obtain ⟨rfl, rfl⟩ := e
          rw [up_self]
        · rw [up_ne _ _ (by omega), G1 16 (by decide)]
          exact hF.2.1 y' r' a1 a2 a3 (by omega)
      · rw [su_ne _ _ _ (by decide)]
        by_cases e : y' = y ∧ r' = r
        · obtain ⟨rfl, rfl⟩ := e
          rw [G3 p m k a5 a6 a7 a8 a9, hcd]
        · rw [G2 _ (by unfold pl; omega) (by unfold pl; omega)]
          exact hF.2.2 y' r' p m k a1 a2 a3 (by omega) a5 a6 a7 a8 a9
    obtain ⟨τ', q1, q2⟩ := ih n (r + 1) _ (by omega) (by omega) hF2
    refine ⟨τ', ?_, q2⟩
    show p_X8_work_124b K116 (p_X8_work_124 K116 n) h y r τ = _
    unfold p_X8_work_124b
    rw [hF.1 1 (by decide) (by decide), zm_eq (a := h) (by omega) (by omega), gd_pos (by omega), zm_eq (a := τ0 1 h) (by omega) (by omega), zm_eq (a := (r : Int)) (by omega) (by omega), if_neg (by omega), e1]
    simp only [Option.bind_some]
    exact e2.trans (e4.trans q1)
theorem M_w116 (hc : MC τ0 s h ru) (hY : 1 ≤ Y ∧ Y ≤ 30) : ∀ (d n : Nat) (y : Int) (τ : St), y + 1 = d → y < Y → d < n → WI τ0 τ s h ru Y y 0 → ∃ τ', p_X8_work_116 n h y τ = some (0, τ') ∧ WI τ0 τ' s h ru Y (-1) 0 := by
  have h10 := hc.2.2.2.2.1.2.1
  intro d
  induction d with
  | zero =>
    intro n y τ hy hy1 hn hF
    obtain ⟨n, rfl⟩ := Nat.exists_eq_succ_of_ne_zero (by omega : n ≠ 0)
    refine ⟨τ, ?_, by have : y = -1 := by omega
                      rw [this] at hF; exact hF⟩
    show p_X8_work_116b (p_X8_work_116 n) h y τ = _
    unfold p_X8_work_116b
    rw [zm_eq (a := y) (by omega) (by omega), if_pos (by omega)]
  | succ d ih =>
    intro n y τ hy hy1 hn hF
    obtain ⟨n, rfl⟩ := Nat.exists_eq_succ_of_ne_zero (by omega : n ≠ 0)
    obtain ⟨τ1, e1, F1⟩ := M_w124 (p_X8_work_116 n) hc hY (y := y) (by omega) (τ0 1 h).toNat FU 0 τ (by omega) (FU_gt (by omega)) hF
    obtain ⟨τ2, e2, F2⟩ := ih n (y + (-1)) τ1 (by omega) (by omega) (by omega) F1
    refine ⟨τ2, ?_, F2⟩
    show p_X8_work_116b (p_X8_work_116 n) h y τ = _
    unfold p_X8_work_116b
    rw [zm_eq (a := y) (by omega) (by omega), if_neg (by omega)]
    exact e1.trans e2
theorem M_w79 (hc : MC τ0 s h ru) (hY : 1 ≤ Y ∧ Y ≤ 30) : ∀ (d n r : Nat) (τ : St), (r : Int) + d = τ0 1 h → d < n → WI τ0 τ s h ru Y Y r → ∃ τ', p_X8_work_79 n h Y r τ = some (0, τ') ∧ WI τ0 τ' s h ru Y (-1) 0 := by
  have hh := hc.2.2.2.2.1
  have hh0 := hh.1
  have h10 := hh.2.1
  intro d
  induction d with
  | zero =>
    intro n r τ hr hn hF
    obtain ⟨n, rfl⟩ := Nat.exists_eq_succ_of_ne_zero (by omega : n ≠ 0)
    have hF1 : WI τ0 τ s h ru Y (Y - 1) 0 := ⟨hF.1, fun y' r' a1 a2 a3 a4 => hF.2.1 y' r' a1 a2 a3 (by omega), fun y' r' p m k a1 a2 a3 a4 => by omega⟩
    obtain ⟨τ', e1, F1⟩ := M_w116 hc hY Y.toNat FU (Y - 1) τ (by omega) (by omega) (FU_gt (by omega)) hF1
    refine ⟨τ', ?_, F1⟩
    show p_X8_work_79b (p_X8_work_79 n) h Y r τ = _
    unfold p_X8_work_79b
    rw [hF.1 1 (by decide) (by decide), zm_eq (a := h) (by omega) (by omega), gd_pos (by omega), zm_eq (a := τ0 1 h) (by omega) (by omega), zm_eq (a := (r : Int)) (by omega) (by omega), if_pos (by omega)]
    exact e1
  | succ d ih =>
    intro n r τ hr hn hF
    obtain ⟨n, rfl⟩ := Nat.exists_eq_succ_of_ne_zero (by omega : n ≠ 0)
    have hF2 : WI τ0 (su τ 16 (10 * Y + r) 0) s h ru Y Y ((r : Int) + 1) := by
      refine ⟨fun q a1 a2 => by rw [su_ne _ _ _ a1]; exact hF.1 q a1 a2, fun y' r' a1 a2 a3 a4 => ?_, fun y' r' p m k a1 a2 a3 a4 => by omega⟩
      have hy : y' = Y := by omega
      subst hy
      have e0 : (y' - y').toNat = 0 := by omega
      rw [su_self, e0]
      show _ = (0 : Int)
      by_cases e : r' = r
      · subst e; rw [up_self]
      · rw [up_ne _ _ (by omega)]
        have := hF.2.1 y' r' a1 a2 a3 (by omega)
        rw [e0] at this
        exact this
    obtain ⟨τ', q1, q2⟩ := ih n (r + 1) _ (by omega) (by omega) hF2
    refine ⟨τ', ?_, q2⟩
    show p_X8_work_79b (p_X8_work_79 n) h Y r τ = _
    unfold p_X8_work_79b
    rw [hF.1 1 (by decide) (by decide), zm_eq (a := h) (by omega) (by omega), gd_pos (by omega), zm_eq (a := τ0 1 h) (by omega) (by omega), zm_eq (a := (r : Int)) (by omega) (by omega), if_neg (by omega), zm_eq (a := 10 * Y + r) (by omega) (by omega), gd_pos (by omega)]
    simp only [nx]
    exact q1
end WK
/-- the years' table is reckoned -/
def WK (τ : St) (s h ru Y : Int) : Prop := MC τ s h ru ∧ τ 0 31 = Y ∧ (1 ≤ Y ∧ Y ≤ 30) ∧ WI τ τ s h ru Y (-1) 0
/-- what work() leaves as it was -/
def wkO (τ τ' : St) : Prop := (∀ q : Int, q ≠ 0 → q ≠ 16 → q ≠ 17 → τ' q = τ q) ∧ ∀ j : Int, (j < 28 ∨ 32 < j) → τ' 0 j = τ 0 j
theorem M_work {τ : St} {s h ru Y : Int} (hs : SOK τ s) (hh : HOK τ h) (hu : ru = -1 ∨ ROK τ ru) (hY : 1 ≤ Y ∧ Y ≤ 30) (hwk : τ 0 32 = 0 ∨ (τ 0 32 = 1 ∧ WK τ (τ 0 28) (τ 0 29) (τ 0 30) (τ 0 31) ∧ τ 0 29 < 2)) : ∃ τ', p_X8_work s h ru Y τ = some (0, τ') ∧ wkO τ τ' ∧ WK τ' s h ru Y ∧ τ' 0 32 = (if h < 2 then 1 else 0) := by
  have h0 := hs.1
  have h0' := hh.1
  have h10 := hh.2.1
  have hru : -1 ≤ ru ∧ ru < 4 := by
    rcases hu with hu | hu
    · omega
    · have := hu.1; omega
  have fresh : ∃ τ', p_X8_work_41 s h ru Y τ = some (0, τ') ∧ wkO τ τ' ∧ WK τ' s h ru Y ∧ τ' 0 32 = (if h < 2 then 1 else 0) := by
    have key : ∀ v : Int, (v = 0 ∨ v = 1) → ∃ τ', p_X8_work_52 s h ru Y v τ = some (0, τ') ∧ wkO τ τ' ∧ WK τ' s h ru Y ∧ τ' 0 32 = v := by
      intro v hv
      have e0 : p_X8_work_52 s h ru Y v τ = p_X8_work_79 FU h Y 0 (su (su (su (su (su τ 0 32 v) 0 31 Y) 0 28 s) 0 29 h) 0 30 ru) := by
        unfold p_X8_work_52
        rw [gd_pos hv]
        simp only [nx]
      generalize hτ1 : su (su (su (su (su τ 0 32 v) 0 31 Y) 0 28 s) 0 29 h) 0 30 ru = τ1 at e0
      have o1 : ∀ q : Int, q ≠ 0 → τ1 q = τ q := fun q hq => by rw [← hτ1, su_ne _ _ _ hq, su_ne _ _ _ hq, su_ne _ _ _ hq, su_ne _ _ _ hq, su_ne _ _ _ hq]
      have o2 : ∀ j : Int, τ1 0 j = (if j = 30 then ru else if j = 29 then h else if j = 28 then s else if j = 31 then Y else if j = 32 then v else τ 0 j) := by
        intro j
        rw [← hτ1]
        simp only [su_self]
        unfold up
        rfl
      have hT : eqT τ τ1 := fun q a1 _ _ => (o1 q (by omega)).symm
      have hC : MC τ1 s h ru := by
        refine ⟨by rw [o2]; rfl, by rw [o2]; rfl, by rw [o2]; rfl, SOK_c hT hs, HOK_c hT hh, ?_⟩
        rcases hu with hu | hu
        · exact Or.inl hu
        · exact Or.inr (ROK_c hT hu)
      have h11 : τ1 1 h = τ 1 h := by rw [o1 1 (by decide)]
      obtain ⟨τ', e1, F1⟩ := M_w79 hC hY (τ1 1 h).toNat FU 0 τ1 (by omega) (FU_gt (by omega)) ⟨fun _ _ _ => rfl, fun y' r' a1 a2 a3 a4 => by omega, fun y' r' p m k a1 a2 a3 a4 => by omega⟩
      have z0 := F1.1 0 (by decide) (by decide)
      have hT1 := F1.T
      refine ⟨τ', by rw [e0]; exact e1, ⟨fun q a1 a2 a3 => (F1.1 q a2 a3).trans (o1 q a1), fun j hj => ?_⟩, ⟨MC_c z0 hT1.symm hC, by rw [z0, o2]; rfl, hY, fun _ _ _ => rfl, fun y' r' a1 a2 a3 a4 => ?_, fun y' r' p m k a1 a2 a3 a4 a5 a6 a7 a8 a9 => ?_⟩, by rw [z0, o2]; rfl⟩
      · rw [z0, o2, if_neg (by omega), if_neg (by omega), if_neg (by omega), if_neg (by omega), if_neg (by omega)]
      · rw [hT1 1 (by decide) (by decide) (by decide)] at a2
        rw [F1.2.1 y' r' a1 a2 a3 a4, cst_c hT1]
      · rw [hT1 1 (by decide) (by decide) (by decide)] at a2
        have a5' : p = 0 ∨ (p = 1 ∧ cpn τ1 s ru) := by
          unfold cpn at *
          rw [← hT1 11 (by decide) (by decide) (by decide)]; exact a5
        rw [F1.2.2 y' r' p m k a1 a2 a3 a4 a5' a6 a7 a8 a9, ← inM_c hT1, ← funext (cst_c hT1 s h ru _)]
    unfold p_X8_work_41
    rw [zm_eq (a := h) (by omega) (by omega)]
    by_cases c : 2 ≤ h
    · rw [if_pos c, if_neg (by omega)]
      exact key 0 (Or.inl rfl)
    · rw [if_neg c, if_pos (by omega)]
      exact key 1 (Or.inr rfl)
  rcases hwk with hw | ⟨hw, hW, h2⟩
  · unfold p_X8_work
    rw [hw, if_pos (by decide)]
    exact fresh
  · have q28 : 0 ≤ τ 0 28 ∧ τ 0 28 < 4 := hW.1.2.2.2.1.1
    have q29 : 0 ≤ τ 0 29 ∧ τ 0 29 < 3 := hW.1.2.2.2.2.1.1
    have q30 : -1 ≤ τ 0 30 ∧ τ 0 30 < 4 := by
      rcases hW.1.2.2.2.2.2 with hu | hu
      · omega
      · have := hu.1; omega
    have q31 := hW.2.2.1
    unfold p_X8_work
    rw [hw, if_neg (by decide), zm_eq (a := s) (by omega) (by omega), zm_eq (a := τ 0 28) (by omega) (by omega), zm_eq (a := h) (by omega) (by omega), zm_eq (a := τ 0 29) (by omega) (by omega), zm_eq (a := ru) (by omega) (by omega), zm_eq (a := τ 0 30) (by omega) (by omega), zm_eq (a := Y) (by omega) (by omega), zm_eq (a := τ 0 31) (by omega) (by omega)]
    by_cases c1 : s = τ 0 28
    · rw [if_pos c1]
      by_cases c2 : h = τ 0 29
      · rw [if_pos c2]
        by_cases c3 : ru = τ 0 30
        · rw [if_pos c3]
          by_cases c4 : Y = τ 0 31
          · rw [if_pos c4]
            refine ⟨τ, rfl, ⟨fun _ _ _ _ => rfl, fun _ _ => rfl⟩, ?_, by rw [hw, if_pos (by omega)]⟩
            rw [c1, c2, c3, c4]
            exact hW
          · rw [if_neg c4]; exact fresh
        · rw [if_neg c3]; exact fresh
      · rw [if_neg c2]; exact fresh
    · rw [if_neg c1]; exact fresh
