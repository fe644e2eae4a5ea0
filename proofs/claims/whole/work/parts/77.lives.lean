/-! lives by draws -/
theorem zland_nat {a b : Nat} (ha : a < 9223372036854775808) (hb : b < 9223372036854775808) : zland (a : Int) (b : Int) = ((a &&& b : Nat) : Int) := by
  have hab : a &&& b ≤ a := Nat.and_le_left
  unfold zland zJ
  rw [Int64.toInt, Int64.toBitVec_and, Int64.toBitVec_ofInt, Int64.toBitVec_ofInt, BitVec.ofInt_natCast, BitVec.ofInt_natCast]
  have e : (BitVec.ofNat 64 a &&& BitVec.ofNat 64 b).toNat = a &&& b := by
    rw [BitVec.toNat_and, BitVec.toNat_ofNat, BitVec.toNat_ofNat, Nat.mod_eq_of_lt (by omega), Nat.mod_eq_of_lt (by omega)]
  rw [BitVec.toInt_eq_toNat_of_lt (by rw [e]; omega), e]
theorem draw_eq {x : Int} (hx : 0 ≤ x ∧ x < 9223372036854775808) : zland x 2147483647 = (zl x).tmod 2147483648 ∧ 0 ≤ (zl x).tmod 2147483648 ∧ (zl x).tmod 2147483648 ≤ 2147483647 := by
  obtain ⟨n, rfl⟩ := Int.eq_ofNat_of_zero_le hx.1
  rw [zl_eq (by omega) (by omega), Int.tmod_eq_emod_of_nonneg hx.1]
  have e := zland_nat (a := n) (b := 2147483647) (by omega) (by decide)
  have e2 : n &&& 2147483647 = n % 2147483648 := Nat.and_two_pow_sub_one_eq_mod n 31
  rw [e2] at e
  refine ⟨?_, by omega, by omega⟩
  have e3 : (2147483647 : Int) = ((2147483647 : Nat) : Int) := rfl
  rw [e3, e]
  omega
def sF (σ0 σ τ0 τ : St) : Prop := ((∀ q : Int, q ≠ 16 → σ q = σ0 q) ∧ ∀ j : Int, j ≠ 7 → σ 16 j = σ0 16 j) ∧ ((∀ q : Int, q ≠ 0 → τ q = τ0 q) ∧ ∀ j : Int, j ≠ 47 → τ 0 j = τ0 0 j) ∧ σ 16 7 = τ 0 47 ∧ 0 ≤ τ 0 47 ∧ τ 0 47 ≤ 2147483647
theorem Inv.sd {σ σ' τ τ' : St} (hI : Inv σ τ) (f : sF σ σ' τ τ') : Inv σ' τ' := by
  obtain ⟨⟨f1, k1⟩, ⟨f3, k3⟩, e, r0, r1⟩ := f
  obtain ⟨m1, m2⟩ := hI.2.2.2.2
  obtain ⟨c1, c2, c3, c4, c5, c6⟩ := id m1
  refine hI.mem (fun k hk => f1 k (by omega)) (fun k hk => f3 k (by omega)) (fun j j1 j2 j3 => k3 j j3) ?_
  have n33 := k3 33 (by decide)
  have n42 := k3 42 (by decide)
  refine ⟨⟨by rw [k1 3 (by decide), n33]; exact c1, by rw [n33, f1 (16 + 1) (by decide), f1 (16 + 2) (by decide), f1 (16 + 3) (by decide), f3 18 (by decide), f3 19 (by decide), f3 20 (by decide)]; exact c2, by rw [f1 (16 + 3) (by decide)]; exact c3, by rw [k1 6 (by decide), n42]; exact c4, by rw [n42, f1 (16 + 4) (by decide), f1 (16 + 5) (by decide), f3 25 (by decide), f3 26 (by decide)]; exact c5, e, r0, r1⟩, fun v v0 v1 => ?_⟩
  rw [f3 29 (by decide), f3 30 (by decide), f1 (139 + 6 * v) (by omega)]
  obtain ⟨d1, d2⟩ := m2 v v0 v1
  refine ⟨d1, d2.imp id (fun d => ⟨d.1, d.2.fr (fun k k0 k1 => f1 k (by omega))⟩)⟩
theorem draws {σ0 σ τ0 τ : St} (f : sF σ0 σ τ0 τ) : ∃ (σ' τ' : St) (d : Int), p_X2_draw 16 1000 σ = some (d, σ') ∧ p_X8_draw 1000 τ = some (d, τ') ∧ sF σ0 σ' τ0 τ' := by
  obtain ⟨⟨f1, k1⟩, ⟨f3, k3⟩, e, r0, r1⟩ := f
  obtain ⟨q1, q2, q3⟩ := draw_eq (x := τ 0 47 * 1103515245 + 12345) (by omega)
  obtain ⟨V, hV⟩ : ∃ V, (zl (τ 0 47 * 1103515245 + 12345)).tmod 2147483648 = V := ⟨_, rfl⟩
  rw [hV] at q1 q2 q3
  obtain ⟨σ1, e1, a1, b1, c1⟩ := su_ex σ 16 7 V
  obtain ⟨τ1, m1, p1, g1, h1⟩ := su_ex τ 0 47 V
  refine ⟨σ1, τ1, (zm ((zm V).tdiv 65536)).tmod (zm 1000), ?_, ?_, ⟨fun q hq => by rw [a1 q hq, f1 q hq], fun j hj => by rw [c1 j hj, k1 j hj]⟩, ⟨fun q hq => by rw [p1 q hq, f3 q hq], fun j hj => by rw [h1 j hj, k3 j hj]⟩, by rw [b1, g1], by rw [g1]; omega, by rw [g1]; omega⟩
  · unfold p_X2_draw
    rw [e, zm_eq (a := τ 0 47) (by omega) (by omega), q1, nx_eq, e1, if_neg (by decide), gd_pos (by decide), b1]
  · unfold p_X8_draw
    rw [zm_eq (a := τ 0 47) (by omega) (by omega), hV, nx_eq, m1, gd_pos (by decide), g1]
theorem drawn {σ t : St} {o s : Int} (hr : SR σ o t s) (hs : SOK t s) (D : Int) : ∀ (d f n i : Nat) (acc : Int), (i : Int) + d = t 8 s → d < f → d < n → ∃ j : Int, (j = -1 ∨ (0 ≤ j ∧ j < t 8 s)) ∧ p_X6_sumDrawn_4 f o D acc i σ = some (if j < 0 then 0 else t 9 (8 * s + j), σ) ∧ p_X8_drawScrape_13 n s D acc i t = some (j, t) := by
  have h4 := hs.1
  have h8 := hs.2.1
  intro d
  induction d with
  | zero =>
    intro f n i acc hi hf hn
    obtain ⟨f, rfl⟩ := Nat.exists_eq_succ_of_ne_zero (by omega : f ≠ 0)
    obtain ⟨n, rfl⟩ := Nat.exists_eq_succ_of_ne_zero (by omega : n ≠ 0)
    refine ⟨-1, Or.inl rfl, ?_, ?_⟩
    · show p_X6_sumDrawn_4b (p_X6_sumDrawn_4 f) o D acc i σ = _
      unfold p_X6_sumDrawn_4b
      rw [hr.2.1, zm_eq (a := t 8 s) (by omega) (by omega), zm_eq (a := (i : Int)) (by omega) (by omega), if_pos (by omega), if_pos (by decide)]
    · show p_X8_drawScrape_13b (p_X8_drawScrape_13 n) s D acc i t = _
      unfold p_X8_drawScrape_13b
      rw [zm_eq (a := s) (by omega) (by omega), gd_pos (by omega), zm_eq (a := t 8 s) (by omega) (by omega), zm_eq (a := (i : Int)) (by omega) (by omega), if_pos (by omega)]
  | succ d ih =>
    intro f n i acc hi hf hn
    obtain ⟨f, rfl⟩ := Nat.exists_eq_succ_of_ne_zero (by omega : f ≠ 0)
    obtain ⟨n, rfl⟩ := Nat.exists_eq_succ_of_ne_zero (by omega : n ≠ 0)
    obtain ⟨r1, r2⟩ := hr.2.2.1 i (by omega) (by omega)
    have ex : p_X6_sumDrawn_4 (f + 1) o D acc i σ = if zm (acc + t 10 (8 * s + i)) ≤ zm D then p_X6_sumDrawn_4 f o D (acc + t 10 (8 * s + i)) (i + 1) σ else some (t 9 (8 * s + i), σ) := by
      show p_X6_sumDrawn_4b (p_X6_sumDrawn_4 f) o D acc i σ = _
      unfold p_X6_sumDrawn_4b
      rw [hr.2.1, zm_eq (a := t 8 s) (by omega) (by omega), zm_eq (a := (i : Int)) (by omega) (by omega), if_neg (by omega), gd_pos (by omega), r1, r2]
    have em : p_X8_drawScrape_13 (n + 1) s D acc i t = if zm (acc + t 10 (8 * s + i)) ≤ zm D then p_X8_drawScrape_13 n s D (acc + t 10 (8 * s + i)) (i + 1) t else some ((i : Int), t) := by
      show p_X8_drawScrape_13b (p_X8_drawScrape_13 n) s D acc i t = _
      unfold p_X8_drawScrape_13b
      rw [zm_eq (a := s) (by omega) (by omega), gd_pos (by omega), zm_eq (a := t 8 s) (by omega) (by omega), zm_eq (a := (i : Int)) (by omega) (by omega), if_neg (by omega), zm_eq (a := 8 * s + (i : Int)) (by omega) (by omega), gd_pos (by omega)]
    by_cases c : zm (acc + t 10 (8 * s + i)) ≤ zm D
    · rw [if_pos c] at ex em
      obtain ⟨j, j1, j2, j3⟩ := ih f n (i + 1) (acc + t 10 (8 * s + i)) (by omega) (by omega) (by omega)
      exact ⟨j, j1, ex.trans j2, em.trans j3⟩
    · rw [if_neg c] at ex em
      exact ⟨i, Or.inr ⟨by omega, by omega⟩, by rw [ex, if_neg (by omega)], em⟩
theorem sF.SR {σ0 σ τ0 τ : St} {o s : Int} (f : sF σ0 σ τ0 τ) (ho : 27 ≤ o) (h : SR σ0 o τ0 s) (hs : SOK τ0 s) : SR σ o τ s := SR_k (eS.of (fun q a b _ => f.2.1.1 q (by omega))) hs (h.to (f.1.1 _ (by omega)) (f.1.1 _ (by omega)) (f.1.1 _ (by omega)) (f.1.1 _ (by omega)))
theorem sF.T {σ0 σ τ0 τ : St} (f : sF σ0 σ τ0 τ) : eqT τ τ0 := fun q a b _ => f.2.1.1 q (by omega)
theorem lives_months {σ0 τ0 : St} {s h u : Int} (hsr : SR σ0 (27 + 4 * s) τ0 s) (hs : SOK τ0 s) (hhr : HR σ0 (23 + 2 * h) τ0 h) (hh : HOK τ0 h) (h2 : 0 ≤ h ∧ h < 2) (hrr : RR σ0 (115 + 6 * u) τ0 u) (hu : ROK τ0 u) (h29 : τ0 0 29 = h) {N r y : Int} (hr : 0 ≤ r ∧ r < τ0 1 h) (K62 : Int → Int → Int → Int → Int → Int → Int → St → Option (Int × St)) (K67 : Int → Int → Int → Int → Int → Int → Int → St → Option (Int × St)) : ∀ (d f n m : Nat) (σ τ : St) (k A : Int), m + d = 12 → d < f → d < n → sF σ0 σ τ0 τ → (0 ≤ k ∧ k ≤ 3) → ∃ (σ' τ' : St) (k' A' : Int), p_X7_lives_88 K62 f s u N (23 + 2 * h) r A y k m σ = K62 s u N (23 + 2 * h) (nxt τ0 h r k') A' (y + 1) σ' ∧ p_X8_lives_97 K67 n s h u N r A y k m τ = K67 s h u N (nxt τ0 h r k') A' (y + 1) τ' ∧ sF σ0 σ' τ0 τ' ∧ (0 ≤ k' ∧ k' ≤ 3) := by
  have s4 := hs.1
  have u4 := hu.1
  have h10 := hh.2.1
  intro d
  induction d with
  | zero =>
    intro f n m σ τ k A hm hf hn F hk
    obtain ⟨f, rfl⟩ := Nat.exists_eq_succ_of_ne_zero (by omega : f ≠ 0)
    obtain ⟨n, rfl⟩ := Nat.exists_eq_succ_of_ne_zero (by omega : n ≠ 0)
    have hhr' : HR σ (23 + 2 * h) τ0 h := hhr.to (F.1.1 _ (by omega)) (F.1.1 _ (by omega))
    have hhτ : HOK τ h := HOK_c F.T.symm hh
    have t1 : τ 1 h = τ0 1 h := by rw [F.2.1.1 1 (by decide)]
    refine ⟨σ, τ, k, A, ?_, ?_, F, hk⟩
    · show p_X7_lives_88b K62 (p_X7_lives_88 K62 f) s u N (23 + 2 * h) r A y k m σ = _
      unfold p_X7_lives_88b
      rw [zm_eq (a := (m : Int)) (by omega) (by omega), if_pos (by omega), X_rungAfter hhr' hh hr hk]
      simp only [bnd_some]
    · show p_X8_lives_97b K67 (p_X8_lives_97 K67 n) s h u N r A y k m τ = _
      unfold p_X8_lives_97b
      rw [zm_eq (a := (m : Int)) (by omega) (by omega), if_pos (by omega), M_nextOf hhτ (by omega) hk]
      simp only [bnd_some]
      rw [nxt_c F.T]
  | succ d ih =>
    intro f n m σ τ k A hm hf hn F hk
    obtain ⟨f, rfl⟩ := Nat.exists_eq_succ_of_ne_zero (by omega : f ≠ 0)
    obtain ⟨n, rfl⟩ := Nat.exists_eq_succ_of_ne_zero (by omega : n ≠ 0)
    obtain ⟨σ1, τ1, D, x1, m1, F1⟩ := draws F
    have sr1 := F1.SR (by omega) hsr hs
    have hs1 : SOK τ1 s := SOK_c F1.T.symm hs
    have h8 := hs1.2.1
    obtain ⟨j, jb, x2, m2⟩ := drawn sr1 hs1 D (τ1 8 s).toNat FU FU 0 0 (by omega) (FU_gt (by omega)) (FU_gt (by omega))
    have x2' : p_X6_sumDrawn (27 + 4 * s) D σ1 = some (if j < 0 then 0 else τ1 9 (8 * s + j), σ1) := by
      unfold p_X6_sumDrawn
      exact x2
    have m2' : p_X8_drawScrape s τ = some (j, τ1) := by
      unfold p_X8_drawScrape
      rw [m1]
      simp only [bnd_some]
      exact m2
    have hmk := mo_bd hk
    by_cases c : j < 0
    · rw [if_pos c] at x2'
      obtain ⟨σ', τ', k', A', y1, y2, y3⟩ := ih f n (m + 1) σ1 τ1 k A (by omega) (by omega) (by omega) F1 hk
      refine ⟨σ', τ', k', A', ?_, ?_, y3⟩
      · refine Eq.trans ?_ y1
        show p_X7_lives_88b K62 (p_X7_lives_88 K62 f) s u N (23 + 2 * h) r A y k m σ = _
        unfold p_X7_lives_88b p_X7_lives_143 p_X7_lives_144 p_X7_lives_165 p_X7_lives_183
        rw [zm_eq (a := (m : Int)) (by omega) (by omega), if_neg (by omega), zm_eq (a := s) (by omega) (by omega), gd_pos (by omega), x1]
        simp only [bnd_some]
        rw [x2']
        simp only [bnd_some]
        rw [if_pos (show zm 0 ≤ 0 by decide), if_pos (show zm 0 = 0 by decide), if_pos (show zm 0 = 0 by decide), Int.add_zero]
        rfl
      · refine Eq.trans ?_ y2
        show p_X8_lives_97b K67 (p_X8_lives_97 K67 n) s h u N r A y k m τ = _
        unfold p_X8_lives_97b p_X8_lives_182
        rw [zm_eq (a := (m : Int)) (by omega) (by omega), if_neg (by omega), m2']
        simp only [bnd_some]
        rw [zm_eq (a := j) (by omega) (by omega), if_pos c]
        rfl
    · rw [if_neg c] at x2'
      have jb' : 0 ≤ j ∧ j < τ1 8 s := by omega
      have Sb := hs1.2.2.1 j jb'.1 jb'.2
      obtain ⟨S, hS⟩ : ∃ S, τ1 9 (8 * s + j) = S := ⟨_, rfl⟩
      rw [hS] at x2' Sb
      have hhr1 : HR σ1 (23 + 2 * h) τ0 h := hhr.to (F1.1.1 _ (by omega)) (F1.1.1 _ (by omega))
      have hrr1 : RR σ1 (115 + 6 * u) τ0 u := hrr.to (F1.1.1 _ (by omega)) (F1.1.1 _ (by omega)) (F1.1.1 _ (by omega)) (F1.1.1 _ (by omega)) (F1.1.1 _ (by omega)) (F1.1.1 _ (by omega))
      have hu1 : ROK τ1 u := ROK_c F1.T.symm hu
      have hh1 : HOK τ1 h := HOK_c F1.T.symm hh
      have xb := X_barOn (r := r) (m := (m : Int)) hrr1 hu (by omega) (by omega)
      have mb := M_asksBy (r := r) (m := (m : Int)) (S := S) hu1 (by omega) (by omega) (by omega)
      rw [brc_ F1.T] at mb
      have xbe := X_bears (S := S) hhr1 hh (by omega)
      have mbe := M_bears (S := S) (by rw [F1.2.1.2 29 (by decide)]; exact h29) hh1 (by omega)
      rw [bea_c F1.T] at mbe
      obtain ⟨B, hB⟩ : ∃ B, br τ0 u r m = B := ⟨_, rfl⟩
      have bb := br_bd (r := r) (m := (m : Int)) hu
      rw [hB] at xb mb bb
      by_cases q : B ≤ S
      · obtain ⟨σ', τ', k', A', y1, y2, y3⟩ := ih f n (m + 1) σ1 τ1 (mo k) (A + bea τ0 h S) (by omega) (by omega) (by omega) F1 hmk
        refine ⟨σ', τ', k', A', ?_, ?_, y3⟩
        · refine Eq.trans ?_ y1
          show p_X7_lives_88b K62 (p_X7_lives_88 K62 f) s u N (23 + 2 * h) r A y k m σ = _
          unfold p_X7_lives_88b p_X7_lives_144 p_X7_lives_165 p_X7_lives_183
          rw [zm_eq (a := (m : Int)) (by omega) (by omega), if_neg (by omega), zm_eq (a := s) (by omega) (by omega), gd_pos (by omega), x1]
          simp only [bnd_some]
          rw [x2']
          simp only [bnd_some]
          rw [zm_eq (a := S) (by omega) (by omega), if_neg (by omega), zm_eq (a := u) (by omega) (by omega), gd_pos (by omega), xb]
          simp only [bnd_some]
          rw [zm_eq (a := B) (by omega) (by omega), if_neg (show ¬ S < B by omega), if_neg (show ¬ zm 1 = 0 by decide), xbe]
          simp only [bnd_some]
          rw [if_neg (show ¬ zm 1 = 0 by decide), X_oneMore hk]
          simp only [bnd_some]
          rfl
        · refine Eq.trans ?_ y2
          show p_X8_lives_97b K67 (p_X8_lives_97 K67 n) s h u N r A y k m τ = _
          unfold p_X8_lives_97b p_X8_lives_161 p_X8_lives_180 p_X8_lives_182
          rw [zm_eq (a := (m : Int)) (by omega) (by omega), if_neg (by omega), m2']
          simp only [bnd_some]
          rw [zm_eq (a := j) (by omega) (by omega), if_neg c, zm_eq (a := 8 * s + j) (by omega) (by omega), gd_pos (by omega), hS, mb, if_pos q]
          simp only [bnd_some]
          rw [if_neg (show ¬ zm 1 = 0 by decide), mbe]
          simp only [bnd_some]
          rw [if_neg (show ¬ zm 1 = 0 by decide), M_more hk]
          simp only [bnd_some]
          rfl
      · obtain ⟨σ', τ', k', A', y1, y2, y3⟩ := ih f n (m + 1) σ1 τ1 k (A + S) (by omega) (by omega) (by omega) F1 hk
        refine ⟨σ', τ', k', A', ?_, ?_, y3⟩
        · refine Eq.trans ?_ y1
          show p_X7_lives_88b K62 (p_X7_lives_88 K62 f) s u N (23 + 2 * h) r A y k m σ = _
          unfold p_X7_lives_88b p_X7_lives_143 p_X7_lives_144 p_X7_lives_165 p_X7_lives_183
          rw [zm_eq (a := (m : Int)) (by omega) (by omega), if_neg (by omega), zm_eq (a := s) (by omega) (by omega), gd_pos (by omega), x1]
          simp only [bnd_some]
          rw [x2']
          simp only [bnd_some]
          rw [zm_eq (a := S) (by omega) (by omega), if_neg (by omega), zm_eq (a := u) (by omega) (by omega), gd_pos (by omega), xb]
          simp only [bnd_some]
          rw [zm_eq (a := B) (by omega) (by omega), if_pos (show S < B by omega), if_pos (show zm 0 = 0 by decide), if_pos (show zm 0 = 0 by decide)]
          rfl
        · refine Eq.trans ?_ y2
          show p_X8_lives_97b K67 (p_X8_lives_97 K67 n) s h u N r A y k m τ = _
          unfold p_X8_lives_97b p_X8_lives_161 p_X8_lives_180 p_X8_lives_182
          rw [zm_eq (a := (m : Int)) (by omega) (by omega), if_neg (by omega), m2']
          simp only [bnd_some]
          rw [zm_eq (a := j) (by omega) (by omega), if_neg c, zm_eq (a := 8 * s + j) (by omega) (by omega), gd_pos (by omega), hS, mb, if_neg q]
          simp only [bnd_some]
          rw [if_pos (show zm 0 = 0 by decide), if_pos (show zm 0 = 0 by decide)]
          rfl
theorem lives_years {σ0 τ0 : St} {s h u : Int} (hsr : SR σ0 (27 + 4 * s) τ0 s) (hs : SOK τ0 s) (hhr : HR σ0 (23 + 2 * h) τ0 h) (hh : HOK τ0 h) (h2 : 0 ≤ h ∧ h < 2) (hrr : RR σ0 (115 + 6 * u) τ0 u) (hu : ROK τ0 u) (h29 : τ0 0 29 = h) {N : Int} (hN : 1 ≤ N ∧ N ≤ 30) : ∀ (d f n y : Nat) (σ τ : St) (r A : Int), (y : Int) + d = N → d < f → d < n → sF σ0 σ τ0 τ → (0 ≤ r ∧ r < τ0 1 h) → ∃ (σ' τ' : St) (A' : Int), p_X7_lives_62 f s u N (23 + 2 * h) r A y σ = some (A', σ') ∧ p_X8_lives_67 n s h u N r A y τ = some (A', τ') ∧ sF σ0 σ' τ0 τ' := by
  have h10 := hh.2.1
  intro d
  induction d with
  | zero =>
    intro f n y σ τ r A hy hf hn F hr
    obtain ⟨f, rfl⟩ := Nat.exists_eq_succ_of_ne_zero (by omega : f ≠ 0)
    obtain ⟨n, rfl⟩ := Nat.exists_eq_succ_of_ne_zero (by omega : n ≠ 0)
    refine ⟨σ, τ, A, ?_, ?_, F⟩
    · show p_X7_lives_62b (p_X7_lives_62 f) s u N (23 + 2 * h) r A y σ = _
      unfold p_X7_lives_62b
      rw [zm_eq (a := N) (by omega) (by omega), zm_eq (a := (y : Int)) (by omega) (by omega), if_pos (by omega)]
    · show p_X8_lives_67b (p_X8_lives_67 n) s h u N r A y τ = _
      unfold p_X8_lives_67b
      rw [zm_eq (a := N) (by omega) (by omega), zm_eq (a := (y : Int)) (by omega) (by omega), if_pos (by omega)]
  | succ d ih =>
    intro f n y σ τ r A hy hf hn F hr
    obtain ⟨f, rfl⟩ := Nat.exists_eq_succ_of_ne_zero (by omega : f ≠ 0)
    obtain ⟨n, rfl⟩ := Nat.exists_eq_succ_of_ne_zero (by omega : n ≠ 0)
    obtain ⟨σ1, τ1, k1, A1, x1, m1, F1, hk1⟩ := lives_months hsr hs hhr hh h2 hrr hu h29 (N := N) (r := r) (y := (y : Int)) hr (p_X7_lives_62 f) (p_X8_lives_67 n) 12 FU FU 0 σ τ 0 (A + τ0 2 (10 * h + r)) (by omega) (FU_gt (by omega)) (FU_gt (by omega)) F (by decide)
    have nb := nxt_bd hh hr hk1
    obtain ⟨σ', τ', A', y1, y2, y3⟩ := ih f n (y + 1) σ1 τ1 (nxt τ0 h r k1) A1 (by omega) (by omega) (by omega) F1 nb
    have z0 : ((0 : Nat) : Int) = 0 := rfl
    rw [z0] at x1 m1
    refine ⟨σ', τ', A', ?_, ?_, y3⟩
    · refine Eq.trans ?_ y1
      show p_X7_lives_62b (p_X7_lives_62 f) s u N (23 + 2 * h) r A y σ = _
      unfold p_X7_lives_62b
      rw [zm_eq (a := N) (by omega) (by omega), zm_eq (a := (y : Int)) (by omega) (by omega), if_neg (by omega), zm_eq (a := r) (by omega) (by omega), gd_pos (by omega), F.1.1 (23 + 2 * h + 1) (by omega), hhr.2.2.2.2.2.2.2 r hr.1 hr.2, x1]
      rfl
    · refine Eq.trans ?_ y2
      show p_X8_lives_67b (p_X8_lives_67 n) s h u N r A y τ = _
      unfold p_X8_lives_67b
      rw [zm_eq (a := N) (by omega) (by omega), zm_eq (a := (y : Int)) (by omega) (by omega), if_neg (by omega), zm_eq (a := 10 * h + r) (by omega) (by omega), gd_pos (by omega), F.2.1.1 2 (by decide), m1]
      rfl
theorem ok_lives {a1 a2 a3 a4 : Int} (h1 : i32 a1) (h2 : i32 a2) (h3 : i32 a3) (h4 : i32 a4) : StepOK Inv (p_X7_lives a1 a2 a3 a4) (p_X8_lives a1 a2 a3 a4) := fun σ τ hI => by
  have hw := hI.2.1
  by_cases c1 : cS τ a1
  rotate_left
  · refine st_eq (a := -1000000001) ?_ ?_ hI
    · unfold p_X7_lives
      rw [X_isSort hw h1, if_neg c1]
      simp only [bnd_some, zm0t, zm1n, if_true, if_false]
    · unfold p_X8_lives
      rw [M_isSort hw h1, if_neg c1]
      simp only [bnd_some, zm0t, zm1n, if_true, if_false]
  by_cases c2 : cH τ a2
  rotate_left
  · refine st_eq (a := -1000000001) ?_ ?_ hI
    · unfold p_X7_lives
      rw [X_isSort hw h1, if_pos c1]
      simp only [bnd_some, zm0t, zm1n, if_true, if_false]
      rw [X_isHouse hw h2, if_neg c2]
      simp only [bnd_some, zm0t, zm1n, if_true, if_false]
    · unfold p_X8_lives
      rw [M_isSort hw h1, if_pos c1]
      simp only [bnd_some, zm0t, zm1n, if_true, if_false]
      rw [M_isHouse hw h2, if_neg c2]
      simp only [bnd_some, zm0t, zm1n, if_true, if_false]
  by_cases c3 : cU τ a3
  rotate_left
  · refine st_eq (a := -1000000001) ?_ ?_ hI
    · unfold p_X7_lives
      rw [X_isSort hw h1, if_pos c1]
      simp only [bnd_some, zm0t, zm1n, if_true, if_false]
      rw [X_isHouse hw h2, if_pos c2]
      simp only [bnd_some, zm0t, zm1n, if_true, if_false]
      rw [X_isRule hw h3, if_neg c3]
      simp only [bnd_some, zm0t, zm1n, if_true, if_false]
    · unfold p_X8_lives
      rw [M_isSort hw h1, if_pos c1]
      simp only [bnd_some, zm0t, zm1n, if_true, if_false]
      rw [M_isHouse hw h2, if_pos c2]
      simp only [bnd_some, zm0t, zm1n, if_true, if_false]
      rw [M_isRule hw h3, if_neg c3]
      simp only [bnd_some, zm0t, zm1n, if_true, if_false]
  by_cases c4 : 1 ≤ a4 ∧ a4 ≤ 30
  rotate_left
  · refine st_eq (a := -1000000002) ?_ ?_ hI
    · unfold p_X7_lives
      rw [X_isSort hw h1, if_pos c1]
      simp only [bnd_some, zm0t, zm1n, if_true, if_false]
      rw [X_isHouse hw h2, if_pos c2]
      simp only [bnd_some, zm0t, zm1n, if_true, if_false]
      rw [X_isRule hw h3, if_pos c3]
      simp only [bnd_some, zm0t, zm1n, if_true, if_false]
      rw [X_isOut h4 ⟨by decide, by decide⟩ ⟨by decide, by decide⟩, if_neg c4]
      simp only [bnd_some, zm0t, zm1n, if_true, if_false]
    · unfold p_X8_lives
      rw [M_isSort hw h1, if_pos c1]
      simp only [bnd_some, zm0t, zm1n, if_true, if_false]
      rw [M_isHouse hw h2, if_pos c2]
      simp only [bnd_some, zm0t, zm1n, if_true, if_false]
      rw [M_isRule hw h3, if_pos c3]
      simp only [bnd_some, zm0t, zm1n, if_true, if_false]
      rw [M_wi h4 ⟨by decide, by decide⟩ ⟨by decide, by decide⟩, if_neg c4]
      simp only [bnd_some, zm0t, zm1n, if_true, if_false]
  have g1 := c2.1
  obtain ⟨τ1, e1, p1, q1, r1⟩ := su_ex τ 0 29 a2
  obtain ⟨τ2, e2, p2, q2, r2⟩ := su_ex τ1 0 32 0
  have tq : ∀ q : Int, q ≠ 0 → τ2 q = τ q := fun q hq => by rw [p2 q hq, p1 q hq]
  have t0 : ∀ j : Int, j ≠ 29 → j ≠ 32 → τ2 0 j = τ 0 j := fun j h1 h2 => by rw [r2 j h2, r1 j h1]
  have T : eqT τ2 τ := fun q a b _ => tq q (by omega)
  have W : eW τ τ2 := eW.of T (t0 7 (by decide) (by decide)) (t0 23 (by decide) (by decide))
  have hI2 : Inv σ τ2 := by
    obtain ⟨i1, i2, i3, i4, i5⟩ := hI
    exact ⟨i1.fr rfl rfl rfl (t0 15 (by decide) (by decide)) (t0 14 (by decide) (by decide)) (tq 13 (by decide)), i2.fr rfl rfl (fun _ _ _ => rfl) (fun _ _ _ => rfl) W, IP.fr i2 i3 (fun _ _ _ => rfl) rfl W, Or.inl q2, i5.fr (fun _ _ _ => rfl) (fun _ _ _ => rfl) ⟨t0 33 (by decide) (by decide), t0 42 (by decide) (by decide), t0 47 (by decide) (by decide)⟩ (fun k hk => tq k (by omega))⟩
  have ch : cH τ2 a2 := by unfold cH; rw [tq 1 (by decide)]; exact c2
  have cs : cS τ2 a1 := by unfold cS; rw [W.1]; exact c1
  have cu : cU τ2 a3 := by unfold cU; rw [W.2.1]; exact c3
  obtain ⟨hhr, hh⟩ := hI2.2.1.hr ch
  obtain ⟨hsr, hs⟩ := hI2.2.1.2.2.1 a1 cs.1 cs.2
  obtain ⟨hrr, hu⟩ := hI2.2.1.2.2.2.2 a3 cu.1 cu.2
  have m7 := hI2.2.2.2.2.1.2.2.2.2.2
  have h7 := hh.2.2.2.2.2.2
  obtain ⟨σ', τ', A, x, m, F⟩ := lives_years hsr hs hhr hh g1 hrr hu (by rw [r2 29 (by decide), q1]) c4 a4.toNat FU FU 0 σ τ2 (τ2 7 a2) 0 (by omega) (FU_gt (by omega)) (FU_gt (by omega)) ⟨⟨fun _ _ => rfl, fun _ _ => rfl⟩, ⟨fun _ _ => rfl, fun _ _ => rfl⟩, m7⟩ h7
  have z0 : ((0 : Nat) : Int) = 0 := rfl
  rw [z0] at x m
  refine st_eq (a := A) ?_ ?_ (hI2.sd F)
  · unfold p_X7_lives
    rw [X_isSort hw h1, if_pos c1]
    simp only [bnd_some, zm0t, zm1n, if_true, if_false]
    rw [X_isHouse hw h2, if_pos c2]
    simp only [bnd_some, zm0t, zm1n, if_true, if_false]
    rw [X_isRule hw h3, if_pos c3]
    simp only [bnd_some, zm0t, zm1n, if_true, if_false]
    rw [X_isOut h4 ⟨by decide, by decide⟩ ⟨by decide, by decide⟩, if_pos c4]
    simp only [bnd_some, zm0t, zm1n, if_true, if_false]
    rw [zm_i h2, gd_pos (by omega), hhr.2.2.2.2.2.2.1]
    exact x
  · unfold p_X8_lives
    rw [M_isSort hw h1, if_pos c1]
    simp only [bnd_some, zm0t, zm1n, if_true, if_false]
    rw [M_isHouse hw h2, if_pos c2]
    simp only [bnd_some, zm0t, zm1n, if_true, if_false]
    rw [M_isRule hw h3, if_pos c3]
    simp only [bnd_some, zm0t, zm1n, if_true, if_false]
    rw [M_wi h4 ⟨by decide, by decide⟩ ⟨by decide, by decide⟩, if_pos c4]
    simp only [bnd_some, zm0t, zm1n, if_true, if_false]
    rw [nx_eq, e1, nx_eq, e2, zm_i h2, gd_pos (by omega)]
    exact m
