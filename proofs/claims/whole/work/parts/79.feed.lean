/-! feed -/
theorem low8 (x : BitVec 64) {k : Nat} (hk : k ≤ 56) : (x.sshiftRight k).toNat % 256 = (x >>> k).toNat % 256 := by
  have e : (x.sshiftRight k).setWidth 8 = (x >>> k).setWidth 8 := by
    apply BitVec.eq_of_getLsbD_eq
    intro j hj
    rw [BitVec.getLsbD_setWidth, BitVec.getLsbD_setWidth, BitVec.getLsbD_sshiftRight, BitVec.getLsbD_ushiftRight, if_pos (by omega)]
    have h1 : decide (64 ≤ j) = false := decide_eq_false (by omega)
    rw [h1]
    rfl
  have h := congrArg BitVec.toNat e
  rw [BitVec.toNat_setWidth, BitVec.toNat_setWidth] at h
  exact h
theorem seW (x : BitVec 64) : BitVec.ofInt 32 x.toInt = x.setWidth 32 := BitVec.signExtend_eq_setWidth_of_le x (by decide)
theorem m255 (n : Nat) : n &&& 255 = n % 256 := Nat.and_two_pow_sub_one_eq_mod n 8
theorem amt_s : ∀ i : Nat, i < 8 → (((zI ((8 * i : Nat) : Int)).toInt64 &&& 63).toBitVec.smod 64).toNat = 8 * i := by decide +kernel
theorem amt_u : ∀ i : Nat, i < 8 → ((((zI ((8 * i : Nat) : Int)).toInt64.toUInt64 &&& Int64.toUInt64 63)).toBitVec % 64).toNat = 8 * i := by decide +kernel
theorem byte_m (v : Int) {i : Nat} (hi : i < 8) : zland (zlshr v ((8 * i : Nat) : Int)) 255 = (((zJ v).toBitVec >>> (8 * i)).toNat % 256 : Nat) := by
  unfold zland zlshr
  rw [zJ_of, Int64.toInt, Int64.toBitVec_and, Int64.toBitVec_shiftRight, BitVec.sshiftRight', amt_s i hi]
  have e : ((zJ v).toBitVec.sshiftRight (8 * i) &&& (zJ 255).toBitVec).toNat = ((zJ v).toBitVec >>> (8 * i)).toNat % 256 := by
    rw [BitVec.toNat_and, show (zJ 255).toBitVec.toNat = 255 by decide +kernel, m255, low8 _ (by omega)]
  rw [BitVec.toInt_eq_toNat_of_lt (by rw [e]; omega), e]
theorem byte_x (v : Int) {i : Nat} (hi : i < 8) : zand (zlushr v ((8 * i : Nat) : Int)) 255 = (((zJ v).toBitVec >>> (8 * i)).toNat % 256 : Nat) := by
  unfold zand zlushr
  have e0 : ((zJ v).toUInt64 >>> ((zI ((8 * i : Nat) : Int)).toInt64.toUInt64 &&& Int64.toUInt64 63)).toInt64.toBitVec = (zJ v).toBitVec >>> (8 * i) := by
    rw [UInt64.toBitVec_toInt64, UInt64.toBitVec_shiftRight, Int64.toBitVec_toUInt64, BitVec.ushiftRight_eq', amt_u i hi]
  have e1 : (zI ((zJ v).toUInt64 >>> ((zI ((8 * i : Nat) : Int)).toInt64.toUInt64 &&& Int64.toUInt64 63)).toInt64.toInt).toBitVec = ((zJ v).toBitVec >>> (8 * i)).setWidth 32 := by
    unfold zI
    rw [Int32.toBitVec_ofInt, Int64.toInt]
    unfold zI at e0
    rw [e0, seW]
  rw [Int32.toInt, Int32.toBitVec_and, e1]
  have e : (((zJ v).toBitVec >>> (8 * i)).setWidth 32 &&& (zI 255).toBitVec).toNat = ((zJ v).toBitVec >>> (8 * i)).toNat % 256 := by
    rw [BitVec.toNat_and, show (zI 255).toBitVec.toNat = 255 by decide +kernel, m255, BitVec.toNat_setWidth]
    omega
  rw [BitVec.toInt_eq_toNat_of_lt (by rw [e]; omega), e]
theorem feed_loop {v : Int} : ∀ (d f n : Nat) (σ τ : St), d < f → d < n → d ≤ 8 → Inv σ τ → τ 0 14 + d ≤ 300 → ∃ (a : Int) (σ' τ' : St), p_X7_feed_36 f v ((d : Int) - 1) σ = some (a, σ') ∧ p_X8_feed_35 n v ((d : Int) - 1) τ = some (a, τ') ∧ Inv σ' τ' := by
  intro d
  induction d with
  | zero =>
    intro f n σ τ hf hn h8 hI hL
    obtain ⟨f, rfl⟩ := Nat.exists_eq_succ_of_ne_zero (by omega : f ≠ 0)
    obtain ⟨n, rfl⟩ := Nat.exists_eq_succ_of_ne_zero (by omega : n ≠ 0)
    refine ⟨τ 0 14, σ, τ, ?_, ?_, hI⟩
    · show p_X7_feed_36b (p_X7_feed_36 f) v _ σ = _
      unfold p_X7_feed_36b
      rw [if_pos (by decide), hI.1.2.1]
    · show p_X8_feed_35b (p_X8_feed_35 n) v _ τ = _
      unfold p_X8_feed_35b
      rw [if_pos (by decide)]
  | succ d ih =>
    intro f n σ τ hf hn h8 hI hL
    obtain ⟨f, rfl⟩ := Nat.exists_eq_succ_of_ne_zero (by omega : f ≠ 0)
    obtain ⟨n, rfl⟩ := Nat.exists_eq_succ_of_ne_zero (by omega : n ≠ 0)
    obtain ⟨i1, i2, i3, i4, i5⟩ := hI
    obtain ⟨it1, it2, it3, it4⟩ := i1
    obtain ⟨l, hl⟩ : ∃ l, τ 0 14 = l := ⟨_, rfl⟩
    rw [hl] at it2 it3 it4
    obtain ⟨b, hb⟩ : ∃ b : Int, b = (((zJ v).toBitVec >>> (8 * d)).toNat % 256 : Nat) := ⟨_, rfl⟩
    have bx : zand (zlushr v (8 * (d : Int))) 255 = b := by
      rw [hb, ← byte_x v (i := d) (by omega), show 8 * (d : Int) = ((8 * d : Nat) : Int) by omega]
    have bm : zland (zlshr v (8 * (d : Int))) 255 = b := by
      rw [hb, ← byte_m v (i := d) (by omega), show 8 * (d : Int) = ((8 * d : Nat) : Int) by omega]
    have bb : 0 ≤ b ∧ b ≤ 255 := by omega
    obtain ⟨s1, e1, u1, v1, w1⟩ := su_ex σ 2 l b
    obtain ⟨s2, e2, u2, v2, w2⟩ := su_ex s1 1 1 (s1 1 1 + 1)
    obtain ⟨t1, m1, a1, b1, c1⟩ := su_ex τ 13 l b
    obtain ⟨t2, m2, a2, b2, c2⟩ := su_ex t1 0 14 (t1 0 14 + 1)
    have z11 : s1 1 1 = l := by rw [u1 1 (by decide), it2]
    have z14 : t1 0 14 = l := by rw [a1 0 (by decide), hl]
    have T : eqT t2 τ := fun q h1 h2 h3 => by rw [a2 q (by omega), a1 q h3]
    have j0 : ∀ j : Int, j ≠ 14 → t2 0 j = τ 0 j := fun j hj => by rw [c2 j hj, a1 0 (by decide)]
    have W : eW τ t2 := eW.of T (j0 7 (by decide)) (j0 23 (by decide))
    have sx : ∀ k : Int, k ≠ 1 → k ≠ 2 → s2 k = σ k := fun k h1 h2 => by rw [u2 k h1, u1 k h2]
    have tr : ∀ q : Int, q ≠ 0 → q ≠ 13 → t2 q = τ q := fun q h1 h2 => by rw [a2 q h1, a1 q h2]
    have hI2 : Inv s2 t2 := by
      refine ⟨⟨by rw [sx 0 (by decide) (by decide), j0 15 (by decide)]; exact it1, by rw [v2, b2, z11, z14], by rw [b2, z14]; omega, fun i i0 i1 => ?_⟩, i2.fr (by rw [sx 0 (by decide) (by decide)]) (by rw [sx 0 (by decide) (by decide)]) (fun k h1 h2 => sx k (by omega) (by omega)) (fun k h1 h2 => sx k (by omega) (by omega)) W, IP.fr i2 i3 (fun k h1 h2 => sx k (by omega) (by omega)) (sx 108 (by decide) (by decide)) W, IC.fr i2 i4 (fun j h1 h2 => j0 j (by omega)) (tr 16 (by decide) (by decide)) (tr 17 (by decide) (by decide)) W, i5.fr (fun k h1 h2 => sx k (by omega) (by omega)) (fun k h1 h2 => sx k (by omega) (by omega)) ⟨j0 33 (by decide), j0 42 (by decide), j0 47 (by decide)⟩ (fun k hk => tr k (by omega) (by omega))⟩
      rw [b2, z14] at i1
      rw [u2 2 (by decide), a2 13 (by decide)]
      by_cases z : i = l
      · rw [z, v1, b1]; exact ⟨rfl, bb⟩
      · rw [w1 i z, c1 i z]; exact it4 i i0 (by omega)
    obtain ⟨a, σ', τ', x, m, hI3⟩ := ih f n s2 t2 (by omega) (by omega) (by omega) hI2 (by rw [b2, z14]; omega)
    refine ⟨a, σ', τ', ?_, ?_, hI3⟩
    · refine Eq.trans ?_ x
      show p_X7_feed_36b (p_X7_feed_36 f) v (((d + 1 : Nat) : Int) - 1) σ = _
      rw [show ((d + 1 : Nat) : Int) - 1 = (d : Int) by omega]
      unfold p_X7_feed_36b p_X4_add
      rw [zm_eq (a := (d : Int)) (by omega) (by omega), if_neg (by omega), bx, it2, zm_eq (a := l) (by omega) (by omega), if_neg (by omega), gd_pos (by omega), c11, nx_eq, e1, nx_eq, e2]
      simp only [bnd_some]
      rw [show (d : Int) + (-1) = (d : Int) - 1 by omega]
    · refine Eq.trans ?_ m
      show p_X8_feed_35b (p_X8_feed_35 n) v (((d + 1 : Nat) : Int) - 1) τ = _
      rw [show ((d + 1 : Nat) : Int) - 1 = (d : Int) by omega]
      unfold p_X8_feed_35b
      rw [zm_eq (a := (d : Int)) (by omega) (by omega), if_neg (by omega), bm, hl, zm_eq (a := l) (by omega) (by omega), gd_pos (by omega), nx_eq, m1, nx_eq, m2, show (d : Int) + (-1) = (d : Int) - 1 by omega]
theorem ok_feed {a1 a2 : Int} (h1 : i32 a1) : StepOK Inv (p_X7_feed a1 a2) (p_X8_feed a1 a2) := fun σ τ hI => by
  obtain ⟨it1, it2, it3, it4⟩ := hI.1
  by_cases c1 : 1 ≤ a1 ∧ a1 ≤ 8
  rotate_left
  · refine st_eq (a := -1000000002) ?_ ?_ hI
    · unfold p_X7_feed
      rw [X_isOut h1 ⟨by decide, by decide⟩ ⟨by decide, by decide⟩, if_neg c1]
      simp only [bnd_some, zm0t, zm1n, if_true, if_false]
    · unfold p_X8_feed
      rw [M_wi h1 ⟨by decide, by decide⟩ ⟨by decide, by decide⟩, if_neg c1]
      simp only [bnd_some, zm0t, zm1n, if_true, if_false]
  have xx : p_X7_feed a1 a2 σ = if τ 0 14 + a1 ≤ 300 then p_X7_feed_36 FU a2 (a1 - 1) σ else some (-1000000004, σ) := by
    unfold p_X7_feed
    rw [X_isOut h1 ⟨by decide, by decide⟩ ⟨by decide, by decide⟩, if_pos c1]
    simp only [bnd_some, zm0t, zm1n, if_true, if_false]
    rw [it2, zm_eq (a := τ 0 14 + a1) (by omega) (by omega)]
  have mm : p_X8_feed a1 a2 τ = if τ 0 14 + a1 ≤ 300 then p_X8_feed_35 FU a2 (a1 - 1) τ else some (-1000000004, τ) := by
    unfold p_X8_feed
    rw [M_wi h1 ⟨by decide, by decide⟩ ⟨by decide, by decide⟩, if_pos c1]
    simp only [bnd_some, zm0t, zm1n, if_true, if_false]
    rw [zm_eq (a := τ 0 14 + a1) (by omega) (by omega)]
  by_cases c2 : τ 0 14 + a1 ≤ 300
  · rw [if_pos c2] at xx mm
    obtain ⟨a, σ', τ', x, m, hI'⟩ := feed_loop (v := a2) a1.toNat FU FU σ τ (FU_gt (by omega)) (FU_gt (by omega)) (by omega) hI (by omega)
    rw [show ((a1.toNat : Nat) : Int) - 1 = a1 - 1 by omega] at x m
    exact st_eq (xx.trans x) (mm.trans m) hI'
  · rw [if_neg c2] at xx mm
    exact st_eq xx mm hI
theorem lawOK : LawOK Inv := ⟨fun _ _ h1 => ok_feed h1, fun _ h1 => ok_house h1, ok_sort, ok_rule, ok_fault, fun _ _ h1 h2 => ok_told h1 h2, fun _ _ h1 h2 => ok_pays h1 h2, fun _ _ _ h1 h2 h3 => ok_next h1 h2 h3, fun _ _ h1 h2 => ok_scrapes h1 h2, fun _ _ _ _ _ h1 h2 h3 h4 h5 => ok_cost h1 h2 h3 h4 h5, fun _ _ _ _ _ _ _ _ h1 h2 h3 h4 h5 h6 h7 h8 => ok_in h1 h2 h3 h4 h5 h6 h7 h8, fun _ _ _ _ _ h1 h2 h3 h4 h5 => ok_takes h1 h2 h3 h4 h5, fun _ _ _ _ _ _ _ _ h1 h2 h3 h4 h5 h6 h7 h8 => ok_bar h1 h2 h3 h4 h5 h6 h7 h8, fun _ _ _ _ _ _ h1 h2 h3 h4 h5 h6 => ok_fixed h1 h2 h3 h4 h5 h6, fun _ _ _ h1 h2 h3 => ok_scrape h1 h2 h3, fun _ _ _ _ _ h1 h2 h3 h4 h5 => ok_judge h1 h2 h3 h4 h5, fun _ _ _ _ _ _ h1 h2 h3 h4 h5 h6 => ok_standing h1 h2 h3 h4 h5 h6, fun _ _ _ _ _ _ h1 h2 h3 h4 h5 h6 => ok_odds h1 h2 h3 h4 h5 h6, fun _ _ _ _ _ _ h1 h2 h3 h4 h5 h6 => ok_even h1 h2 h3 h4 h5 h6, fun _ _ h1 h2 => ok_year h1 h2, ok_clear, fun _ _ _ h1 h2 h3 => ok_think h1 h2 h3, fun _ _ _ _ _ _ h1 h2 h3 h4 h5 h6 => ok_buy h1 h2 h3 h4 h5 h6, fun _ _ _ _ h1 h2 h3 h4 => ok_keepRung h1 h2 h3 h4, fun _ _ _ _ h1 h2 h3 h4 => ok_leave h1 h2 h3 h4, fun _ _ _ _ _ _ _ _ _ h1 h2 h3 h4 h5 h6 h7 h8 h9 => ok_pad h1 h2 h3 h4 h5 h6 h7 h8 h9, fun _ _ _ h1 h2 h3 => ok_setting h1 h2 h3, fun _ h1 => ok_seed h1, fun _ _ _ _ h1 h2 h3 h4 => ok_lives h1 h2 h3 h4, fun _ h1 => ok_count h1, fun _ h1 => ok_keep h1, fun _ h1 => ok_goBack h1⟩
