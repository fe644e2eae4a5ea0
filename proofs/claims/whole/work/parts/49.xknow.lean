/-! bits -/
theorem and1_bit (x : Int32) : (x &&& zI 1).toInt = 0 ↔ x.toBitVec.getLsbD 0 = false := by
  have e : x &&& zI 1 = nI (x.toBitVec.toNat % 2 ^ 1) := pk_and x 1 (by decide)
  rw [e, nI_toInt (by omega)]
  rw [BitVec.getLsbD, Nat.testBit_zero]
  constructor
  · intro h
    simp only [decide_eq_false_iff_not]
    omega
  · intro h
    simp only [decide_eq_false_iff_not] at h
    omega
theorem shr_amt : ∀ k : Nat, k < 32 → ((zI (k : Int) &&& 31).toBitVec.smod 32).toNat = k := by decide +kernel
theorem hasb_bit {v : Int} {k : Nat} (hk : k < 32) : hasb v k ↔ (zI v).toBitVec.getLsbD k = true := by
  have e0 : zm (zand (zshr v k) 1) = zand (zshr v k) 1 := by
    have := zand1 (zshr v k)
    exact zm_eq (by omega) (by omega)
  have e1 : zI (zshr v k) = zI v >>> (zI (k : Int) &&& 31) := zI_of _
  have e2 : (zI v >>> (zI (k : Int) &&& 31)).toBitVec.getLsbD 0 = (zI v).toBitVec.getLsbD k := by
    rw [Int32.toBitVec_shiftRight, BitVec.sshiftRight', shr_amt k hk, BitVec.getLsbD_sshiftRight]
    simp [hk]
  unfold hasb
  rw [e0]
  unfold zand
  rw [e1, and1_bit, e2]
  simp
theorem zI_or (a b : Int) : (zI (zor a b)).toBitVec = (zI a).toBitVec ||| (zI b).toBitVec := by
  unfold zor
  rw [zI_of, Int32.toBitVec_or]
theorem zI_and (a b : Int) : (zI (zand a b)).toBitVec = (zI a).toBitVec &&& (zI b).toBitVec := by
  unfold zand
  rw [zI_of, Int32.toBitVec_and]
theorem bit_shl : ∀ r : Nat, r < 10 → ∀ i : Nat, i < 10 → (zI (zshl 1 (r : Int))).toBitVec.getLsbD i = decide (i = r) := by decide +kernel
theorem bit_cmp : ∀ r : Nat, r < 10 → ∀ i : Nat, i < 10 → (zI (zxor (zshl 1 (r : Int)) (-1))).toBitVec.getLsbD i = !decide (i = r) := by decide +kernel
theorem bit_0 : ∀ i : Nat, i < 10 → (zI 0).toBitVec.getLsbD i = false := by decide +kernel
/-- a bit set anew -/
theorem bit_put {v : Int} {r i : Int} (hr : 0 ≤ r ∧ r < 10) (hi : 0 ≤ i ∧ i < 10) {b : Prop} [Decidable b] : hasb (zor (zand v (zxor (zshl 1 r) (-1))) (if b then zshl 1 r else 0)) i ↔ (if i = r then b else hasb v i) := by
  obtain ⟨r, rfl⟩ := Int.eq_ofNat_of_zero_le hr.1
  obtain ⟨i, rfl⟩ := Int.eq_ofNat_of_zero_le hi.1
  have hr' : r < 10 := by omega
  have hi' : i < 10 := by omega
  rw [hasb_bit (by omega), zI_or, zI_and, BitVec.getLsbD_or, BitVec.getLsbD_and, bit_cmp r hr' i hi']
  by_cases hb : b
  · rw [if_pos hb, bit_shl r hr' i hi']
    by_cases e : i = r
    · subst e
      simp [hb]
    · have e' : ¬ ((i : Int) = (r : Int)) := by omega
      rw [if_neg e', hasb_bit (by omega)]
      simp [e]
  · rw [if_neg hb, bit_0 i hi']
    by_cases e : i = r
    · subst e
      simp [hb]
    · have e' : ¬ ((i : Int) = (r : Int)) := by omega
      rw [if_neg e', hasb_bit (by omega)]
      simp [e]
/-! what the years cost, by the class -/
theorem X_rc86 {σ : St} {o : Int} {t : St} {s h ru r left v f : Int} (hc : PC σ o t s h ru) (hr : 0 ≤ r ∧ r < t 1 h) (hl : 1 ≤ left ∧ left ≤ 30) (hf : f = 0 ∨ f = 1) : ∃ σ', p_X3_reckonCost_86 o left r v f σ = some (0, σ') ∧ (∀ q : Int, q ≠ o + 1 → q ≠ o + 2 → σ' q = σ q) ∧ σ' (o + 1) (10 * left + r) = 1000 * t 2 (10 * h + r) + v ∧ (∀ i, i ≠ 10 * left + r → σ' (o + 1) i = σ (o + 1) i) ∧ (∀ i, i ≠ left → σ' (o + 2) i = σ (o + 2) i) ∧ ∀ i, 0 ≤ i → i < 10 → (hasb (σ' (o + 2) left) i ↔ (if i = r then f = 1 else hasb (σ (o + 2) left) i)) := by
  obtain ⟨hk3, hsr, hhr, hs, hh, _⟩ := hc
  have h10 := hh.2.1
  have r3 := kx3 hk3
  have r0 := kx0 hhr.1
  have hrow := hhr.2.2.2.2.2.2.2 r hr.1 hr.2
  obtain ⟨σ1, e1, a1, b1, c1⟩ := su_ex σ (o + 1) (10 * left + r) (1000 * t 2 (10 * h + r) + v)
  have w2 : σ1 (o + 2) = σ (o + 2) := a1 _ (by omega)
  obtain ⟨σ2, e2, a2, b2, c2⟩ := su_ex σ1 (o + 2) left (zor (zand (σ (o + 2) left) (zxor (zshl 1 r) (-1))) (if f = 1 then zshl 1 r else 0))
  refine ⟨σ2, ?_, fun q q1 q2 => by rw [a2 q q2, a1 q q1], by rw [a2 _ (by omega)]; exact b1, fun i hi => by rw [a2 _ (by omega)]; exact c1 i hi, fun i hi => by rw [c2 i hi, w2], fun i i0 i1 => by rw [b2]; exact bit_put (by omega) ⟨i0, i1⟩⟩
  have i1 : left * 10 + r = 10 * left + r := by omega
  unfold p_X3_reckonCost_86
  rw [gd_pos hhr.1, zm_eq (a := r) (by omega) (by omega), gd_pos (by omega), i1, zm_eq (a := 10 * left + r) (by omega) (by omega), gd_pos (by omega), hrow, Int.mul_comm (t 2 (10 * h + r)) 1000]
  simp only [nx, e1]
  rw [zm_eq (a := left) (by omega) (by omega), gd_pos (by omega), w2]
  unfold p_X3_reckonCost_141
  rw [zm_eq (a := left) (by omega) (by omega), gd_pos (by omega)]
  simp only [nx]
  rcases hf with rfl | rfl
  · rw [if_pos (by decide)]
    rw [if_neg (by decide)] at e2
    rw [e2]
  · rw [if_neg (by decide)]
    rw [if_pos rfl] at e2
    rw [gd_pos (by omega), e2]
/-- what is kept of a plan when a cost is reckoned -/
def kcO (o : Int) (σ σ' : St) : Prop := plO o σ σ' ∧ ∀ j : Int, j ≠ 5 → j ≠ 11 → j ≠ 12 → σ' o j = σ o j
theorem bnd_some {α β : Type} (a : α) (f : α → Option β) : Option.bind (some a) f = f a := by
  cases h : f a <;> simp [h]
theorem X_reckonCost {σ : St} {o : Int} {t : St} {s h ru r left : Int} (hc : PC σ o t s h ru) (hr : 0 ≤ r ∧ r < t 1 h) (hl : 1 ≤ left ∧ left ≤ 30) (h16 : ∀ r, 0 ≤ r → r < t 1 h → σ (o + 1) (10 * (left - 1) + r) = cst t s h ru (left - 1).toNat r) : ∃ σ', p_X3_reckonCost o left r σ = some (0, σ') ∧ kcO o σ σ' ∧ σ' o 5 = σ o 5 ∧ σ' (o + 1) (10 * left + r) = cst t s h ru left.toNat r ∧ (∀ i, i ≠ 10 * left + r → σ' (o + 1) i = σ (o + 1) i) ∧ (∀ i, i ≠ left → σ' (o + 2) i = σ (o + 2) i) ∧ ∀ i, 0 ≤ i → i < 10 → (hasb (σ' (o + 2) left) i ↔ (if i = r then pnd t s h ru (cst t s h ru (left - 1).toNat) r else hasb (σ (o + 2) left) i)) := by
  have hs := hc.2.2.2.1
  have hh := hc.2.2.2.2.1
  have h10 := hh.2.1
  have hpn := hs.2.2.2.2.2.2
  have r3 := kx3 hc.1
  generalize hcd : cst t s h ru (left - 1).toNat = C at *
  have hCb : ∀ r, 0 ≤ r → r < t 1 h → 0 ≤ C r ∧ C r ≤ 12987000 * (((left - 1).toNat : Nat) : Int) := by
    rw [← hcd]; exact cst_bd hs hh _
  have hcost : cst t s h ru left.toNat r = 1000 * t 2 (10 * h + r) + (if pnd t s h ru C r then 1000 * t 11 s + inM t s h ru 1 r C 12 0 else inM t s h ru 0 r C 12 0) := by
    have e3 : left.toNat = (left - 1).toNat + 1 := by omega
    rw [e3]
    rw [cst, hcd]
  obtain ⟨σ1, e1, Y1⟩ := X_openYear (v := 0) (c := C) hc (Or.inl rfl) hr (by omega : 12987000 * (((left - 1).toNat : Nat) : Int) ≤ 400000000) hCb hl h16
  have ep0 : pEf t s 0 = 0 := by unfold pEf; rw [if_pos rfl]
  rw [ep0] at Y1
  have hC1 := hc.to Y1.1
  have n12 : (12 - (0 : Int)).toNat = 12 := by decide
  have v1 := Y1.2.2.2.2.2.1 0 0 (by omega) (by omega) (by omega) (by omega)
  rw [n12] at v1
  have ia := inM_bd (ru := ru) (r := r) (c := C) hs hh (Or.inl rfl : (0 : Int) = 0 ∨ _) hr hCb 12 0 (by omega) (by omega)
  have hcT : pnd t s h ru C r → cst t s h ru left.toNat r = 1000 * t 2 (10 * h + r) + (1000 * t 11 s + inM t s h ru 1 r C 12 0) := fun q => by rw [hcost, if_pos q]
  have hcF : ¬ pnd t s h ru C r → cst t s h ru left.toNat r = 1000 * t 2 (10 * h + r) + inM t s h ru 0 r C 12 0 := fun q => by rw [hcost, if_neg q]
  clear hcost
  obtain ⟨I0, hI0⟩ : ∃ x, inM t s h ru 0 r C 12 0 = x := ⟨_, rfl⟩
  obtain ⟨I1, hI1⟩ : ∃ x, inM t s h ru 1 r C 12 0 = x := ⟨_, rfl⟩
  have hpd : pnd t s h ru C r ↔ (ru < 0 ∧ 0 ≤ t 11 s ∧ 1000 * t 11 s + I1 < I0) := by rw [← hI0, ← hI1]
  have ib := fun cp => inM_bd (ru := ru) (r := r) (c := C) hs hh (Or.inr ⟨rfl, cp⟩ : (1 : Int) = 0 ∨ _) hr hCb 12 0 (by omega) (by omega)
  rw [hI0] at v1 ia hcF
  rw [hI1] at ib hcT
  obtain ⟨P, hP⟩ : ∃ x : Prop, (pnd t s h ru C r) = x := ⟨_, rfl⟩
  rw [hP] at hcT hcF hpd
  rw [hP]
  obtain ⟨V, hV⟩ : ∃ x, cst t s h ru left.toNat r = x := ⟨_, rfl⟩
  rw [hV] at hcT hcF
  rw [hV]
  -- the end, with a least and a flag
  have fin : ∀ (σ2 : St) (v f : Int), PC σ2 o t s h ru → kcO o σ σ2 → σ2 o 5 = σ o 5 → σ2 (o + 1) = σ (o + 1) → σ2 (o + 2) = σ (o + 2) → (f = 0 ∨ f = 1) → 1000 * t 2 (10 * h + r) + v = V → (f = 1 ↔ P) → ∃ σ', p_X3_reckonCost_86 o left r v f σ2 = some (0, σ') ∧ kcO o σ σ' ∧ σ' o 5 = σ o 5 ∧ σ' (o + 1) (10 * left + r) = V ∧ (∀ i, i ≠ 10 * left + r → σ' (o + 1) i = σ (o + 1) i) ∧ (∀ i, i ≠ left → σ' (o + 2) i = σ (o + 2) i) ∧ ∀ i, 0 ≤ i → i < 10 → (hasb (σ' (o + 2) left) i ↔ (if i = r then P else hasb (σ (o + 2) left) i)) := by
    intro σ2 v f hC2 hk h5 k1 k2 hf hv hpf
    obtain ⟨σ', q1, q2, q3, q4, q5, q6⟩ := X_rc86 (v := v) (f := f) hC2 hr hl hf
    have qo := q2 o (by omega) (by omega)
    refine ⟨σ', q1, ⟨⟨fun k hk' => by rw [q2 k (by omega) (by omega)]; exact hk.1.1 k hk', by rw [qo]; exact hk.1.2.1, by rw [qo]; exact hk.1.2.2.1, by rw [qo]; exact hk.1.2.2.2⟩, fun j j1 j2 j3 => by rw [qo]; exact hk.2 j j1 j2 j3⟩, by rw [qo]; exact h5, by rw [q3, hv], fun i hi => by rw [q4 i hi, k1], fun i hi => by rw [q5 i hi, k2], fun i i0 i1 => ?_⟩
    rw [q6 i i0 i1, k2]
    by_cases e : i = r
    · rw [if_pos e, if_pos e]; exact hpf
    · rw [if_neg e, if_neg e]
  have kc1 : kcO o σ σ1 := ⟨Y1.1, fun j _ j2 j3 => Y1.2.1 j j2 j3⟩
  obtain ⟨y, hy⟩ : ∃ y, y = p_X3_reckonCost o left r σ := ⟨_, rfl⟩
  rw [← hy]
  unfold p_X3_reckonCost at hy
  rw [e1] at hy
  simp only [bnd_some] at hy
  rw [X_inside (by omega) (by omega)] at hy
  simp only [bnd_some] at hy
  rw [gd_pos hC1.2.1.1, v1] at hy
  by_cases cp : 0 ≤ t 11 s
  · obtain ⟨s5, s6, _, _⟩ := hC1.2.1.2.2.2.2.2 cp
    rw [s5, if_neg (by decide)] at hy
    by_cases cr : σ1 o 2 < 0
    · rw [if_pos cr] at hy
      have hru : ru < 0 := by
        rcases hC1.2.2.2.2.2 with hq | hq
        · omega
        · have := kx5 hq.1.1; omega
      obtain ⟨σ2, e2, Y2⟩ := X_openYear (v := 1) (c := C) hC1 (Or.inr rfl) hr (by omega : 12987000 * (((left - 1).toNat : Nat) : Int) ≤ 400000000) hCb hl (by rw [Y1.2.2.1]; exact h16)
      have ep1 : pEf t s 1 = 1 := by unfold pEf; rw [if_neg (by decide), if_pos cp]
      rw [ep1] at Y2
      have hC2 := hC1.to Y2.1
      have v2 := Y2.2.2.2.2.2.1 0 0 (by omega) (by omega) (by omega) (by omega)
      rw [n12, hI1] at v2
      have ib := ib cp
      obtain ⟨_, s6', _, _⟩ := hC2.2.1.2.2.2.2.2 cp
      rw [e2] at hy
      simp only [bnd_some] at hy
      rw [X_inside (by omega) (by omega)] at hy
      simp only [bnd_some] at hy
      rw [gd_pos hC2.2.1.1, v2, s6', zm_eq (a := I0) (by omega) (by omega), zm_eq (a := I1 + t 11 s * 1000) (by omega) (by omega)] at hy
      have kc2 : kcO o σ σ2 := ⟨Y1.1.tr Y2.1, fun j j1 j2 j3 => (Y2.2.1 j j2 j3).trans (Y1.2.1 j j2 j3)⟩
      have h52 : σ2 o 5 = σ o 5 := (Y2.2.1 5 (by decide) (by decide)).trans (Y1.2.1 5 (by decide) (by decide))
      by_cases cl : I0 ≤ I1 + t 11 s * 1000
      · rw [if_pos cl] at hy
        have np : ¬ P := fun q => by have := (hpd.1 q).2.2; omega
        unfold p_X3_reckonCost_72 p_X3_reckonCost_85 at hy
        rw [if_pos (by decide)] at hy
        rw [hy]
        exact fin σ2 _ 0 hC2 kc2 h52 (Y2.2.2.1.trans Y1.2.2.1) (Y2.2.2.2.1.trans Y1.2.2.2.1) (Or.inl rfl) (hcF np).symm ⟨fun q => by omega, fun q => absurd q np⟩
      · rw [if_neg cl] at hy
        have yp : P := hpd.2 ⟨hru, cp, by omega⟩
        unfold p_X3_reckonCost_72 p_X3_reckonCost_85 at hy
        rw [if_neg (by decide)] at hy
        rw [hy]
        exact fin σ2 _ 1 hC2 kc2 h52 (Y2.2.2.1.trans Y1.2.2.1) (Y2.2.2.2.1.trans Y1.2.2.2.1) (Or.inr rfl) (by rw [hcT yp]; omega) ⟨fun _ => yp, fun _ => rfl⟩
    · rw [if_neg cr] at hy
      rw [hy]
      have np : ¬ P := fun q => by
        have := (hpd.1 q).1
        rcases hC1.2.2.2.2.2 with hq | hq
        · exact cr hq.1
        · have := hq.2.1; omega
      exact fin σ1 _ 0 hC1 kc1 (Y1.2.1 5 (by decide) (by decide)) Y1.2.2.1 Y1.2.2.2.1 (Or.inl rfl) (hcF np).symm ⟨fun q => by omega, fun q => absurd q np⟩
  · have s5 := hC1.2.1.2.2.2.2.1 (by omega)
    have np : ¬ P := fun q => cp (hpd.1 q).2.1
    rw [s5, if_pos (by decide)] at hy
    rw [hy]
    exact fin σ1 _ 0 hC1 kc1 (Y1.2.1 5 (by decide) (by decide)) Y1.2.2.1 Y1.2.2.2.1 (Or.inl rfl) (hcF np).symm ⟨fun q => by omega, fun q => absurd q np⟩
/-- what a plan knows: n years, and of n + 1 the rungs below r -/
def KN (σ : St) (o : Int) (t : St) (s h ru : Int) (n r : Int) : Prop := (∀ n' r' : Int, 0 ≤ n' → 0 ≤ r' → r' < t 1 h → (n' ≤ n ∨ (n' = n + 1 ∧ r' < r)) → σ (o + 1) (10 * n' + r') = cst t s h ru n'.toNat r') ∧ (∀ n' r' : Int, 1 ≤ n' → 0 ≤ r' → r' < t 1 h → (n' ≤ n ∨ (n' = n + 1 ∧ r' < r)) → (hasb (σ (o + 2) n') r' ↔ pnd t s h ru (cst t s h ru (n' - 1).toNat) r'))
theorem X_kn20 {o : Int} {t : St} {s h ru left n : Int} (K7 : Int → Int → Int → St → Option (Int × St)) (hn : 1 ≤ n ∧ n ≤ 30) : ∀ (d f r : Nat) (σ : St), PC σ o t s h ru → (r : Int) + d = t 1 h → d < f → KN σ o t s h ru (n - 1) r → ∃ σ', p_X3_know_20 K7 f o left n r σ = K7 o left (n + 1) σ' ∧ kcO o σ σ' ∧ σ' o 5 = n ∧ KN σ' o t s h ru n 0 ∧ ∀ i : Int, i < 10 → σ' (o + 1) i = σ (o + 1) i := by
  intro d
  induction d with
  | zero =>
    intro f r σ hc hr hf hF
    obtain ⟨f, rfl⟩ := Nat.exists_eq_succ_of_ne_zero (by omega : f ≠ 0)
    obtain ⟨hk3, hsr, hhr, hs, hh, _⟩ := id hc
    have h10 := hh.2.1
    obtain ⟨σ1, e1, a1, b1, c1⟩ := su_ex σ o 5 n
    refine ⟨σ1, ?_, ⟨⟨fun k hk => a1 k (by omega), c1 0 (by decide), c1 1 (by decide), c1 2 (by decide)⟩, fun j j1 _ _ => c1 j j1⟩, b1, ⟨fun n' r' a0 a2 a3 a4 => ?_, fun n' r' a0 a2 a3 a4 => ?_⟩, fun i _ => by rw [a1 _ (by omega)]⟩
    · show p_X3_know_20b K7 (p_X3_know_20 K7 f) o left n r σ = _
      unfold p_X3_know_20b
      rw [gd_pos hhr.1, hhr.2.1, zm_eq (a := t 1 h) (by omega) (by omega), zm_eq (a := (r : Int)) (by omega) (by omega), if_pos (by omega)]
      simp only [nx, e1]
    · rw [a1 _ (by omega)]
      exact hF.1 n' r' a0 a2 a3 (by omega)
    · rw [a1 _ (by omega)]
      exact hF.2 n' r' a0 a2 a3 (by omega)
  | succ d ih =>
    intro f r σ hc hr hf hF
    obtain ⟨f, rfl⟩ := Nat.exists_eq_succ_of_ne_zero (by omega : f ≠ 0)
    obtain ⟨hk3, hsr, hhr, hs, hh, _⟩ := id hc
    have h10 := hh.2.1
    obtain ⟨σ1, e1, k1, k5, k2, k3, k4, k6⟩ := X_reckonCost (r := (r : Int)) (left := n) hc (by omega) hn (fun q q0 q1 => hF.1 (n - 1) q (by omega) q0 q1 (by omega))
    have hF1 : KN σ1 o t s h ru (n - 1) ((r : Int) + 1) := by
      refine ⟨fun n' r' a0 a2 a3 a4 => ?_, fun n' r' a0 a2 a3 a4 => ?_⟩
      · by_cases e : n' = n ∧ r' = r
        · obtain ⟨rfl, rfl⟩ := e
          exact k2
        · rw [k3 _ (by omega)]
          exact hF.1 n' r' a0 a2 a3 (by omega)
      · by_cases e : n' = n
        · subst e
          rw [k6 r' a2 (by omega)]
          by_cases e2 : r' = r
          · rw [if_pos e2, e2]
          · rw [if_neg e2]
            exact hF.2 n' r' a0 a2 a3 (by omega)
        · rw [k4 n' e]
          exact hF.2 n' r' a0 a2 a3 (by omega)
    obtain ⟨σ', q1, q2, q3, q4, q5⟩ := ih f (r + 1) σ1 (hc.to k1.1) (by omega) (by omega) hF1
    refine ⟨σ', ?_, ⟨k1.1.tr q2.1, fun j j1 j2 j3 => (q2.2 j j1 j2 j3).trans (k1.2 j j1 j2 j3)⟩, q3, q4, fun i hi => by rw [q5 i hi, k3 i (by omega)]⟩
    show p_X3_know_20b K7 (p_X3_know_20 K7 f) o left n r σ = _
    unfold p_X3_know_20b
    rw [gd_pos hhr.1, hhr.2.1, zm_eq (a := t 1 h) (by omega) (by omega), zm_eq (a := (r : Int)) (by omega) (by omega), if_neg (by omega), e1]
    simp only [Option.bind_some]
    exact q1
theorem X_kn7 {o : Int} {t : St} {s h ru left : Int} (hl : 0 ≤ left ∧ left ≤ 30) : ∀ (d f : Nat) (n : Int) (σ : St), PC σ o t s h ru → 0 ≤ n → left - n ≤ d → n ≤ 30 → d < f → σ o 5 = n → KN σ o t s h ru n 0 → ∃ σ', p_X3_know_7 f o left (n + 1) σ = some (0, σ') ∧ kcO o σ σ' ∧ (∃ n' : Int, left ≤ n' ∧ n ≤ n' ∧ n' ≤ 30 ∧ σ' o 5 = n' ∧ KN σ' o t s h ru n' 0) ∧ ∀ i : Int, i < 10 → σ' (o + 1) i = σ (o + 1) i := by
  intro d
  induction d with
  | zero =>
    intro f n σ hc hn0 hd hn hf h5 hF
    obtain ⟨f, rfl⟩ := Nat.exists_eq_succ_of_ne_zero (by omega : f ≠ 0)
    refine ⟨σ, ?_, ⟨plO.rf, fun _ _ _ _ => rfl⟩, ⟨n, by omega, by omega, hn, h5, hF⟩, fun _ _ => rfl⟩
    show p_X3_know_7b (p_X3_know_7 f) o left (n + 1) σ = _
    unfold p_X3_know_7b
    rw [zm_eq (a := left) (by omega) (by omega), zm_eq (a := n + 1) (by omega) (by omega), if_pos (by omega)]
  | succ d ih =>
    intro f n σ hc hn0 hd hn hf h5 hF
    obtain ⟨f, rfl⟩ := Nat.exists_eq_succ_of_ne_zero (by omega : f ≠ 0)
    have h10 := hc.2.2.2.2.1.2.1
    by_cases cl : left < n + 1
    · refine ⟨σ, ?_, ⟨plO.rf, fun _ _ _ _ => rfl⟩, ⟨n, by omega, by omega, hn, h5, hF⟩, fun _ _ => rfl⟩
      show p_X3_know_7b (p_X3_know_7 f) o left (n + 1) σ = _
      unfold p_X3_know_7b
      rw [zm_eq (a := left) (by omega) (by omega), zm_eq (a := n + 1) (by omega) (by omega), if_pos cl]
    · obtain ⟨σ1, e1, k1, k5, k2, k6⟩ := X_kn20 (left := left) (n := n + 1) (p_X3_know_7 f) (by omega) (t 1 h).toNat FU 0 σ hc (by omega) (FU_gt (by omega)) (by rw [show n + 1 - 1 = n by omega]; exact hF)
      obtain ⟨σ', q1, q2, ⟨n', q3, q4, q5, q6, q7⟩, q8⟩ := ih f (n + 1) σ1 (hc.to k1.1) (by omega) (by omega) (by omega) (by omega) k5 k2
      refine ⟨σ', ?_, ⟨k1.1.tr q2.1, fun j j1 j2 j3 => (q2.2 j j1 j2 j3).trans (k1.2 j j1 j2 j3)⟩, ⟨n', q3, by omega, q5, q6, q7⟩, fun i hi => by rw [q8 i hi, k6 i hi]⟩
      show p_X3_know_7b (p_X3_know_7 f) o left (n + 1) σ = _
      unfold p_X3_know_7b
      rw [zm_eq (a := left) (by omega) (by omega), zm_eq (a := n + 1) (by omega) (by omega), if_neg cl, if_neg (by omega)]
      exact e1.trans q1
/-- know(left): left years are known -/
theorem X_know {σ : St} {o : Int} {t : St} {s h ru left n : Int} (hc : PC σ o t s h ru) (hl : 0 ≤ left ∧ left ≤ 30) (h5 : σ o 5 = n) (hn : 0 ≤ n ∧ n ≤ 30) (hF : KN σ o t s h ru n 0) : ∃ σ', p_X3_know o left σ = some (0, σ') ∧ kcO o σ σ' ∧ (∃ n' : Int, left ≤ n' ∧ n ≤ n' ∧ n' ≤ 30 ∧ σ' o 5 = n' ∧ KN σ' o t s h ru n' 0) ∧ ∀ i : Int, i < 10 → σ' (o + 1) i = σ (o + 1) i := by
  unfold p_X3_know
  rw [h5]
  exact X_kn7 hl 30 FU n σ hc hn.1 (by omega) hn.2 (FU_gt (by omega)) h5 hF
