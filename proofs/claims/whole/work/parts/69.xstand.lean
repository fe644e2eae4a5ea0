/-! the people of the long run -/
def ptX (P : Int → Int) (O : Int → Int → Int) (r k : Int) : Int := (zl (zm (P r) * zm (O r k))).tdiv 1000000
def wS (t : St) (h : Int) (P : Int → Int) (O : Int → Int → Int) : Nat → (Int → Int) × Int
  | 0 => (fun _ => 0, 1000000)
  | j + 1 => (fun q => if q = nxt t h (j / 4 : Nat) (j % 4 : Nat) then (wS t h P O j).1 q + ptX P O (j / 4 : Nat) (j % 4 : Nat) else (wS t h P O j).1 q, (wS t h P O j).2 - ptX P O (j / 4 : Nat) (j % 4 : Nat))
theorem wS_1 {t : St} {h : Int} {P : Int → Int} {O : Int → Int → Int} {r k : Nat} (hk : k < 4) (q : Int) : (wS t h P O (4 * r + (k + 1))).1 q = (if q = nxt t h r k then (wS t h P O (4 * r + k)).1 q + ptX P O r k else (wS t h P O (4 * r + k)).1 q) := by
  have e1 : (4 * r + k) / 4 = r := by omega
  have e2 : (4 * r + k) % 4 = k := by omega
  show (if q = nxt t h ((4 * r + k) / 4 : Nat) ((4 * r + k) % 4 : Nat) then (wS t h P O (4 * r + k)).1 q + ptX P O ((4 * r + k) / 4 : Nat) ((4 * r + k) % 4 : Nat) else (wS t h P O (4 * r + k)).1 q) = _
  rw [e1, e2]
theorem wS_2 {t : St} {h : Int} {P : Int → Int} {O : Int → Int → Int} {r k : Nat} (hk : k < 4) : (wS t h P O (4 * r + (k + 1))).2 = (wS t h P O (4 * r + k)).2 - ptX P O r k := by
  have e1 : (4 * r + k) / 4 = r := by omega
  have e2 : (4 * r + k) % 4 = k := by omega
  show (wS t h P O (4 * r + k)).2 - ptX P O ((4 * r + k) / 4 : Nat) ((4 * r + k) % 4 : Nat) = _
  rw [e1, e2]
theorem wS_c {t : St} {h : Int} {P P' : Int → Int} {O O' : Int → Int → Int} {R : Nat} (eP : ∀ r : Int, 0 ≤ r → r < R → P r = P' r) (eO : ∀ r k : Int, 0 ≤ r → r < R → 0 ≤ k → k ≤ 3 → O r k = O' r k) : ∀ (j : Nat), j ≤ 4 * R → (∀ q, (wS t h P O j).1 q = (wS t h P' O' j).1 q) ∧ (wS t h P O j).2 = (wS t h P' O' j).2
  | 0, _ => ⟨fun _ => rfl, rfl⟩
  | j + 1, hj => by
    obtain ⟨i1, i2⟩ := wS_c eP eO j (by omega)
    have e : ptX P O (j / 4 : Nat) (j % 4 : Nat) = ptX P' O' (j / 4 : Nat) (j % 4 : Nat) := by
      unfold ptX
      rw [eP _ (by omega) (by omega), eO _ _ (by omega) (by omega) (by omega) (by omega)]
    refine ⟨fun q => ?_, ?_⟩
    · show (if q = nxt t h (j / 4 : Nat) (j % 4 : Nat) then (wS t h P O j).1 q + ptX P O (j / 4 : Nat) (j % 4 : Nat) else (wS t h P O j).1 q) = (if q = nxt t h (j / 4 : Nat) (j % 4 : Nat) then (wS t h P' O' j).1 q + ptX P' O' (j / 4 : Nat) (j % 4 : Nat) else (wS t h P' O' j).1 q)
      rw [e, i1 q]
    · show (wS t h P O j).2 - ptX P O (j / 4 : Nat) (j % 4 : Nat) = (wS t h P' O' j).2 - ptX P' O' (j / 4 : Nat) (j % 4 : Nat)
      rw [e, i2]
/-- one year on -/
def nY (t : St) (h : Int) (P : Int → Int) (O : Int → Int → Int) : Int → Int := fun q => (wS t h P O (4 * (t 1 h).toNat)).1 q + (if q = 0 then (wS t h P O (4 * (t 1 h).toNat)).2 else 0)
theorem nY_c {t : St} {h : Int} {P P' : Int → Int} {O O' : Int → Int → Int} (h1 : 0 ≤ t 1 h) (eP : ∀ r : Int, 0 ≤ r → r < t 1 h → P r = P' r) (eO : ∀ r k : Int, 0 ≤ r → r < t 1 h → 0 ≤ k → k ≤ 3 → O r k = O' r k) (q : Int) : nY t h P O q = nY t h P' O' q := by
  have z := wS_c (t := t) (h := h) (R := (t 1 h).toNat) (fun r a b => eP r a (by omega)) (fun r k a b c d => eO r k a (by omega) c d) (4 * (t 1 h).toNat) (Nat.le_refl _)
  unfold nY
  rw [z.1 q, z.2]
def Pp (t : St) (h : Int) (O : Int → Int → Int) : Nat → Int → Int
  | 0 => fun r => if r = t 7 h then 1000000 else 0
  | y + 1 => nY t h (Pp t h O y) O
abbrev oX (σ : St) : Int → Int → Int := fun r k => σ 12 (4 * r + k)
theorem X_py37 {σ0 t : St} {oh h : Int} (hr0 : HR σ0 oh t h) (hh : HOK t h) (K26 : Int → Int → Int → Int → St → Option (Int × St)) {r : Nat} (hr : (r : Int) < t 1 h) : ∀ (d f k : Nat) (σ : St), k + d = 4 → d < f → (∀ q : Int, q ≠ 11 → σ q = σ0 q) → (∀ q, 0 ≤ q → q < 10 → σ 11 q = (wS t h (σ0 10) (oX σ0) (4 * r + k)).1 q) → ∃ σ', p_X1_passYear_37 K26 f 9 oh (wS t h (σ0 10) (oX σ0) (4 * r + k)).2 r k σ = K26 9 oh (wS t h (σ0 10) (oX σ0) (4 * (r + 1))).2 (r + 1) σ' ∧ (∀ q : Int, q ≠ 11 → σ' q = σ0 q) ∧ (∀ q, 0 ≤ q → q < 10 → σ' 11 q = (wS t h (σ0 10) (oX σ0) (4 * (r + 1))).1 q) := by
  have h10 := hh.2.1
  have k0 := kx0 hr0.1
  intro d
  induction d with
  | zero =>
    intro f k σ hk hf a b
    obtain ⟨f, rfl⟩ := Nat.exists_eq_succ_of_ne_zero (by omega : f ≠ 0)
    have k4 : 4 * r + k = 4 * (r + 1) := by omega
    rw [k4] at b ⊢
    refine ⟨σ, ?_, a, b⟩
    show p_X1_passYear_37b K26 (p_X1_passYear_37 K26 f) 9 oh _ r k σ = _
    unfold p_X1_passYear_37b
    rw [zm_eq (a := (k : Int)) (by omega) (by omega), if_pos (by omega)]
  | succ d ih =>
    intro f k σ hk hf a b
    obtain ⟨f, rfl⟩ := Nat.exists_eq_succ_of_ne_zero (by omega : f ≠ 0)
    have hrσ : HR σ oh t h := hr0.to (a _ (by omega)) (a _ (by omega))
    have nb := nxt_bd hh (r := (r : Int)) (k := (k : Int)) (by omega) (by omega)
    obtain ⟨N, hN⟩ : ∃ N, nxt t h r k = N := ⟨_, rfl⟩
    rw [hN] at nb
    obtain ⟨σ1, e1, a1, b1, c1⟩ := su_ex σ 11 N (σ 11 N + ptX (σ0 10) (oX σ0) r k)
    obtain ⟨σ', e', a', b'⟩ := ih f (k + 1) σ1 (by omega) (by omega) (fun q hq => by rw [a1 q hq, a q hq]) (fun q q0 q1 => by
      rw [wS_1 (by omega), hN]
      by_cases e : q = N
      · rw [if_pos e, e, b1, b N (by omega) (by omega)]
      · rw [if_neg e, c1 q e, b q q0 q1])
    refine ⟨σ', ?_, a', b'⟩
    refine Eq.trans ?_ e'
    show p_X1_passYear_37b K26 (p_X1_passYear_37 K26 f) 9 oh (wS t h (σ0 10) (oX σ0) (4 * r + k)).2 r k σ = _
    rw [wS_2 (by omega)]
    generalize (wS t h (σ0 10) (oX σ0) (4 * r + k)).2 = L
    unfold p_X1_passYear_37b p_X1_oddsOf
    simp only [c91, c92, c93]
    rw [zm_eq (a := (k : Int)) (by omega) (by omega), if_neg (by omega), zm_eq (a := (r : Int)) (by omega) (by omega), gd_pos (by omega), zm_eq (a := (r : Int) * 4 + k) (by omega) (by omega), gd_pos (by omega), show (r : Int) * 4 + k = 4 * r + k by omega]
    simp only [bnd_some, nz_eq]
    rw [X_rungAfter hrσ hh (by omega) (by omega)]
    simp only [bnd_some]
    rw [hN, zm_eq (a := N) (by omega) (by omega), gd_pos (by omega), a 10 (by decide), a 12 (by decide), show (zl (zm (σ0 10 r) * zm (σ0 12 (4 * r + k)))).tdiv 1000000 = ptX (σ0 10) (oX σ0) r k from rfl, nx_eq, e1]
    rfl
theorem X_py26 {σ0 t : St} {oh h : Int} (hr0 : HR σ0 oh t h) (hh : HOK t h) : ∀ (d f r : Nat) (σ : St), (r : Int) + d = t 1 h → d < f → (∀ q : Int, q ≠ 11 → σ q = σ0 q) → (∀ q, 0 ≤ q → q < 10 → σ 11 q = (wS t h (σ0 10) (oX σ0) (4 * r)).1 q) → ∃ σ', p_X1_passYear_26 f 9 oh (wS t h (σ0 10) (oX σ0) (4 * r)).2 r σ = p_X1_passYear_112 FU 9 0 σ' ∧ (∀ q : Int, q ≠ 11 → σ' q = σ0 q) ∧ (∀ q, 0 ≤ q → q < 10 → σ' 11 q = nY t h (σ0 10) (oX σ0) q) := by
  have h10 := hh.2.1
  have k0 := kx0 hr0.1
  intro d
  induction d with
  | zero =>
    intro f r σ hk hf a b
    obtain ⟨f, rfl⟩ := Nat.exists_eq_succ_of_ne_zero (by omega : f ≠ 0)
    have er : r = (t 1 h).toNat := by omega
    subst er
    obtain ⟨σ1, e1, a1, b1, c1⟩ := su_ex σ 11 0 (σ 11 0 + (wS t h (σ0 10) (oX σ0) (4 * (t 1 h).toNat)).2)
    refine ⟨σ1, ?_, fun q hq => by rw [a1 q hq, a q hq], fun q q0 q1 => ?_⟩
    · show p_X1_passYear_26b (p_X1_passYear_26 f) 9 oh _ _ σ = _
      unfold p_X1_passYear_26b
      simp only [c92]
      rw [a oh (by omega), hr0.2.1, zm_eq (a := t 1 h) (by omega) (by omega), zm_eq (a := ((t 1 h).toNat : Int)) (by omega) (by omega), if_pos (by omega), nx_eq, e1]
    · unfold nY
      by_cases e : q = 0
      · rw [if_pos e, e, b1, b 0 (by decide) (by decide)]
      · rw [if_neg e, c1 q e, b q q0 q1, Int.add_zero]
  | succ d ih =>
    intro f r σ hk hf a b
    obtain ⟨f, rfl⟩ := Nat.exists_eq_succ_of_ne_zero (by omega : f ≠ 0)
    obtain ⟨σ1, e1, a1, b1⟩ := X_py37 hr0 hh (p_X1_passYear_26 f) (r := r) (by omega) 4 FU 0 σ (by omega) (FU_gt (by omega)) a b
    obtain ⟨σ', e', a', b'⟩ := ih f (r + 1) σ1 (by omega) (by omega) a1 b1
    refine ⟨σ', ?_, a', b'⟩
    refine Eq.trans ?_ e'
    show p_X1_passYear_26b (p_X1_passYear_26 f) 9 oh _ _ σ = _
    unfold p_X1_passYear_26b
    rw [a oh (by omega), hr0.2.1, zm_eq (a := t 1 h) (by omega) (by omega), zm_eq (a := (r : Int)) (by omega) (by omega), if_neg (by omega)]
    exact e1
theorem X_py112 : ∀ (d f r : Nat) (σ : St), r + d = 10 → d < f → ∃ σ', p_X1_passYear_112 f 9 r σ = some (0, σ') ∧ (∀ q : Int, q ≠ 10 → σ' q = σ q) ∧ (∀ j : Int, j < r → σ' 10 j = σ 10 j) ∧ ∀ j : Int, r ≤ j → j < 10 → σ' 10 j = σ 11 j := by
  intro d
  induction d with
  | zero =>
    intro f r σ hk hf
    obtain ⟨f, rfl⟩ := Nat.exists_eq_succ_of_ne_zero (by omega : f ≠ 0)
    refine ⟨σ, ?_, fun _ _ => rfl, fun _ _ => rfl, fun j q1 q2 => by omega⟩
    show p_X1_passYear_112b (p_X1_passYear_112 f) 9 r σ = _
    unfold p_X1_passYear_112b
    rw [zm_eq (a := (r : Int)) (by omega) (by omega), if_pos (by omega)]
  | succ d ih =>
    intro f r σ hk hf
    obtain ⟨f, rfl⟩ := Nat.exists_eq_succ_of_ne_zero (by omega : f ≠ 0)
    obtain ⟨σ1, e1, a1, b1, c1⟩ := su_ex σ 10 r (σ 11 r)
    obtain ⟨σ', e', a', b', c'⟩ := ih f (r + 1) σ1 (by omega) (by omega)
    refine ⟨σ', ?_, fun q hq => by rw [a' q hq, a1 q hq], fun j hj => by rw [b' j (by omega), c1 j (by omega)], fun j q1 q2 => ?_⟩
    · refine Eq.trans ?_ e'
      show p_X1_passYear_112b (p_X1_passYear_112 f) 9 r σ = _
      unfold p_X1_passYear_112b
      simp only [c91, c92]
      rw [zm_eq (a := (r : Int)) (by omega) (by omega), if_neg (by omega), gd_pos (by omega), nx_eq, e1]
      rfl
    · by_cases e : j = r
      · subst e
        rw [b' _ (by omega), b1]
      · rw [c' j (by omega) q2, a1 11 (by decide)]
theorem X_py2 {oh : Int} : ∀ (d f r : Nat) (σ : St), r + d = 10 → d < f → ∃ σ', p_X1_passYear_2 f 9 oh r σ = p_X1_passYear_26 FU 9 oh 1000000 0 σ' ∧ (∀ q : Int, q ≠ 11 → σ' q = σ q) ∧ (∀ j : Int, j < r → σ' 11 j = σ 11 j) ∧ ∀ j : Int, r ≤ j → j < 10 → σ' 11 j = 0 := by
  intro d
  induction d with
  | zero =>
    intro f r σ hk hf
    obtain ⟨f, rfl⟩ := Nat.exists_eq_succ_of_ne_zero (by omega : f ≠ 0)
    refine ⟨σ, ?_, fun _ _ => rfl, fun _ _ => rfl, fun j q1 q2 => by omega⟩
    show p_X1_passYear_2b (p_X1_passYear_2 f) 9 oh r σ = _
    unfold p_X1_passYear_2b
    rw [zm_eq (a := (r : Int)) (by omega) (by omega), if_pos (by omega)]
  | succ d ih =>
    intro f r σ hk hf
    obtain ⟨f, rfl⟩ := Nat.exists_eq_succ_of_ne_zero (by omega : f ≠ 0)
    obtain ⟨σ1, e1, a1, b1, c1⟩ := su_ex σ 11 r 0
    obtain ⟨σ', e', a', b', c'⟩ := ih f (r + 1) σ1 (by omega) (by omega)
    refine ⟨σ', ?_, fun q hq => by rw [a' q hq, a1 q hq], fun j hj => by rw [b' j (by omega), c1 j (by omega)], fun j q1 q2 => ?_⟩
    · refine Eq.trans ?_ e'
      show p_X1_passYear_2b (p_X1_passYear_2 f) 9 oh r σ = _
      unfold p_X1_passYear_2b
      simp only [c92]
      rw [zm_eq (a := (r : Int)) (by omega) (by omega), if_neg (by omega), gd_pos (by omega), nx_eq, e1]
      rfl
    · by_cases e : j = r
      · subst e
        rw [b' _ (by omega), b1]
      · rw [c' j (by omega) q2]
theorem X_passYear {σ t : St} {oh h : Int} (hr0 : HR σ oh t h) (hh : HOK t h) : ∃ σ', p_X1_passYear 9 oh σ = some (0, σ') ∧ (∀ q : Int, q ≠ 10 → q ≠ 11 → σ' q = σ q) ∧ (∀ q, 0 ≤ q → q < 10 → σ' 10 q = nY t h (σ 10) (oX σ) q) := by
  have h10 := hh.2.1
  have k0 := kx0 hr0.1
  obtain ⟨σ1, e1, a1, _, c1⟩ := X_py2 (oh := oh) 10 FU 0 σ (by omega) (FU_gt (by omega))
  have hr1 : HR σ1 oh t h := hr0.to (a1 _ (by omega)) (a1 _ (by omega))
  obtain ⟨σ2, e2, a2, b2⟩ := X_py26 hr1 hh (t 1 h).toNat FU 0 σ1 (by omega) (FU_gt (by omega)) (fun _ _ => rfl) (fun q q0 q1 => c1 q q0 q1)
  obtain ⟨σ3, e3, a3, _, c3⟩ := X_py112 10 FU 0 σ2 (by omega) (FU_gt (by omega))
  have eO : oX σ1 = oX σ := by
    funext r k
    show σ1 12 _ = σ 12 _
    rw [a1 12 (by decide)]
  refine ⟨σ3, ?_, fun q q1 q2 => by rw [a3 q q1, a2 q q2, a1 q q2], fun q q0 q1 => ?_⟩
  · unfold p_X1_passYear
    have z0 : ((0 : Nat) : Int) = 0 := rfl
    rw [z0] at e1 e2 e3
    have w0 : (wS t h (σ1 10) (oX σ1) (4 * 0)).2 = 1000000 := rfl
    rw [w0] at e2
    rw [e1, e2, e3]
  · rw [c3 q q0 q1, b2 q q0 q1, eO, a1 10 (by decide)]
theorem X_gt36 {t : St} {oh h v : Int} (hh : HOK t h) (hv : 0 ≤ v ∧ v ≤ 30) {O : Int → Int → Int} : ∀ (d f y : Nat) (σ : St), (y : Int) + d = v → d < f → HR σ oh t h → (∀ r k : Int, 0 ≤ r → r < t 1 h → 0 ≤ k → k ≤ 3 → σ 12 (4 * r + k) = O r k) → (∀ r, 0 ≤ r → r < t 1 h → σ 10 r = Pp t h O y r) → ∃ σ', p_X1_goTo_36 f 9 oh v y σ = some (0, σ') ∧ (∀ q : Int, q ≠ 10 → q ≠ 11 → σ' q = σ q) ∧ (∀ r, 0 ≤ r → r < t 1 h → σ' 10 r = Pp t h O v.toNat r) := by
  have h10 := hh.2.1
  intro d
  induction d with
  | zero =>
    intro f y σ hy hf hr hO hP
    obtain ⟨f, rfl⟩ := Nat.exists_eq_succ_of_ne_zero (by omega : f ≠ 0)
    have ey : y = v.toNat := by omega
    subst ey
    refine ⟨σ, ?_, fun _ _ _ => rfl, hP⟩
    show p_X1_goTo_36b (p_X1_goTo_36 f) 9 oh v _ σ = _
    unfold p_X1_goTo_36b
    rw [zm_eq (a := v) (by omega) (by omega), zm_eq (a := (v.toNat : Int)) (by omega) (by omega), if_pos (by omega)]
  | succ d ih =>
    intro f y σ hy hf hr hO hP
    obtain ⟨f, rfl⟩ := Nat.exists_eq_succ_of_ne_zero (by omega : f ≠ 0)
    have k0 := kx0 hr.1
    obtain ⟨σ1, e1, a1, b1⟩ := X_passYear hr hh
    obtain ⟨σ', e', a', b'⟩ := ih f (y + 1) σ1 (by omega) (by omega) (hr.to (a1 _ (by omega) (by omega)) (a1 _ (by omega) (by omega))) (fun r k r0 r1 k0 k3 => by rw [a1 12 (by decide) (by decide)]; exact hO r k r0 r1 k0 k3) (fun r r0 r1 => by
      rw [b1 r r0 (by omega)]
      exact nY_c (by omega) hP hO r)
    refine ⟨σ', ?_, fun q q1 q2 => by rw [a' q q1 q2, a1 q q1 q2], b'⟩
    refine Eq.trans ?_ e'
    show p_X1_goTo_36b (p_X1_goTo_36 f) 9 oh v _ σ = _
    unfold p_X1_goTo_36b
    rw [zm_eq (a := v) (by omega) (by omega), zm_eq (a := (y : Int)) (by omega) (by omega), if_neg (by omega), e1]
    simp only [bnd_some]
    rfl
theorem X_gt2 {t : St} {oh h v : Int} (hh : HOK t h) : ∀ (d f r : Nat) (σ : St), r + d = 10 → d < f → HR σ oh t h → ∃ σ', p_X1_goTo_2 f 9 oh v r σ = p_X1_goTo_36 FU 9 oh v 0 σ' ∧ (∀ q : Int, q ≠ 10 → σ' q = σ q) ∧ (∀ j : Int, j < r → σ' 10 j = σ 10 j) ∧ ∀ j : Int, r ≤ j → j < 10 → σ' 10 j = (if j = t 7 h then 1000000 else 0) := by
  have h7 := hh.2.2.2.2.2.2
  have h10 := hh.2.1
  intro d
  induction d with
  | zero =>
    intro f r σ hk hf hr
    obtain ⟨f, rfl⟩ := Nat.exists_eq_succ_of_ne_zero (by omega : f ≠ 0)
    refine ⟨σ, ?_, fun _ _ => rfl, fun _ _ => rfl, fun j q1 q2 => by omega⟩
    show p_X1_goTo_2b (p_X1_goTo_2 f) 9 oh v r σ = _
    unfold p_X1_goTo_2b
    rw [zm_eq (a := (r : Int)) (by omega) (by omega), if_pos (by omega)]
  | succ d ih =>
    intro f r σ hk hf hr
    obtain ⟨f, rfl⟩ := Nat.exists_eq_succ_of_ne_zero (by omega : f ≠ 0)
    have k0 := kx0 hr.1
    obtain ⟨σ1, e1, a1, b1, c1⟩ := su_ex σ 10 r (if (r : Int) = t 7 h then 1000000 else 0)
    obtain ⟨σ', e', a', b', c'⟩ := ih f (r + 1) σ1 (by omega) (by omega) (hr.to (a1 _ (by omega)) (a1 _ (by omega)))
    refine ⟨σ', ?_, fun q hq => by rw [a' q hq, a1 q hq], fun j hj => by rw [b' j (by omega), c1 j (by omega)], fun j q1 q2 => ?_⟩
    · refine Eq.trans ?_ e'
      show p_X1_goTo_2b (p_X1_goTo_2 f) 9 oh v r σ = _
      unfold p_X1_goTo_2b p_X1_goTo_27
      simp only [c91, nx_eq]
      rw [zm_eq (a := (r : Int)) (by omega) (by omega), if_neg (by omega), hr.2.2.2.2.2.2.1, zm_eq (a := t 7 h) (by omega) (by omega)]
      by_cases q : (r : Int) = t 7 h
      · rw [if_pos q] at e1
        rw [if_pos q, gd_pos (by omega), e1]
        rfl
      · rw [if_neg q] at e1
        rw [if_neg q, gd_pos (by omega), e1]
        rfl
    · by_cases e : j = r
      · subst e
        rw [b' _ (by omega), b1]
      · rw [c' j (by omega) q2]
theorem X_goTo {σ t : St} {oh h v : Int} (hh : HOK t h) (hv : 0 ≤ v ∧ v ≤ 30) {O : Int → Int → Int} (hr : HR σ oh t h) (hO : ∀ r k : Int, 0 ≤ r → r < t 1 h → 0 ≤ k → k ≤ 3 → σ 12 (4 * r + k) = O r k) : ∃ σ', p_X1_goTo 9 oh v σ = some (0, σ') ∧ (∀ q : Int, q ≠ 10 → q ≠ 11 → σ' q = σ q) ∧ (∀ r, 0 ≤ r → r < t 1 h → σ' 10 r = Pp t h O v.toNat r) := by
  have h10 := hh.2.1
  have k0 := kx0 hr.1
  obtain ⟨σ1, e1, a1, _, c1⟩ := X_gt2 (v := v) hh 10 FU 0 σ (by omega) (FU_gt (by omega)) hr
  obtain ⟨σ2, e2, a2, b2⟩ := X_gt36 hh hv (O := O) v.toNat FU 0 σ1 (by omega) (FU_gt (by omega)) (hr.to (a1 _ (by omega)) (a1 _ (by omega))) (fun r k r0 r1 k0 k3 => by rw [a1 12 (by decide)]; exact hO r k r0 r1 k0 k3) (fun r r0 r1 => (c1 r r0 (by omega)).trans rfl)
  refine ⟨σ2, ?_, fun q q1 q2 => by rw [a2 q q1 q2, a1 q q1], b2⟩
  unfold p_X1_goTo
  have z0 : ((0 : Nat) : Int) = 0 := rfl
  rw [z0] at e1 e2
  rw [e1, e2]
