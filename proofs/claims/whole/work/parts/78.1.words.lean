/-! words -/
def MW (T : Int → Int) (p n : Int) (w : Nat) : Prop := n = slen w ∧ ∀ j, 0 ≤ j → j < slen w → T (p + j) = sch w j
/-- a word said, as the reference reckons it -/
def sd (T : Int → Int) (p : Int) : Nat → Int
  | 0 => 0
  | n + 1 => if sd T p n ≤ 1000000000000 then 27 * sd T p n + T (p + n) - 96 else 2000000000000
/-- the same of a word told backwards -/
def cr : List Int → Int
  | [] => 0
  | b :: l => 27 * cr l + b - 96
def mt (T : Int → Int) (p : Int) : List Int → Nat → Prop
  | [], n => n = 0
  | b :: l, n => ∃ m, n = m + 1 ∧ T (p + m) = b ∧ mt T p l m
theorem sd_bd {T : Int → Int} {p : Int} : ∀ n : Nat, (∀ i, p ≤ i → i < p + n → lt_ (T i)) → 0 ≤ sd T p n ∧ sd T p n ≤ 27000000000026 ∧ (0 < n → 0 < sd T p n)
  | 0, _ => ⟨by show (0 : Int) ≤ 0; decide, by show (0 : Int) ≤ 27000000000026; decide, fun q => by omega⟩
  | n + 1, h => by
    have i := sd_bd n (fun i a b => h i a (by omega))
    have t := h (p + n) (by omega) (by omega)
    show 0 ≤ (if sd T p n ≤ 1000000000000 then 27 * sd T p n + T (p + n) - 96 else 2000000000000) ∧ (if sd T p n ≤ 1000000000000 then 27 * sd T p n + T (p + n) - 96 else 2000000000000) ≤ 27000000000026 ∧ (0 < n + 1 → 0 < (if sd T p n ≤ 1000000000000 then 27 * sd T p n + T (p + n) - 96 else 2000000000000))
    by_cases c : sd T p n ≤ 1000000000000
    · rw [if_pos c]; omega
    · rw [if_neg c]; omega
theorem cr_nn : ∀ l : List Int, (∀ b ∈ l, lt_ b) → 0 ≤ cr l
  | [], _ => by show (0 : Int) ≤ 0; decide
  | b :: l, h => by
    have i := cr_nn l (fun x hx => h x (List.mem_cons_of_mem _ hx))
    have t := h b List.mem_cons_self
    show 0 ≤ 27 * cr l + b - 96
    omega
theorem sd_mt {T : Int → Int} {p : Int} : ∀ (l : List Int) (n : Nat), (∀ b ∈ l, lt_ b) → cr l ≤ 1000000000000 → (∀ i, p ≤ i → i < p + n → lt_ (T i)) → (sd T p n = cr l ↔ mt T p l n)
  | [], n, _, _, h => by
    have b := sd_bd n h
    show sd T p n = 0 ↔ n = 0
    constructor
    · intro q
      by_cases z : n = 0
      · exact z
      · have := b.2.2 (by omega); omega
    · rintro rfl
      rfl
  | b :: l, 0, hb, _, _ => by
    have i := cr_nn l (fun x hx => hb x (List.mem_cons_of_mem _ hx))
    have t := hb b List.mem_cons_self
    show (0 : Int) = 27 * cr l + b - 96 ↔ ∃ m : Nat, 0 = m + 1 ∧ T (p + m) = b ∧ mt T p l m
    constructor
    · intro q; omega
    · rintro ⟨m, q, _⟩; omega
  | b :: l, n + 1, hb, hc, h => by
    have i := cr_nn l (fun x hx => hb x (List.mem_cons_of_mem _ hx))
    have t := hb b List.mem_cons_self
    have d := h (p + n) (by omega) (by omega)
    have hc' : 27 * cr l + b - 96 ≤ 1000000000000 := hc
    have ih := sd_mt l n (fun x hx => hb x (List.mem_cons_of_mem _ hx)) (by omega) (fun i a b => h i a (by omega))
    have sb := sd_bd (T := T) (p := p) n (fun i a b => h i a (by omega))
    show (if sd T p n ≤ 1000000000000 then 27 * sd T p n + T (p + n) - 96 else 2000000000000) = 27 * cr l + b - 96 ↔ ∃ m : Nat, n + 1 = m + 1 ∧ T (p + m) = b ∧ mt T p l m
    by_cases c : sd T p n ≤ 1000000000000
    · rw [if_pos c]
      constructor
      · intro q
        exact ⟨n, rfl, by omega, ih.1 (by omega)⟩
      · rintro ⟨m, q1, q2, q3⟩
        have : m = n := by omega
        subst this
        have := ih.2 q3
        omega
    · rw [if_neg c]
      constructor
      · intro q; omega
      · rintro ⟨m, q1, q2, q3⟩
        have : m = n := by omega
        subst this
        have := ih.2 q3
        omega
theorem mt_get {T : Int → Int} {p : Int} : ∀ (l : List Int) (n : Nat), mt T p l n ↔ (n = l.length ∧ ∀ j : Nat, j < l.length → T (p + j) = l.getD (l.length - 1 - j) 0)
  | [], n => by
    show n = 0 ↔ _
    constructor
    · intro q; exact ⟨q, fun j hj => absurd hj (Nat.not_lt_zero _)⟩
    · exact fun q => q.1
  | b :: l, n => by
    show (∃ m, n = m + 1 ∧ T (p + m) = b ∧ mt T p l m) ↔ _
    constructor
    · rintro ⟨m, q1, q2, q3⟩
      obtain ⟨r1, r2⟩ := (mt_get l m).1 q3
      refine ⟨by rw [q1, r1]; rfl, fun j hj => ?_⟩
      have hj' : j < l.length + 1 := hj
      by_cases e : j = l.length
      · rw [e, ← r1, q2, show (b :: l).length - 1 - m = 0 by rw [List.length_cons]; omega]
        rfl
      · have z := r2 j (by omega)
        rw [z, show (b :: l).length - 1 - j = (l.length - 1 - j) + 1 by rw [List.length_cons]; omega]
        rfl
    · rintro ⟨q1, q2⟩
      have q1' : n = l.length + 1 := q1
      refine ⟨l.length, q1', ?_, (mt_get l l.length).2 ⟨rfl, fun j hj => ?_⟩⟩
      · have z := q2 l.length (by rw [List.length_cons]; omega)
        rw [show (b :: l).length - 1 - l.length = 0 by rw [List.length_cons]; omega] at z
        exact z
      · have z := q2 j (by rw [List.length_cons]; omega)
        rw [show (b :: l).length - 1 - j = (l.length - 1 - j) + 1 by rw [List.length_cons]; omega] at z
        exact z
def rW (w : Nat) : List Int := ((stB.getD w []).map Int32.toInt).reverse
def cw (w : Nat) : Int := cr (rW w)
theorem rW_all : ∀ w, w < 11 → (((rW w).length : Int) = slen w ∧ (rW w).length ≤ 6 ∧ 2 ≤ (rW w).length) ∧ (∀ b ∈ rW w, lt_ b) ∧ cw w ≤ 1000000000000 ∧ ∀ j : Nat, j < 6 → j < (rW w).length → (rW w).getD ((rW w).length - 1 - j) 0 = sch w (j : Int) := by decide +kernel
theorem sd_MW {T : Int → Int} {L p q : Int} {w : Nat} (hw : w < 11) (h : RN lt_ T L p q) : sd T p (q - p).toNat = cw w ↔ MW T p (q - p) w := by
  obtain ⟨⟨a1, a2, _⟩, a3, a4, a5⟩ := rW_all w hw
  have h1 := h.1
  have e : cw w = cr (rW w) := rfl
  rw [e, sd_mt (rW w) (q - p).toNat a3 a4 (fun i b c => h.2.1 i b (by omega)), mt_get]
  unfold MW
  rw [← a1]
  constructor
  · rintro ⟨q1, q2⟩
    refine ⟨by omega, fun j j0 j1 => ?_⟩
    have z := q2 j.toNat (by omega)
    rw [a5 j.toNat (by omega) (by omega), Int.toNat_of_nonneg j0] at z
    exact z
  · rintro ⟨q1, q2⟩
    refine ⟨by omega, fun j hj => ?_⟩
    rw [a5 j (by omega) hj]
    exact q2 j (by omega) (by omega)
theorem zc_MW {T : Int → Int} {L p q : Int} {w : Nat} (hw : w < 11) (h : RN lt_ T L p q) : zm (zcmp (sd T p (q - p).toNat) (cw w)) = 0 ↔ MW T p (q - p) w := by
  have h1 := h.1
  have b := sd_bd (T := T) (p := p) (q - p).toNat (fun i b c => h.2.1 i b (by omega))
  obtain ⟨_, a3, a4, _⟩ := rW_all w hw
  have c0 : 0 ≤ cw w := cr_nn (rW w) a3
  rw [zcmp_eq, zl_eq (by omega) (by omega), zl_eq (by omega) (by omega), sd_MW hw h]
theorem zm_toInt (x : Int32) : zm x.toInt = x.toInt := by
  unfold zm
  rw [Int32.ofInt_toInt]
theorem zm_sch (w : Nat) (k : Int) : zm (sch w k) = sch w k := zm_toInt _
theorem X_iw28 {σ : St} {T : Int → Int} {L p : Int} {w : Nat} (tx : TXx σ T L) (h5 : σ 1 5 = p) (hp : 0 ≤ p) (hs : 0 ≤ slen w ∧ slen w ≤ 6) (hL : p + slen w ≤ L) : ∀ (d f j : Nat), (j : Int) + d = slen w → d < f → ∃ a : Int, p_X4_isWord_28 f 1 w j σ = some (a, σ) ∧ (a = 0 ∨ a = 1) ∧ (a = 1 ↔ ∀ i : Int, j ≤ i → i < slen w → T (p + i) = sch w i) := by
  have t2 := tx.2.1
  intro d
  induction d with
  | zero =>
    intro f j hj hf
    obtain ⟨f, rfl⟩ := Nat.exists_eq_succ_of_ne_zero (by omega : f ≠ 0)
    refine ⟨1, ?_, Or.inr rfl, ⟨fun _ i a b => by omega, fun _ => rfl⟩⟩
    show p_X4_isWord_28b (p_X4_isWord_28 f) 1 w j σ = _
    unfold p_X4_isWord_28b
    rw [zm_eq (a := slen w) (by omega) (by omega), zm_eq (a := (j : Int)) (by omega) (by omega), if_pos (by omega)]
  | succ d ih =>
    intro f j hj hf
    obtain ⟨f, rfl⟩ := Nat.exists_eq_succ_of_ne_zero (by omega : f ≠ 0)
    obtain ⟨t3, t4⟩ := tx.2.2 (p + j) (by omega) (by omega)
    have e : p_X4_isWord_28 (f + 1) 1 w j σ = if T (p + j) = sch w j then p_X4_isWord_28 f 1 w (j + 1) σ else some (0, σ) := by
      show p_X4_isWord_28b (p_X4_isWord_28 f) 1 w j σ = _
      unfold p_X4_isWord_28b
      rw [h5, zm_eq (a := slen w) (by omega) (by omega), zm_eq (a := (j : Int)) (by omega) (by omega), if_neg (by omega), zm_eq (a := p + (j : Int)) (by omega) (by omega), gd_pos (by omega), gd_pos (by omega), c11, t3, zm_eq (a := T (p + j)) (by omega) (by omega), zm_sch]
    by_cases c : T (p + j) = sch w j
    · rw [if_pos c] at e
      obtain ⟨a, a1, a2, a3⟩ := ih f (j + 1) (by omega) (by omega)
      refine ⟨a, e.trans a1, a2, a3.trans ⟨fun q i i0 i1 => ?_, fun q i i0 i1 => q i (by omega) i1⟩⟩
      by_cases z : i = j
      · rw [z]; exact c
      · exact q i (by omega) i1
    · rw [if_neg c] at e
      exact ⟨0, e, Or.inl rfl, ⟨fun q => absurd q (by decide), fun q => absurd (q j (by omega) (by omega)) c⟩⟩
theorem X_isWord {σ : St} {T : Int → Int} {L p q : Int} {w : Nat} (hw : w < 11) (tx : TXx σ T L) (to : TO σ T L p) (rn : RN lt_ T L p q) : ∃ a : Int, p_X4_isWord 1 w σ = some (a, σ) ∧ (a = 0 ∨ a = 1) ∧ (a = 1 ↔ MW T p (q - p) w) := by
  have t2 := tx.2.1
  obtain ⟨⟨a1, a2, a2'⟩, _⟩ := rW_all w hw
  have hs : 2 ≤ slen w ∧ slen w ≤ 6 := by omega
  obtain ⟨o1, o2, o3, o4⟩ := to
  have no : σ 1 4 ≠ 1 → (0 ≤ σ 1 4 ∧ σ 1 4 ≤ 4) → q = p → ∃ a : Int, p_X4_isWord 1 w σ = some (a, σ) ∧ (a = 0 ∨ a = 1) ∧ (a = 1 ↔ MW T p (q - p) w) := fun n b e => by
    refine ⟨0, ?_, Or.inl rfl, ⟨fun z => absurd z (by decide), fun z => ?_⟩⟩
    · unfold p_X4_isWord
      rw [zm_eq (a := σ 1 4) (by omega) (by omega), if_neg n]
    · have := z.1; omega
  have qp : ¬ lt_ (T p) → q = p := fun n => by
    have r1 := rn.1
    rcases (by omega : q = p ∨ p < q) with z | z
    · exact z
    · exact absurd (rn.2.1 p (by omega) z) n
  rcases o4 with ⟨a, b, c⟩ | ⟨a, b, c, d⟩ | ⟨a, b, c, d, e⟩ | ⟨a, b, c, d⟩ | ⟨a, b, c, d, e, f⟩
  · have r1 := rn.1
    exact no (by omega) (by omega) (by omega)
  · have e6 : σ 1 6 = q := RN.un d rn
    have r1 := rn.1
    have kind : p_X4_isWord 1 w σ = if q - p = slen w then p_X4_isWord_28 FU 1 w 0 σ else some (0, σ) := by
      unfold p_X4_isWord
      rw [c, if_pos (by decide), e6, o1, zm_eq (a := q - p) (by omega) (by omega), zm_eq (a := slen w) (by omega) (by omega)]
    by_cases z : q - p = slen w
    · rw [if_pos z] at kind
      obtain ⟨x, x1, x2, x3⟩ := X_iw28 (w := w) tx o1 o2.1 (by omega) (by omega) (slen w).toNat FU 0 (by omega) (FU_gt (by omega))
      exact ⟨x, kind.trans x1, x2, x3.trans ⟨fun y => ⟨z, fun j j0 j1 => y j j0 j1⟩, fun y j j0 j1 => y.2 j j0 j1⟩⟩
    · rw [if_neg z] at kind
      exact ⟨0, kind, Or.inl rfl, ⟨fun y => absurd y (by decide), fun y => absurd y.1 z⟩⟩
  · exact no (by omega) (by omega) (qp (by unfold lt_; unfold fg_ at b; omega))
  · exact no (by omega) (by omega) (qp (by unfold lt_; omega))
  · exact no (by omega) (by omega) (qp b)
