/-! the long run: what it is -/
theorem nx_eq (x : St) (f : St → Option (Int × St)) : nx x f = f x := by rw [nx]
theorem nz_eq (x : Int) (f : Int → Option (Int × St)) : nz x f = f x := by rw [nz]
def asm (t : St) (s h ru r m k : Int) (g f : Int → Int) : Int := sm (fun i => if ask t h ru r m k g (t 9 (8 * s + i)) then f i else 0) (t 8 s).toNat
theorem asm_fst {t : St} {s h ru r m k fa : Int} {g : Int → Int} (f : Int → Int) (hf : fst_ t s h ru r m k g fa) : asm t s h ru r m k g f = sx f (t 8 s).toNat fa.toNat := by
  obtain ⟨f0, f1, f2⟩ := hf
  have lo : ∀ j : Nat, (j : Int) ≤ fa → sm (fun i => if ask t h ru r m k g (t 9 (8 * s + i)) then f i else 0) j = 0 := by
    intro j
    induction j with
    | zero => intro _; rfl
    | succ j ih =>
      intro hj
      show sm _ j + (if ask t h ru r m k g (t 9 (8 * s + j)) then f j else 0) = 0
      rw [ih (by omega), if_neg (fun q => by have := (f2 j (by omega) (by omega)).1 q; omega)]
      rfl
  have hi : ∀ j : Nat, fa ≤ (j : Int) → (j : Int) ≤ t 8 s → sm (fun i => if ask t h ru r m k g (t 9 (8 * s + i)) then f i else 0) j = sm f j - sm f fa.toNat := by
    intro j
    induction j with
    | zero =>
      intro h1 _
      rw [show fa.toNat = 0 by omega]
      show (0 : Int) = 0 - 0
      omega
    | succ j ih =>
      intro h1 h2
      by_cases e : fa = ((j + 1 : Nat) : Int)
      · rw [lo (j + 1) (by omega), show fa.toNat = j + 1 by omega]
        omega
      · have ih := ih (by omega) (by omega)
        show sm _ j + (if ask t h ru r m k g (t 9 (8 * s + j)) then f j else 0) = sm f j + f j - sm f fa.toNat
        rw [ih, if_pos ((f2 j (by omega) (by omega)).2 (by omega))]
        omega
  unfold asm sx
  exact hi (t 8 s).toNat (by omega) (by omega)
theorem ask_c {a b : St} (h : eqT a b) {q ru r m k : Int} {g : Int → Int} {S : Int} : ask a q ru r m k g S ↔ ask b q ru r m k g S := by
  unfold ask
  rw [brc_ h, bea_c h]
theorem asm_f {t : St} {s h ru r m k : Int} {g f f' : Int → Int} (e : ∀ i, 0 ≤ i → i < t 8 s → f i = f' i) : asm t s h ru r m k g f = asm t s h ru r m k g f' := by
  unfold asm
  refine sm_congr _ (fun i i0 i1 => ?_)
  rw [e i i0 (by omega)]
theorem asm_c {a b : St} (h : eqT a b) {s q ru r m k : Int} {g f : Int → Int} : asm a s q ru r m k g f = asm b s q ru r m k g f := by
  unfold asm
  rw [h 8 (by decide) (by decide) (by decide), h 9 (by decide) (by decide) (by decide)]
  refine sm_congr _ (fun i i0 i1 => ?_)
  have z := ask_c (q := q) (ru := ru) (r := r) (m := m) (k := k) (g := g) (S := b 9 (8 * s + i)) h
  by_cases c : ask a q ru r m k g (b 9 (8 * s + i))
  · rw [if_pos c, if_pos (z.1 c)]
  · rw [if_neg c, if_neg (fun x => c (z.2 x))]
theorem asm_g {t : St} {s h ru r m k : Int} {g g' f : Int → Int} (hk : 0 ≤ k ∧ k ≤ 3) (hg : 0 ≤ ru ∨ ∀ k, 0 ≤ k → k ≤ 3 → g k = g' k) : asm t s h ru r m k g f = asm t s h ru r m k g' f := by
  have hmk := mo_bd hk
  have q : ∀ S, ask t h ru r m k g S ↔ ask t h ru r m k g' S := fun S => by
    unfold ask
    rcases hg with hr | hg
    · constructor
      · rintro (q | q)
        · exact Or.inl q
        · omega
      · rintro (q | q)
        · exact Or.inl q
        · omega
    · rw [hg k hk.1 hk.2, hg (mo k) hmk.1 hmk.2]
  unfold asm
  refine sm_congr _ (fun i i0 i1 => ?_)
  by_cases c : ask t h ru r m k g (t 9 (8 * s + i))
  · rw [if_pos c, if_pos ((q _).1 c)]
  · rw [if_neg c, if_neg (fun x => c ((q _).2 x))]
/-- those who go on, what the house bears, of q by chances -/
def goX (q ca : Int → Int) (k : Int) : Int := (zl (zm (q k) * ca k)).tdiv 1000
def boX (q hb : Int → Int) (k : Int) : Int := (zl (zm (q k) * hb k)).tdiv 1000000
def mq (q ca : Int → Int) : Int → Int := fun k => if k = 0 then q 0 - goX q ca 0 else if k = 1 then q 1 - goX q ca 1 + goX q ca 0 else if k = 2 then q 2 - goX q ca 2 + goX q ca 1 else q 3 + goX q ca 2
def mb (q hb : Int → Int) : Int := boX q hb 0 + boX q hb 1 + boX q hb 2 + boX q hb 3
def yq (ca : Int → Int → Int) : Nat → Int → Int
  | 0 => fun k => if k = 0 then 1000000 else 0
  | m + 1 => mq (yq ca m) (ca m)
def yb (ca hb : Int → Int → Int) : Nat → Int
  | 0 => 0
  | m + 1 => yb ca hb m + mb (yq ca m) (hb m)
theorem goX_c {q q' ca ca' : Int → Int} {k : Int} (a : q k = q' k) (b : ca k = ca' k) : goX q ca k = goX q' ca' k := by
  unfold goX
  rw [a, b]
theorem boX_c {q q' ca ca' : Int → Int} {k : Int} (a : q k = q' k) (b : ca k = ca' k) : boX q ca k = boX q' ca' k := by
  unfold boX
  rw [a, b]
theorem mq_c {q q' ca ca' : Int → Int} (a : ∀ k, 0 ≤ k → k ≤ 3 → q k = q' k) (b : ∀ k, 0 ≤ k → k ≤ 3 → ca k = ca' k) : ∀ k, mq q ca k = mq q' ca' k := fun k => by
  unfold mq
  rw [a 0 (by decide) (by decide), a 1 (by decide) (by decide), a 2 (by decide) (by decide), a 3 (by decide) (by decide), goX_c (a 0 (by decide) (by decide)) (b 0 (by decide) (by decide)), goX_c (a 1 (by decide) (by decide)) (b 1 (by decide) (by decide)), goX_c (a 2 (by decide) (by decide)) (b 2 (by decide) (by decide))]
theorem mb_c {q q' ca ca' : Int → Int} (a : ∀ k, 0 ≤ k → k ≤ 3 → q k = q' k) (b : ∀ k, 0 ≤ k → k ≤ 3 → ca k = ca' k) : mb q ca = mb q' ca' := by
  unfold mb
  rw [boX_c (a 0 (by decide) (by decide)) (b 0 (by decide) (by decide)), boX_c (a 1 (by decide) (by decide)) (b 1 (by decide) (by decide)), boX_c (a 2 (by decide) (by decide)) (b 2 (by decide) (by decide)), boX_c (a 3 (by decide) (by decide)) (b 3 (by decide) (by decide))]
theorem yq_c {ca ca' : Int → Int → Int} : ∀ (n : Nat), (∀ m k : Int, 0 ≤ m → m < n → 0 ≤ k → k ≤ 3 → ca m k = ca' m k) → ∀ k, yq ca n k = yq ca' n k
  | 0, _, _ => rfl
  | n + 1, e, k => by
    show mq (yq ca n) (ca n) k = mq (yq ca' n) (ca' n) k
    exact mq_c (fun k _ _ => yq_c n (fun m k a1 a2 a3 a4 => e m k a1 (by omega) a3 a4) k) (fun k a b => e n k (by omega) (by omega) a b) k
theorem yb_c {ca ca' hb hb' : Int → Int → Int} : ∀ (n : Nat), (∀ m k : Int, 0 ≤ m → m < n → 0 ≤ k → k ≤ 3 → ca m k = ca' m k) → (∀ m k : Int, 0 ≤ m → m < n → 0 ≤ k → k ≤ 3 → hb m k = hb' m k) → yb ca hb n = yb ca' hb' n
  | 0, _, _ => rfl
  | n + 1, e, e' => by
    show yb ca hb n + mb (yq ca n) (hb n) = yb ca' hb' n + mb (yq ca' n) (hb' n)
    rw [yb_c n (fun m k a1 a2 a3 a4 => e m k a1 (by omega) a3 a4) (fun m k a1 a2 a3 a4 => e' m k a1 (by omega) a3 a4), mb_c (fun k _ _ => yq_c n (fun m k a1 a2 a3 a4 => e m k a1 (by omega) a3 a4) k) (fun k a b => e' n k (by omega) (by omega) a b)]
/-! bounds -/
theorem mul_div_le {q c d : Int} (hq : 0 ≤ q ∧ q ≤ 1000000) (hc : 0 ≤ c ∧ c ≤ d) (hd : 0 < d ∧ d ≤ 1000000) : 0 ≤ (zl (zm q * c)).tdiv d ∧ (zl (zm q * c)).tdiv d ≤ q := by
  have h1 : 0 ≤ q * c := Int.mul_nonneg hq.1 hc.1
  have h2 : q * c ≤ q * d := Int.mul_le_mul_of_nonneg_left hc.2 hq.1
  have h3 : q * d ≤ 1000000 * d := Int.mul_le_mul_of_nonneg_right hq.2 (by omega)
  rw [zm_eq (a := q) (by omega) (by omega), zl_eq (by omega) (by omega), Int.tdiv_eq_ediv_of_nonneg h1]
  refine ⟨Int.ediv_nonneg h1 (by omega), ?_⟩
  have h4 := Int.ediv_le_ediv hd.1 h2
  rwa [Int.mul_ediv_cancel _ (by omega)] at h4
theorem yq_bd {ca : Int → Int → Int} : ∀ (n : Nat), (∀ m k : Int, 0 ≤ m → m < n → 0 ≤ k → k ≤ 3 → 0 ≤ ca m k ∧ ca m k ≤ 1000) → (0 ≤ yq ca n 0 ∧ 0 ≤ yq ca n 1 ∧ 0 ≤ yq ca n 2 ∧ 0 ≤ yq ca n 3 ∧ yq ca n 0 + yq ca n 1 + yq ca n 2 + yq ca n 3 = 1000000)
  | 0, _ => by
    show (0 : Int) ≤ 1000000 ∧ (0 : Int) ≤ 0 ∧ (0 : Int) ≤ 0 ∧ (0 : Int) ≤ 0 ∧ (1000000 : Int) + 0 + 0 + 0 = 1000000
    decide
  | n + 1, e => by
    obtain ⟨b0, b1, b2, b3, bs⟩ := yq_bd n (fun m k a1 a2 a3 a4 => e m k a1 (by omega) a3 a4)
    have g0 := mul_div_le (q := yq ca n 0) (by omega) (e n 0 (by omega) (by omega) (by decide) (by decide)) (by decide)
    have g1 := mul_div_le (q := yq ca n 1) (by omega) (e n 1 (by omega) (by omega) (by decide) (by decide)) (by decide)
    have g2 := mul_div_le (q := yq ca n 2) (by omega) (e n 2 (by omega) (by omega) (by decide) (by decide)) (by decide)
    show 0 ≤ mq (yq ca n) (ca n) 0 ∧ 0 ≤ mq (yq ca n) (ca n) 1 ∧ 0 ≤ mq (yq ca n) (ca n) 2 ∧ 0 ≤ mq (yq ca n) (ca n) 3 ∧ mq (yq ca n) (ca n) 0 + mq (yq ca n) (ca n) 1 + mq (yq ca n) (ca n) 2 + mq (yq ca n) (ca n) 3 = 1000000
    have m0 : mq (yq ca n) (ca n) 0 = yq ca n 0 - goX (yq ca n) (ca n) 0 := rfl
    have m1 : mq (yq ca n) (ca n) 1 = yq ca n 1 - goX (yq ca n) (ca n) 1 + goX (yq ca n) (ca n) 0 := rfl
    have m2 : mq (yq ca n) (ca n) 2 = yq ca n 2 - goX (yq ca n) (ca n) 2 + goX (yq ca n) (ca n) 1 := rfl
    have m3 : mq (yq ca n) (ca n) 3 = yq ca n 3 + goX (yq ca n) (ca n) 2 := rfl
    rw [m0, m1, m2, m3]
    unfold goX
    omega
theorem yb_bd {ca hb : Int → Int → Int} : ∀ (n : Nat), (∀ m k : Int, 0 ≤ m → m < n → 0 ≤ k → k ≤ 3 → 0 ≤ ca m k ∧ ca m k ≤ 1000) → (∀ m k : Int, 0 ≤ m → m < n → 0 ≤ k → k ≤ 3 → 0 ≤ hb m k ∧ hb m k ≤ 1000000) → 0 ≤ yb ca hb n ∧ yb ca hb n ≤ 1000000 * (n : Int)
  | 0, _, _ => by
    show (0 : Int) ≤ 0 ∧ (0 : Int) ≤ 1000000 * 0
    decide
  | n + 1, e, e' => by
    have i := yb_bd n (fun m k a1 a2 a3 a4 => e m k a1 (by omega) a3 a4) (fun m k a1 a2 a3 a4 => e' m k a1 (by omega) a3 a4)
    obtain ⟨b0, b1, b2, b3, bs⟩ := yq_bd n (fun m k a1 a2 a3 a4 => e m k a1 (by omega) a3 a4)
    have g0 := mul_div_le (q := yq ca n 0) (by omega) (e' n 0 (by omega) (by omega) (by decide) (by decide)) (by decide)
    have g1 := mul_div_le (q := yq ca n 1) (by omega) (e' n 1 (by omega) (by omega) (by decide) (by decide)) (by decide)
    have g2 := mul_div_le (q := yq ca n 2) (by omega) (e' n 2 (by omega) (by omega) (by decide) (by decide)) (by decide)
    have g3 := mul_div_le (q := yq ca n 3) (by omega) (e' n 3 (by omega) (by omega) (by decide) (by decide)) (by decide)
    show 0 ≤ yb ca hb n + mb (yq ca n) (hb n) ∧ yb ca hb n + mb (yq ca n) (hb n) ≤ 1000000 * ((n + 1 : Nat) : Int)
    unfold mb boX
    omega
abbrev caY (t : St) (s h ru p r : Int) (c : Int → Int) : Int → Int → Int := fun m k => asm t s h ru r m k (inM t s h ru p r c (11 - m).toNat) (od t s p)
abbrev hbY (t : St) (s h ru p r : Int) (c : Int → Int) : Int → Int → Int := fun m k => asm t s h ru r m k (inM t s h ru p r c (11 - m).toNat) (qD t s h p)
theorem asm_le {t : St} {s h ru r m k : Int} {g f : Int → Int} (hf : ∀ i, 0 ≤ i → i < t 8 s → 0 ≤ f i) : 0 ≤ asm t s h ru r m k g f ∧ asm t s h ru r m k g f ≤ sm f (t 8 s).toNat := by
  unfold asm
  refine ⟨sm_nonneg _ (fun i i0 i1 => ?_), sm_le _ (fun i i0 i1 => ?_)⟩
  · split
    · exact hf i i0 (by omega)
    · omega
  · have := hf i i0 (by omega)
    split <;> omega
theorem caY_bd {t : St} {s h ru p r : Int} {c : Int → Int} (hs : SOK t s) (hp : p = 0 ∨ (p = 1 ∧ 0 ≤ t 11 s)) (m k : Int) : 0 ≤ caY t s h ru p r c m k ∧ caY t s h ru p r c m k ≤ 1000 := by
  have q := asm_le (t := t) (s := s) (h := h) (ru := ru) (r := r) (m := m) (k := k) (g := inM t s h ru p r c (11 - m).toNat) (fun i i0 i1 => (od_bd hs hp i0 i1).1)
  have q2 := sm_od hs hp
  exact ⟨q.1, by show asm _ _ _ _ _ _ _ _ _ ≤ 1000; omega⟩
theorem hbY_bd {t : St} {s h ru p r : Int} {c : Int → Int} (hs : SOK t s) (hh : HOK t h) (hp : p = 0 ∨ (p = 1 ∧ 0 ≤ t 11 s)) (m k : Int) : 0 ≤ hbY t s h ru p r c m k ∧ hbY t s h ru p r c m k ≤ 1000000 := by
  have nn : ∀ i, 0 ≤ i → i < t 8 s → 0 ≤ qD t s h p i := fun i i0 i1 => by
    have := bea_bd (t := t) (h := h) (S := t 9 (8 * s + i)) hh (by have := hs.2.2.1 i i0 i1; omega)
    exact Int.mul_nonneg (od_bd hs hp i0 i1).1 (by omega)
  have q := asm_le (t := t) (s := s) (h := h) (ru := ru) (r := r) (m := m) (k := k) (g := inM t s h ru p r c (11 - m).toNat) nn
  have q2 := qD_bd (h := h) hs hh hp 0 (by omega)
  have q3 : sx (qD t s h p) (t 8 s).toNat 0 = sm (qD t s h p) (t 8 s).toNat := by
    unfold sx
    show _ - 0 = _
    omega
  exact ⟨q.1, by show asm _ _ _ _ _ _ _ _ _ ≤ 1000000; omega⟩
