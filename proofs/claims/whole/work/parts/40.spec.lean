/-! what is reckoned from the tables: t is the reference's store; rows 1 rungs, 2 pay, 3 kept, 4 down, 5 up, 6 first, 7 enter, 8 scrapes, 9 sums, 10 chances, 11 12 pains, 14 15 rules -/
def sm (f : Int → Int) : Nat → Int
  | 0 => 0
  | n + 1 => sm f n + f (n : Int)
abbrev hasb (v k : Int) : Prop := ¬ zm (zand (zshr v k) 1) = 0
def od (t : St) (s p i : Int) : Int := if p = 0 then t 10 (8 * s + i) else (t 10 (8 * s + i) * (100 - t 12 s)).tdiv 100
def nxt (t : St) (h r k : Int) : Int := if k = 0 then (if t 1 h ≤ r + t 5 h then t 1 h - 1 else r + t 5 h) else (if 0 ≤ r - t 4 h * (if hasb (t 3 h) r then k - 1 else k) then r - t 4 h * (if hasb (t 3 h) r then k - 1 else k) else 0)
def mo (k : Int) : Int := if k = 3 then 3 else k + 1
def bea (t : St) (h S : Int) : Int := if t 6 h ≤ S then t 6 h else S
/-- the bar of a rule from clause k on, n left -/
def brF (t : St) (ru r m : Int) : Nat → Int → Int
  | 0, _ => 0
  | n + 1, k => if (t 15 (30 * ru + 5 * k + 1) ≤ r ∧ r ≤ t 15 (30 * ru + 5 * k + 2)) ∧ (t 15 (30 * ru + 5 * k + 3) ≤ m ∧ m ≤ t 15 (30 * ru + 5 * k + 4)) then t 15 (30 * ru + 5 * k) else brF t ru r m n (k + 1)
def br (t : St) (ru r m : Int) : Int := brF t ru r m (t 14 ru).toNat 0
abbrev ask (t : St) (h ru r m k : Int) (g : Int → Int) (S : Int) : Prop := (0 ≤ ru ∧ br t ru r m ≤ S) ∨ (ru < 0 ∧ 1000 * bea t h S + g (mo k) < 1000 * S + g k)
def by_ (t : St) (h ru r m k : Int) (g : Int → Int) (S : Int) : Int := if ask t h ru r m k g S then 1000 * bea t h S + g (mo k) else 1000 * S + g k
/-- the sum of a month, ahead of the cut -/
def msum (t : St) (s h ru p r m : Int) (g : Int → Int) (k : Int) (n : Nat) : Int := (1000 - sm (od t s p) (t 8 s).toNat) * g k + sm (fun i => od t s p i * by_ t h ru r m k g (t 9 (8 * s + i))) n
def mon (t : St) (s h ru p r m : Int) (g : Int → Int) (k : Int) : Int := (msum t s h ru p r m g k (t 8 s).toNat).tdiv 1000
/-- IN with j months left; c: the years behind -/
def inM (t : St) (s h ru p r : Int) (c : Int → Int) : Nat → Int → Int
  | 0, k => c (nxt t h r k)
  | j + 1, k => mon t s h ru p r (11 - (j : Int)) (inM t s h ru p r c j) k
abbrev pnd (t : St) (s h ru : Int) (c : Int → Int) (r : Int) : Prop := ru < 0 ∧ 0 ≤ t 11 s ∧ 1000 * t 11 s + inM t s h ru 1 r c 12 0 < inM t s h ru 0 r c 12 0
/-- COST with n years left -/
def cst (t : St) (s h ru : Int) : Nat → Int → Int
  | 0, _ => 0
  | n + 1, r => 1000 * t 2 (10 * h + r) + (if pnd t s h ru (cst t s h ru n) r then 1000 * t 11 s + inM t s h ru 1 r (cst t s h ru n) 12 0 else inM t s h ru 0 r (cst t s h ru n) 12 0)
/-- what told sorts, houses, rules are like -/
def SOK (t : St) (s : Int) : Prop := (0 ≤ s ∧ s < 4) ∧ (1 ≤ t 8 s ∧ t 8 s ≤ 8) ∧ (∀ i, 0 ≤ i → i < t 8 s → 1 ≤ t 9 (8 * s + i) ∧ t 9 (8 * s + i) ≤ 999) ∧ (∀ i, 0 ≤ i → i < t 8 s → 1 ≤ t 10 (8 * s + i) ∧ t 10 (8 * s + i) ≤ 999) ∧ (∀ i, 0 ≤ i → i + 1 < t 8 s → t 9 (8 * s + i) < t 9 (8 * s + (i + 1))) ∧ sm (fun i => t 10 (8 * s + i)) (t 8 s).toNat ≤ 1000 ∧ ((t 11 s = -1 ∧ t 12 s = -1) ∨ (0 ≤ t 11 s ∧ t 11 s ≤ 999 ∧ 0 ≤ t 12 s ∧ t 12 s ≤ 100))
def HOK (t : St) (h : Int) : Prop := (0 ≤ h ∧ h < 3) ∧ (1 ≤ t 1 h ∧ t 1 h ≤ 10) ∧ (∀ r, 0 ≤ r → r < t 1 h → 0 ≤ t 2 (10 * h + r) ∧ t 2 (10 * h + r) ≤ 999) ∧ (1 ≤ t 4 h ∧ t 4 h ≤ 9) ∧ (1 ≤ t 5 h ∧ t 5 h ≤ 9) ∧ (0 ≤ t 6 h ∧ t 6 h ≤ 99) ∧ (0 ≤ t 7 h ∧ t 7 h < t 1 h)
def ROK (t : St) (ru : Int) : Prop := (0 ≤ ru ∧ ru < 4) ∧ (0 ≤ t 14 ru ∧ t 14 ru ≤ 6) ∧ ∀ k j, 0 ≤ k → k < t 14 ru → 0 ≤ j → j ≤ 4 → 0 ≤ t 15 (30 * ru + 5 * k + j) ∧ t 15 (30 * ru + 5 * k + j) ≤ 999
/-! sums -/
theorem sm_congr {f g : Int → Int} : ∀ (n : Nat), (∀ i : Int, 0 ≤ i → i < n → f i = g i) → sm f n = sm g n
  | 0, _ => rfl
  | n + 1, h => by
    show sm f n + f n = sm g n + g n
    rw [sm_congr n (fun i h0 h1 => h i h0 (by omega)), h n (by omega) (by omega)]
theorem sm_nonneg {f : Int → Int} : ∀ (n : Nat), (∀ i : Int, 0 ≤ i → i < n → 0 ≤ f i) → 0 ≤ sm f n
  | 0, _ => by show (0 : Int) ≤ 0; omega
  | n + 1, h => by
    show 0 ≤ sm f n + f n
    have h1 := sm_nonneg n (fun i h0 h1 => h i h0 (by omega))
    have h2 := h n (by omega) (by omega)
    omega
theorem sm_le {f g : Int → Int} : ∀ (n : Nat), (∀ i : Int, 0 ≤ i → i < n → f i ≤ g i) → sm f n ≤ sm g n
  | 0, _ => by show (0 : Int) ≤ 0; omega
  | n + 1, h => by
    show sm f n + f n ≤ sm g n + g n
    have h1 := sm_le n (fun i h0 h1 => h i h0 (by omega))
    have h2 := h n (by omega) (by omega)
    omega
theorem sm_add (f g : Int → Int) : ∀ (n : Nat), sm (fun i => f i + g i) n = sm f n + sm g n
  | 0 => rfl
  | n + 1 => by
    show sm (fun i => f i + g i) n + (f n + g n) = (sm f n + f n) + (sm g n + g n)
    rw [sm_add f g n]; omega
theorem sm_mulr (f : Int → Int) (c : Int) : ∀ (n : Nat), sm (fun i => f i * c) n = sm f n * c
  | 0 => by show (0 : Int) = 0 * c; rw [Int.zero_mul]
  | n + 1 => by
    show sm (fun i => f i * c) n + f n * c = (sm f n + f n) * c
    rw [sm_mulr f c n, Int.add_mul]
theorem sm_mono {f : Int → Int} : ∀ (n m : Nat), n ≤ m → (∀ i : Int, 0 ≤ i → i < m → 0 ≤ f i) → sm f n ≤ sm f m
  | n, 0, h, _ => by
    have : n = 0 := by omega
    subst this; omega
  | n, m + 1, h, hf => by
    by_cases e : n = m + 1
    · subst e; omega
    · have h1 := sm_mono n m (by omega) (fun i h0 h1 => hf i h0 (by omega))
      have h2 := hf m (by omega) (by omega)
      show sm f n ≤ sm f m + f m
      omega
/-! bounds -/
theorem od_bd {t : St} {s p : Int} (hs : SOK t s) (hp : p = 0 ∨ (p = 1 ∧ 0 ≤ t 11 s)) {i : Int} (h0 : 0 ≤ i) (h1 : i < t 8 s) : 0 ≤ od t s p i ∧ od t s p i ≤ t 10 (8 * s + i) := by
  obtain ⟨_, _, _, hq, _, _, hpn⟩ := hs
  have hq := hq i h0 h1
  unfold od
  rcases hp with rfl | ⟨rfl, hp⟩
  · rw [if_pos rfl]; omega
  · rw [if_neg (by decide)]
    have h2 : 0 ≤ t 12 s ∧ t 12 s ≤ 100 := by omega
    have h3 : 0 ≤ t 10 (8 * s + i) * (100 - t 12 s) := Int.mul_nonneg (by omega) (by omega)
    have h4 : t 10 (8 * s + i) * (100 - t 12 s) ≤ t 10 (8 * s + i) * 100 := Int.mul_le_mul_of_nonneg_left (by omega) (by omega)
    rw [Int.tdiv_eq_ediv_of_nonneg h3]
    omega
theorem sm_od {t : St} {s p : Int} (hs : SOK t s) (hp : p = 0 ∨ (p = 1 ∧ 0 ≤ t 11 s)) : 0 ≤ sm (od t s p) (t 8 s).toNat ∧ sm (od t s p) (t 8 s).toNat ≤ 1000 := by
  have h8 := hs.2.1
  have hle := hs.2.2.2.2.2.1
  refine ⟨sm_nonneg _ (fun i h0 h1 => (od_bd hs hp h0 (by omega)).1), Int.le_trans (sm_le _ (fun i h0 h1 => (od_bd hs hp h0 (by omega)).2)) hle⟩
theorem nxt_bd {t : St} {h r k : Int} (hh : HOK t h) (hr : 0 ≤ r ∧ r < t 1 h) (hk : 0 ≤ k ∧ k ≤ 3) : 0 ≤ nxt t h r k ∧ nxt t h r k < t 1 h := by
  obtain ⟨_, h1, _, h4, h5, _, _⟩ := hh
  unfold nxt
  by_cases hk0 : k = 0
  · rw [if_pos hk0]
    split <;> omega
  · rw [if_neg hk0]
    have h2 : ∀ q : Int, 0 ≤ q → 0 ≤ t 4 h * q := fun q hq => Int.mul_nonneg (by omega) hq
    have h3 : 0 ≤ (if hasb (t 3 h) r then k - 1 else k) := by split <;> omega
    generalize (if hasb (t 3 h) r then k - 1 else k) = q at *
    have := h2 _ h3
    split <;> omega
theorem mo_bd {k : Int} (hk : 0 ≤ k ∧ k ≤ 3) : 0 ≤ mo k ∧ mo k ≤ 3 := by unfold mo; split <;> omega
theorem bea_bd {t : St} {h S : Int} (hh : HOK t h) (hS : 0 ≤ S) : 0 ≤ bea t h S ∧ bea t h S ≤ S ∧ bea t h S ≤ 99 ∨ (0 ≤ bea t h S ∧ bea t h S ≤ S ∧ S < t 6 h) := by
  have h6 := hh.2.2.2.2.2.1
  unfold bea
  split <;> omega
theorem by_bd {t : St} {h ru r m k : Int} {g : Int → Int} {S G : Int} (hh : HOK t h) (hS : 1 ≤ S ∧ S ≤ 999) (hk : 0 ≤ k ∧ k ≤ 3) (hg : ∀ k, 0 ≤ k → k ≤ 3 → 0 ≤ g k ∧ g k ≤ G) : 0 ≤ by_ t h ru r m k g S ∧ by_ t h ru r m k g S ≤ 999000 + G := by
  have h1 := hg k hk.1 hk.2
  have h2 := hg (mo k) (mo_bd hk).1 (mo_bd hk).2
  have h3 := bea_bd (S := S) hh (by omega)
  unfold by_
  split <;> omega
theorem msum_bd {t : St} {s h ru p r m k : Int} {g : Int → Int} {G : Int} (hs : SOK t s) (hh : HOK t h) (hp : p = 0 ∨ (p = 1 ∧ 0 ≤ t 11 s)) (hk : 0 ≤ k ∧ k ≤ 3) (hg : ∀ k, 0 ≤ k → k ≤ 3 → 0 ≤ g k ∧ g k ≤ G) (n : Nat) (hn : (n : Int) ≤ t 8 s) : 0 ≤ msum t s h ru p r m g k n ∧ msum t s h ru p r m g k n ≤ 1000 * (999000 + G) := by
  have hq := sm_od hs hp
  have h8 := hs.2.1
  have h1 := hg k hk.1 hk.2
  have hterm : ∀ i : Int, 0 ≤ i → i < n → 0 ≤ od t s p i * by_ t h ru r m k g (t 9 (8 * s + i)) ∧ od t s p i * by_ t h ru r m k g (t 9 (8 * s + i)) ≤ od t s p i * (999000 + G) := by
    intro i h0 hi
    have ho := od_bd hs hp h0 (by omega)
    have hb := by_bd (t := t) (h := h) (ru := ru) (r := r) (m := m) (k := k) (g := g) (G := G) (S := t 9 (8 * s + i)) hh (hs.2.2.1 i h0 (by omega)) hk hg
    exact ⟨Int.mul_nonneg ho.1 hb.1, Int.mul_le_mul_of_nonneg_left hb.2 ho.1⟩
  have h2 := sm_nonneg n (fun i h0 hi => (hterm i h0 hi).1)
  have h3 := sm_le n (fun i h0 hi => (hterm i h0 hi).2)
  rw [sm_mulr] at h3
  have h4 : sm (od t s p) n ≤ sm (od t s p) (t 8 s).toNat := sm_mono n _ (by omega) (fun i h0 hi => (od_bd hs hp h0 (by omega)).1)
  have h4' : 0 ≤ sm (od t s p) n := sm_nonneg n (fun i h0 hi => (od_bd hs hp h0 (by omega)).1)
  unfold msum
  generalize sm (od t s p) (t 8 s).toNat = Q at *
  generalize sm (od t s p) n = q at *
  generalize sm (fun i => od t s p i * by_ t h ru r m k g (t 9 (8 * s + i))) n = X at *
  have h5 : 0 ≤ (1000 - Q) * g k := Int.mul_nonneg (by omega) h1.1
  have h6 : (1000 - Q) * g k ≤ (1000 - Q) * (999000 + G) := Int.mul_le_mul_of_nonneg_left (by omega) (by omega)
  have h7 : q * (999000 + G) ≤ Q * (999000 + G) := Int.mul_le_mul_of_nonneg_right h4 (by omega)
  have h8 : (1000 - Q) * (999000 + G) + Q * (999000 + G) = 1000 * (999000 + G) := by rw [← Int.add_mul]; congr 1; omega
  omega
theorem mon_bd {t : St} {s h ru p r m k : Int} {g : Int → Int} {G : Int} (hs : SOK t s) (hh : HOK t h) (hp : p = 0 ∨ (p = 1 ∧ 0 ≤ t 11 s)) (hk : 0 ≤ k ∧ k ≤ 3) (hg : ∀ k, 0 ≤ k → k ≤ 3 → 0 ≤ g k ∧ g k ≤ G) : 0 ≤ mon t s h ru p r m g k ∧ mon t s h ru p r m g k ≤ 999000 + G := by
  have h8 := hs.2.1
  have h1 := msum_bd (t := t) (s := s) (h := h) (ru := ru) (p := p) (r := r) (m := m) (k := k) (g := g) (G := G) hs hh hp hk hg (t 8 s).toNat (by omega)
  unfold mon
  rw [Int.tdiv_eq_ediv_of_nonneg h1.1]
  omega
theorem inM_bd {t : St} {s h ru p r : Int} {c : Int → Int} {G : Int} (hs : SOK t s) (hh : HOK t h) (hp : p = 0 ∨ (p = 1 ∧ 0 ≤ t 11 s)) (hr : 0 ≤ r ∧ r < t 1 h) (hc : ∀ r, 0 ≤ r → r < t 1 h → 0 ≤ c r ∧ c r ≤ G) : ∀ (j : Nat) (k : Int), 0 ≤ k → k ≤ 3 → 0 ≤ inM t s h ru p r c j k ∧ inM t s h ru p r c j k ≤ 999000 * (j : Int) + G := by
  intro j
  induction j with
  | zero =>
    intro k h0 h3
    have h1 := nxt_bd hh hr ⟨h0, h3⟩
    have h2 := hc _ h1.1 h1.2
    show 0 ≤ c (nxt t h r k) ∧ c (nxt t h r k) ≤ 999000 * ((0 : Nat) : Int) + G
    omega
  | succ j ih =>
    intro k h0 h3
    have h1 := mon_bd (t := t) (s := s) (h := h) (ru := ru) (p := p) (r := r) (m := 11 - (j : Int)) (k := k) (g := inM t s h ru p r c j) (G := 999000 * (j : Int) + G) hs hh hp ⟨h0, h3⟩ ih
    show 0 ≤ mon t s h ru p r (11 - (j : Int)) (inM t s h ru p r c j) k ∧ mon t s h ru p r (11 - (j : Int)) (inM t s h ru p r c j) k ≤ 999000 * ((j + 1 : Nat) : Int) + G
    omega
theorem cst_bd {t : St} {s h ru : Int} (hs : SOK t s) (hh : HOK t h) : ∀ (n : Nat) (r : Int), 0 ≤ r → r < t 1 h → 0 ≤ cst t s h ru n r ∧ cst t s h ru n r ≤ 12987000 * (n : Int) := by
  intro n
  induction n with
  | zero =>
    intro r _ _
    show (0 : Int) ≤ 0 ∧ (0 : Int) ≤ 12987000 * ((0 : Nat) : Int)
    omega
  | succ n ih =>
    intro r h0 h1
    have hP := hh.2.2.1 r h0 h1
    have ha := inM_bd (t := t) (s := s) (h := h) (ru := ru) (p := 0) (r := r) (c := cst t s h ru n) (G := 12987000 * (n : Int)) hs hh (Or.inl rfl) ⟨h0, h1⟩ ih 12 0 (by omega) (by omega)
    show 0 ≤ 1000 * t 2 (10 * h + r) + _ ∧ 1000 * t 2 (10 * h + r) + _ ≤ 12987000 * ((n + 1 : Nat) : Int)
    by_cases hp : pnd t s h ru (cst t s h ru n) r
    · rw [if_pos hp]
      have hb := inM_bd (t := t) (s := s) (h := h) (ru := ru) (p := 1) (r := r) (c := cst t s h ru n) (G := 12987000 * (n : Int)) hs hh (Or.inr ⟨rfl, hp.2.1⟩) ⟨h0, h1⟩ ih 12 0 (by omega) (by omega)
      have h3 := hp.2.2
      have h4 := hp.2.1
      omega
    · rw [if_neg hp]
      omega
