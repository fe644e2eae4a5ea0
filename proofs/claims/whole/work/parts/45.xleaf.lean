/-! the class: where its objects lie -/
theorem kx_ex {P : Nat → Prop} {kd : Nat × Nat} (h99 : kd.1 ≠ 99) (hd : ∀ n, n < 151 → kXl.getD n (99, 0) = kd → P n) {o : Int} (h : kX o = kd) : ∃ n : Nat, o = (n : Int) ∧ P n := by
  have h1 := kX_in o (by rw [h]; exact h99)
  obtain ⟨n, rfl⟩ := Int.eq_ofNat_of_zero_le h1.1
  rw [kX_cast] at h
  exact ⟨n, rfl, hd n (by omega) h⟩
theorem kx3 {o : Int} (h : kX o = (3, 0)) : 43 ≤ o ∧ o ≤ 107 := by
  obtain ⟨n, rfl, h1, h2⟩ := kx_ex (P := fun n => 43 ≤ n ∧ n ≤ 107) (by decide) (by decide +kernel) h
  omega
theorem kx6 {o : Int} (h : kX o = (6, 0)) : 27 ≤ o ∧ o ≤ 39 := by
  obtain ⟨n, rfl, h1, h2⟩ := kx_ex (P := fun n => 27 ≤ n ∧ n ≤ 39) (by decide) (by decide +kernel) h
  omega
theorem kx0 {o : Int} (h : kX o = (0, 0)) : o = 7 ∨ o = 23 ∨ o = 25 := by
  obtain ⟨n, rfl, h1⟩ := kx_ex (P := fun n => n = 7 ∨ n = 23 ∨ n = 25) (by decide) (by decide +kernel) h
  omega
theorem kx5 {o : Int} (h : kX o = (5, 0)) : 115 ≤ o ∧ o ≤ 133 := by
  obtain ⟨n, rfl, h1, h2⟩ := kx_ex (P := fun n => 115 ≤ n ∧ n ≤ 133) (by decide) (by decide +kernel) h
  omega
/-- an object of the class is a told sort, house, rule of the tables -/
def SR (σ : St) (o : Int) (t : St) (s : Int) : Prop := kX o = (6, 0) ∧ σ o 3 = t 8 s ∧ (∀ i, 0 ≤ i → i < t 8 s → σ (o + 1) i = t 9 (8 * s + i) ∧ σ (o + 2) i = t 10 (8 * s + i)) ∧ σ o 4 = sm (fun i => t 10 (8 * s + i)) (t 8 s).toNat ∧ (t 11 s < 0 → σ o 5 = 0) ∧ (0 ≤ t 11 s → σ o 5 = 1 ∧ σ o 6 = t 11 s ∧ σ o 7 = t 12 s ∧ ∀ i, 0 ≤ i → i < t 8 s → σ (o + 3) i = od t s 1 i)
def HR (σ : St) (o : Int) (t : St) (h : Int) : Prop := kX o = (0, 0) ∧ σ o 1 = t 1 h ∧ σ o 2 = t 3 h ∧ σ o 3 = t 5 h ∧ σ o 4 = t 4 h ∧ σ o 5 = t 6 h ∧ σ o 6 = t 7 h ∧ ∀ r, 0 ≤ r → r < t 1 h → σ (o + 1) r = t 2 (10 * h + r)
def RR (σ : St) (o : Int) (t : St) (u : Int) : Prop := kX o = (5, 0) ∧ σ o 5 = t 14 u ∧ ∀ k, 0 ≤ k → k < t 14 u → σ (o + 1) k = t 15 (30 * u + 5 * k) ∧ σ (o + 2) k = t 15 (30 * u + 5 * k + 1) ∧ σ (o + 3) k = t 15 (30 * u + 5 * k + 2) ∧ σ (o + 4) k = t 15 (30 * u + 5 * k + 3) ∧ σ (o + 5) k = t 15 (30 * u + 5 * k + 4)
theorem SR.to {σ σ' : St} {o : Int} {t : St} {s : Int} (h : SR σ o t s) (e0 : σ' o = σ o) (e1 : σ' (o + 1) = σ (o + 1)) (e2 : σ' (o + 2) = σ (o + 2)) (e3 : σ' (o + 3) = σ (o + 3)) : SR σ' o t s := by
  unfold SR at *
  rw [e0, e1, e2, e3]
  exact h
theorem HR.to {σ σ' : St} {o : Int} {t : St} {q : Int} (h : HR σ o t q) (e0 : σ' o = σ o) (e1 : σ' (o + 1) = σ (o + 1)) : HR σ' o t q := by
  unfold HR at *
  rw [e0, e1]
  exact h
theorem RR.to {σ σ' : St} {o : Int} {t : St} {u : Int} (h : RR σ o t u) (e0 : σ' o = σ o) (e1 : σ' (o + 1) = σ (o + 1)) (e2 : σ' (o + 2) = σ (o + 2)) (e3 : σ' (o + 3) = σ (o + 3)) (e4 : σ' (o + 4) = σ (o + 4)) (e5 : σ' (o + 5) = σ (o + 5)) : RR σ' o t u := by
  unfold RR at *
  rw [e0, e1, e2, e3, e4, e5]
  exact h
theorem X_bears {σ t : St} {o h S : Int} (hr : HR σ o t h) (hh : HOK t h) (hS : 0 ≤ S ∧ S ≤ 1000000) : p_X0_bears o S σ = some (bea t h S, σ) := by
  have h6 := hh.2.2.2.2.2.1
  unfold p_X0_bears bea
  rw [hr.2.2.2.2.2.1, zm_eq (a := t 6 h) (by omega) (by omega), zm_eq (a := S) (by omega) (by omega)]
  split <;> rfl
theorem X_isKept {σ t : St} {o h : Int} (hr : HR σ o t h) (r : Int) : p_X0_isKept o r σ = some (if hasb (t 3 h) r then 1 else 0, σ) := by
  unfold p_X0_isKept
  rw [hr.2.2.1]
  by_cases c : zm (zand (zshr (t 3 h) r) 1) = 0
  · rw [if_pos c, if_neg (by unfold hasb; omega)]
  · rw [if_neg c, if_pos (by unfold hasb; omega)]
theorem X_rungAfter {σ t : St} {o h r k : Int} (hr : HR σ o t h) (hh : HOK t h) (hrr : 0 ≤ r ∧ r < t 1 h) (hk : 0 ≤ k ∧ k ≤ 3) : p_X0_rungAfter o r k σ = some (nxt t h r k, σ) := by
  obtain ⟨h0, h1, _, h4, h5, _, _⟩ := hh
  unfold p_X0_rungAfter nxt
  rw [hr.2.1, hr.2.2.2.1, hr.2.2.2.2.1, X_isKept hr, zm_eq (a := k) (by omega) (by omega), zm_eq (a := t 1 h - 1) (by omega) (by omega), zm_eq (a := r + t 5 h) (by omega) (by omega)]
  simp only [Option.bind_some]
  by_cases hk0 : k = 0
  · rw [if_pos hk0, if_pos hk0]
    by_cases c : t 1 h ≤ r + t 5 h
    · rw [if_pos c, if_pos (by omega)]
    · rw [if_neg c, if_neg (by omega)]
  · rw [if_neg hk0, if_neg hk0]
    have key : ∀ q : Int, 0 ≤ q → q ≤ 3 → p_X0_rungAfter_40 r (t 4 h) q σ = some (if 0 ≤ r - t 4 h * q then r - t 4 h * q else 0, σ) := by
      intro q hq0 hq3
      have e1 : 0 ≤ t 4 h * q := Int.mul_nonneg (by omega) hq0
      have e2 : t 4 h * q ≤ t 4 h * 3 := Int.mul_le_mul_of_nonneg_left hq3 (by omega)
      unfold p_X0_rungAfter_40
      rw [zm_eq (a := r - t 4 h * q) (by omega) (by omega), zm_0]
      by_cases c : 0 ≤ r - t 4 h * q
      · rw [if_pos c, if_neg (by omega)]
      · rw [if_neg c, if_pos (by omega)]
    by_cases hb : hasb (t 3 h) r
    · rw [if_pos hb, if_neg (by decide), if_pos hb]
      exact key (k - 1) (by omega) (by omega)
    · rw [if_neg hb, if_pos (by decide), if_neg hb]
      exact key k (by omega) (by omega)
theorem X_chance {σ t : St} {o s p i : Int} (hr : SR σ o t s) (hs : SOK t s) (hp : p = 0 ∨ (p = 1 ∧ 0 ≤ t 11 s)) (hi : 0 ≤ i ∧ i < t 8 s) : p_X6_chance o i p σ = some (od t s p i, σ) := by
  have h8 := hs.2.1
  unfold p_X6_chance
  rw [zm_eq (a := i) (by omega) (by omega), gd_pos (by omega), gd_pos (by omega)]
  rcases hp with rfl | ⟨rfl, hp⟩
  · rw [if_pos (by decide), (hr.2.2.1 i hi.1 hi.2).2]
    unfold od
    rw [if_pos rfl]
  · rw [if_neg (by decide), (hr.2.2.2.2.2 hp).2.2.2 i hi.1 hi.2]
theorem X_barOn_loop {σ t : St} {o u r m : Int} (hr : RR σ o t u) (hu : ROK t u) (hrr : 0 ≤ r ∧ r ≤ 9) (hm : 0 ≤ m ∧ m ≤ 11) : ∀ (d n k : Nat), (k : Int) + d = t 14 u → d < n → p_X5_barOn_2 n o r m k σ = some (brF t u r m d k, σ) := by
  have h0 := hu.1
  have h14 := hu.2.1
  intro d
  induction d with
  | zero =>
    intro n k hk hn
    obtain ⟨n, rfl⟩ := Nat.exists_eq_succ_of_ne_zero (by omega : n ≠ 0)
    show p_X5_barOn_2b (p_X5_barOn_2 n) o r m k σ = _
    unfold p_X5_barOn_2b
    rw [hr.2.1, zm_eq (a := t 14 u) (by omega) (by omega), zm_eq (a := (k : Int)) (by omega) (by omega), if_pos (by omega)]
    rfl
  | succ d ih =>
    intro n k hk hn
    obtain ⟨n, rfl⟩ := Nat.exists_eq_succ_of_ne_zero (by omega : n ≠ 0)
    have q0 := hu.2.2 k 0 (by omega) (by omega) (by omega) (by omega)
    have q1 := hu.2.2 k 1 (by omega) (by omega) (by omega) (by omega)
    have q2 := hu.2.2 k 2 (by omega) (by omega) (by omega) (by omega)
    have q3 := hu.2.2 k 3 (by omega) (by omega) (by omega) (by omega)
    have q4 := hu.2.2 k 4 (by omega) (by omega) (by omega) (by omega)
    rw [Int.add_zero] at q0
    obtain ⟨r0, r1, r2, r3, r4⟩ := hr.2.2 k (by omega) (by omega)
    have hnext : p_X5_barOn_69 (p_X5_barOn_2 n) o r m k σ = some (brF t u r m d ((k : Int) + 1), σ) := ih n (k + 1) (by omega) (by omega)
    show p_X5_barOn_2b (p_X5_barOn_2 n) o r m k σ = some (if (t 15 (30 * u + 5 * (k : Int) + 1) ≤ r ∧ r ≤ t 15 (30 * u + 5 * (k : Int) + 2)) ∧ (t 15 (30 * u + 5 * (k : Int) + 3) ≤ m ∧ m ≤ t 15 (30 * u + 5 * (k : Int) + 4)) then t 15 (30 * u + 5 * (k : Int)) else brF t u r m d ((k : Int) + 1), σ)
    have k34 : ¬ (t 15 (30 * u + 5 * (k : Int) + 1) ≤ r ∧ r ≤ t 15 (30 * u + 5 * (k : Int) + 2)) → p_X5_barOn_34 (p_X5_barOn_2 n) o r m k σ = some (if (t 15 (30 * u + 5 * (k : Int) + 1) ≤ r ∧ r ≤ t 15 (30 * u + 5 * (k : Int) + 2)) ∧ (t 15 (30 * u + 5 * (k : Int) + 3) ≤ m ∧ m ≤ t 15 (30 * u + 5 * (k : Int) + 4)) then t 15 (30 * u + 5 * (k : Int)) else brF t u r m d ((k : Int) + 1), σ) := by
      intro c
      unfold p_X5_barOn_34 p_X5_barOn_35
      rw [if_pos (by decide), if_neg (fun q => c q.1)]
      exact hnext
    unfold p_X5_barOn_2b
    rw [hr.2.1, zm_eq (a := t 14 u) (by omega) (by omega), zm_eq (a := (k : Int)) (by omega) (by omega), if_neg (by omega), gd_pos (by omega), r1, r2, zm_eq (a := r) (by omega) (by omega), zm_eq (a := t 15 (30 * u + 5 * (k : Int) + 1)) (by omega) (by omega), zm_eq (a := t 15 (30 * u + 5 * (k : Int) + 2)) (by omega) (by omega)]
    by_cases c1 : r < t 15 (30 * u + 5 * (k : Int) + 1)
    · rw [if_pos c1]; exact k34 (by omega)
    · rw [if_neg c1]
      by_cases c2 : t 15 (30 * u + 5 * (k : Int) + 2) < r
      · rw [if_pos c2]; exact k34 (by omega)
      · rw [if_neg c2]
        unfold p_X5_barOn_35
        rw [if_neg (by decide), zm_eq (a := (k : Int)) (by omega) (by omega), gd_pos (by omega), r0, r3, r4, zm_eq (a := m) (by omega) (by omega), zm_eq (a := t 15 (30 * u + 5 * (k : Int) + 3)) (by omega) (by omega), zm_eq (a := t 15 (30 * u + 5 * (k : Int) + 4)) (by omega) (by omega)]
        by_cases c3 : m < t 15 (30 * u + 5 * (k : Int) + 3)
        · rw [if_pos c3, if_neg (by omega)]; exact hnext
        · rw [if_neg c3]
          by_cases c4 : t 15 (30 * u + 5 * (k : Int) + 4) < m
          · rw [if_pos c4, if_neg (by omega)]; exact hnext
          · rw [if_neg c4, if_pos (by omega)]
theorem X_barOn {σ t : St} {o u r m : Int} (hr : RR σ o t u) (hu : ROK t u) (hrr : 0 ≤ r ∧ r ≤ 9) (hm : 0 ≤ m ∧ m ≤ 11) : p_X5_barOn o r m σ = some (br t u r m, σ) := by
  have h14 := hu.2.1
  exact X_barOn_loop hr hu hrr hm (t 14 u).toNat FU 0 (by omega) (FU_gt (by omega))
/-! a plan, its sort, its house, its rule -/
def PC (σ : St) (o : Int) (t : St) (s h ru : Int) : Prop := kX o = (3, 0) ∧ SR σ (σ o 0) t s ∧ HR σ (σ o 1) t h ∧ SOK t s ∧ HOK t h ∧ ((σ o 2 < 0 ∧ ru = -1) ∨ (RR σ (σ o 2) t ru ∧ ROK t ru))
/-- all but the plan's own cells stays, and its own links -/
def plO (o : Int) (σ σ' : St) : Prop := (∀ k : Int, (k < o ∨ o + 8 ≤ k) → σ' k = σ k) ∧ σ' o 0 = σ o 0 ∧ σ' o 1 = σ o 1 ∧ σ' o 2 = σ o 2
theorem plO.rf {o : Int} {σ : St} : plO o σ σ := ⟨fun _ _ => rfl, rfl, rfl, rfl⟩
theorem plO.tr {o : Int} {a b c : St} (h : plO o a b) (g : plO o b c) : plO o a c := ⟨fun k hk => (g.1 k hk).trans (h.1 k hk), g.2.1.trans h.2.1, g.2.2.1.trans h.2.2.1, g.2.2.2.trans h.2.2.2⟩
theorem PC.to {σ σ' : St} {o : Int} {t : St} {s h ru : Int} (hp : PC σ o t s h ru) (ho : plO o σ σ') : PC σ' o t s h ru := by
  obtain ⟨hk, hs, hh, a, b, hr⟩ := hp
  have r3 := kx3 hk
  have r6 := kx6 hs.1
  have r0 := kx0 hh.1
  refine ⟨hk, ?_, ?_, a, b, ?_⟩
  · rw [ho.2.1]
    exact hs.to (ho.1 _ (by omega)) (ho.1 _ (by omega)) (ho.1 _ (by omega)) (ho.1 _ (by omega))
  · rw [ho.2.2.1]
    exact hh.to (ho.1 _ (by omega)) (ho.1 _ (by omega))
  · rw [ho.2.2.2]
    rcases hr with hr | ⟨hr, hu⟩
    · exact Or.inl hr
    · have r5 := kx5 hr.1
      exact Or.inr ⟨hr.to (ho.1 _ (by omega)) (ho.1 _ (by omega)) (ho.1 _ (by omega)) (ho.1 _ (by omega)) (ho.1 _ (by omega)) (ho.1 _ (by omega)), hu⟩
/-- a sum from i on -/
def sx (f : Int → Int) (n i : Nat) : Int := sm f n - sm f i
theorem sx_step (f : Int → Int) (n i : Nat) : sx f n i = sx f n (i + 1) + f i := by
  unfold sx
  show sm f n - sm f i = sm f n - (sm f i + f i) + f i
  omega
theorem sx_end (f : Int → Int) (n : Nat) : sx f n n = 0 := by unfold sx; omega
/-- what a month's sums are, with one bar -/
theorem msum_alt {t : St} {s h ru p r m k : Int} {g : Int → Int} {n fa : Nat} (hn : (n : Int) = t 8 s) (hf : fa ≤ n) (hask : ∀ i : Int, 0 ≤ i → i < n → (ask t h ru r m k g (t 9 (8 * s + i)) ↔ (fa : Int) ≤ i)) : msum t s h ru p r m g k n = 1000 * (g k + sm (fun i => od t s p i * t 9 (8 * s + i)) n - sx (fun i => od t s p i * (t 9 (8 * s + i) - bea t h (t 9 (8 * s + i)))) n fa) + sx (od t s p) n fa * (g (mo k) - g k) := by
  have e8 : (t 8 s).toNat = n := by omega
  have lo : ∀ j : Nat, j ≤ fa → sm (fun i => od t s p i * by_ t h ru r m k g (t 9 (8 * s + i))) j = 1000 * sm (fun i => od t s p i * t 9 (8 * s + i)) j + sm (od t s p) j * g k := by
    intro j
    induction j with
    | zero => intro _; show (0 : Int) = 1000 * 0 + 0 * g k; omega
    | succ j ih =>
      intro hj
      show sm _ j + od t s p j * by_ t h ru r m k g (t 9 (8 * s + j)) = 1000 * (sm _ j + od t s p j * t 9 (8 * s + j)) + (sm _ j + od t s p j) * g k
      rw [ih (by omega)]
      unfold by_
      rw [if_neg (fun q => by have := (hask j (by omega) (by omega)).mp q; omega), Int.mul_add, Int.add_mul, Int.mul_left_comm (od t s p j) 1000]
      omega
  have hi : ∀ j : Nat, fa ≤ j → j ≤ n → sm (fun i => od t s p i * by_ t h ru r m k g (t 9 (8 * s + i))) j = 1000 * sm (fun i => od t s p i * t 9 (8 * s + i)) j + sm (od t s p) j * g k - 1000 * (sm (fun i => od t s p i * (t 9 (8 * s + i) - bea t h (t 9 (8 * s + i)))) j - sm (fun i => od t s p i * (t 9 (8 * s + i) - bea t h (t 9 (8 * s + i)))) fa) + (sm (od t s p) j - sm (od t s p) fa) * (g (mo k) - g k) := by
    intro j
    induction j with
    | zero =>
      intro h1 _
      have : fa = 0 := by omega
      subst this
      show (0 : Int) = 1000 * 0 + 0 * g k - 1000 * (0 - 0) + (0 - 0) * (g (mo k) - g k)
      omega
    | succ j ih =>
      intro h1 h2
      by_cases e : fa = j + 1
      · subst e
        rw [lo (j + 1) (by omega), Int.sub_self, Int.sub_self, Int.zero_mul]
        omega
      · have ih := ih (by omega) (by omega)
        show sm _ j + od t s p j * by_ t h ru r m k g (t 9 (8 * s + j)) = 1000 * (sm _ j + od t s p j * t 9 (8 * s + j)) + (sm _ j + od t s p j) * g k - 1000 * (sm _ j + od t s p j * (t 9 (8 * s + j) - bea t h (t 9 (8 * s + j))) - sm _ fa) + (sm _ j + od t s p j - sm _ fa) * (g (mo k) - g k)
        rw [ih]
        unfold by_
        rw [if_pos ((hask j (by omega) (by omega)).mpr (by omega))]
        generalize sm (fun i => od t s p i * t 9 (8 * s + i)) j = A
        generalize sm (fun i => od t s p i * (t 9 (8 * s + i) - bea t h (t 9 (8 * s + i)))) j = B
        generalize sm (fun i => od t s p i * (t 9 (8 * s + i) - bea t h (t 9 (8 * s + i)))) fa = B0
        generalize sm (od t s p) j = Q
        generalize sm (od t s p) fa = Q0
        generalize od t s p j = q
        generalize t 9 (8 * s + j) = S
        generalize bea t h S = b
        generalize g (mo k) = y
        generalize g k = x
        simp only [Int.mul_add, Int.add_mul, Int.mul_sub, Int.sub_mul]
        have e1 : q * (1000 * b) = 1000 * (q * b) := Int.mul_left_comm ..
        rw [e1]
        omega
  have hN := hi n hf (Nat.le_refl n)
  unfold msum
  rw [e8, hN]
  unfold sx
  generalize sm (fun i => od t s p i * t 9 (8 * s + i)) n = A
  generalize sm (fun i => od t s p i * (t 9 (8 * s + i) - bea t h (t 9 (8 * s + i)))) n = B
  generalize sm (fun i => od t s p i * (t 9 (8 * s + i) - bea t h (t 9 (8 * s + i)))) fa = B0
  generalize (sm (od t s p) n - sm (od t s p) fa) * (g (mo k) - g k) = Z
  rw [Int.sub_mul]
  omega
