/-! the layout: what lies at each place of the two systems -/
def fX0 (ad : Int → Nat) (k : Int) (f : Int → Int) : List Value := [.ref (ad (k + 1)), .int (zI (f 1)), .int (zI (f 2)), .int (zI (f 3)), .int (zI (f 4)), .int (zI (f 5)), .int (zI (f 6))]
def fX1 (ad : Int → Nat) (k : Int) (f : Int → Int) : List Value := [.ref (ad (k + 1)), .ref (ad (k + 2)), .ref (ad (k + 3)), .ref (ad (k + 4)), .ref (ad (k + 5))]
def fX2 (ad : Int → Nat) (k : Int) (f : Int → Int) : List Value := [.ref (ad (k + 1)), .ref (ad (k + 2)), .ref (ad (k + 3)), .int (zI (f 3)), .ref (ad (k + 4)), .ref (ad (k + 5)), .int (zI (f 6)), .int (zI (f 7)), .int (zI (f 8))]
def fX3 (ad : Int → Nat) (k : Int) (f : Int → Int) : List Value := [rv ad (f 0), rv ad (f 1), rv ad (f 2), .ref (ad (k + 1)), .ref (ad (k + 2)), .int (zI (f 5)), .ref (ad (k + 3)), .ref (ad (k + 4)), .ref (ad (k + 5)), .ref (ad (k + 6)), .ref (ad (k + 7)), .int (zI (f 11)), .int (zI (f 12))]
def fX4 (ad : Int → Nat) (k : Int) (f : Int → Int) : List Value := [.ref (ad (k + 1)), .int (zI (f 1)), .int (zI (f 2)), .int (zI (f 3)), .int (zI (f 4)), .int (zI (f 5)), .int (zI (f 6)), .int (zI (f 7)), .int (zI (f 8))]
def fX5 (ad : Int → Nat) (k : Int) (f : Int → Int) : List Value := [.ref (ad (k + 1)), .ref (ad (k + 2)), .ref (ad (k + 3)), .ref (ad (k + 4)), .ref (ad (k + 5)), .int (zI (f 5))]
def fX6 (ad : Int → Nat) (k : Int) (f : Int → Int) : List Value := [.ref (ad (k + 1)), .ref (ad (k + 2)), .ref (ad (k + 3)), .int (zI (f 3)), .int (zI (f 4)), .int (zI (f 5)), .int (zI (f 6)), .int (zI (f 7))]
def fX7 (ad : Int → Nat) (k : Int) (f : Int → Int) : List Value := [.ref (ad (1)), .ref (ad (3)), .ref (ad (4)), .ref (ad (5)), .ref (ad (6)), .ref (ad (7)), .ref (ad (107)), .ref (ad (9)), .ref (ad (15)), .ref (ad (16)), .ref (ad (22)), .int (zI (f 11)), .int (zI (f 12)), .int (zI (f 13))]
def fX8 (ad : Int → Nat) (k : Int) (f : Int → Int) : List Value := [.ref (ad (k + 1)), .ref (ad (k + 2)), .ref (ad (k + 3)), .ref (ad (k + 4)), .ref (ad (k + 5)), .ref (ad (k + 6)), .ref (ad (k + 7)), .int (zI (f 7)), .ref (ad (k + 8)), .ref (ad (k + 9)), .ref (ad (k + 10)), .ref (ad (k + 11)), .ref (ad (k + 12)), .ref (ad (k + 13)), .int (zI (f 14)), .int (zI (f 15)), .int (zI (f 16)), .long (zJ (f 17)), .int (zI (f 18)), .int (zI (f 19)), .int (zI (f 20)), .int (zI (f 21)), .int (zI (f 22)), .int (zI (f 23)), .ref (ad (k + 14)), .ref (ad (k + 15)), .ref (ad (k + 16)), .ref (ad (k + 17)), .int (zI (f 28)), .int (zI (f 29)), .int (zI (f 30)), .int (zI (f 31)), .int (zI (f 32)), .int (zI (f 33)), .ref (ad (k + 18)), .ref (ad (k + 19)), .ref (ad (k + 20)), .ref (ad (k + 21)), .ref (ad (k + 22)), .long (zJ (f 39)), .ref (ad (k + 23)), .ref (ad (k + 24)), .int (zI (f 42)), .ref (ad (k + 25)), .ref (ad (k + 26)), .ref (ad (k + 27)), .ref (ad (k + 28)), .int (zI (f 47)), .ref (ad (k + 29)), .ref (ad (k + 30))]
def raf (ad : Int → Nat) (b d : Int) : Nat → Option Nat := fun j => some (ad (b + d * (j : Int)))
/-- an entry of the world, by its kind -/
def en (cA : Nat → ClassId) (ad : Int → Nat) (kd : Nat × Nat) (k : Int) (f : Int → Int) : va_E := match kd.1 with
  | 0 => .inr (0, fX0 ad k f)
  | 1 => .inr (1, fX1 ad k f)
  | 2 => .inr (2, fX2 ad k f)
  | 3 => .inr (3, fX3 ad k f)
  | 4 => .inr (4, fX4 ad k f)
  | 5 => .inr (5, fX5 ad k f)
  | 6 => .inr (6, fX6 ad k f)
  | 7 => .inr (7, fX7 ad k f)
  | 8 => .inr (8, fX8 ad k f)
  | 20 => .inl (cA 0, kd.2, .inl (fun j => zI (f (j : Int))))
  | 21 => .inl (cA 1, kd.2, .inl (fun j => zI (f (j : Int))))
  | 22 => .inl (cA 2, kd.2, .inr (.inl (fun j => zJ (f (j : Int)))))
  | 30 => .inl (cA 3, kd.2, .inr (.inr (.inr (.inr (raf ad 23 2)))))
  | 31 => .inl (cA 4, kd.2, .inr (.inr (.inr (.inr (raf ad 27 4)))))
  | 32 => .inl (cA 5, kd.2, .inr (.inr (.inr (.inr (raf ad 115 6)))))
  | 33 => .inl (cA 6, kd.2, .inr (.inr (.inr (.inr (raf ad 43 8)))))
  | 34 => .inl (cA 7, kd.2, .inr (.inr (.inr (.inr (raf ad 139 6)))))
  | _ => .inr (99, [])
def tysL (cA : Nat → ClassId) : List (ClassId × FieldType) := [(cA 0, .int), (cA 1, .boolean), (cA 2, .long), (cA 3, .object RX0), (cA 4, .object RX6), (cA 5, .object RX5), (cA 6, .object RX3), (cA 7, .object RX2)]
def kXl : List (Nat × Nat) := [(7, 0), (4, 0), (20, 300), (30, 2), (31, 4), (32, 4), (33, 8), (0, 0), (20, 10), (1, 0), (20, 10), (20, 10), (20, 40), (20, 10), (20, 4), (22, 4), (2, 0), (20, 12), (20, 12), (21, 12), (20, 8), (20, 8), (34, 2), (0, 0), (20, 10), (0, 0), (20, 10), (6, 0), (20, 8), (20, 8), (20, 8), (6, 0), (20, 8), (20, 8), (20, 8), (6, 0), (20, 8), (20, 8), (20, 8), (6, 0), (20, 8), (20, 8), (20, 8), (3, 0), (20, 310), (20, 31), (20, 52), (20, 48), (20, 8), (20, 9), (20, 9), (3, 0), (20, 310), (20, 31), (20, 52), (20, 48), (20, 8), (20, 9), (20, 9), (3, 0), (20, 310), (20, 31), (20, 52), (20, 48), (20, 8), (20, 9), (20, 9), (3, 0), (20, 310), (20, 31), (20, 52), (20, 48), (20, 8), (20, 9), (20, 9), (3, 0), (20, 310), (20, 31), (20, 52), (20, 48), (20, 8), (20, 9), (20, 9), (3, 0), (20, 310), (20, 31), (20, 52), (20, 48), (20, 8), (20, 9), (20, 9), (3, 0), (20, 310), (20, 31), (20, 52), (20, 48), (20, 8), (20, 9), (20, 9), (3, 0), (20, 310), (20, 31), (20, 52), (20, 48), (20, 8), (20, 9), (20, 9), (3, 0), (20, 310), (20, 31), (20, 52), (20, 48), (20, 8), (20, 9), (20, 9), (5, 0), (20, 6), (20, 6), (20, 6), (20, 6), (20, 6), (5, 0), (20, 6), (20, 6), (20, 6), (20, 6), (20, 6), (5, 0), (20, 6), (20, 6), (20, 6), (20, 6), (20, 6), (5, 0), (20, 6), (20, 6), (20, 6), (20, 6), (20, 6), (2, 0), (20, 12), (20, 12), (21, 12), (20, 8), (20, 8), (2, 0), (20, 12), (20, 12), (21, 12), (20, 8), (20, 8)]
def kMl : List (Nat × Nat) := [(8, 0), (20, 3), (20, 30), (20, 3), (20, 3), (20, 3), (20, 3), (20, 3), (20, 4), (20, 32), (20, 32), (20, 4), (20, 4), (20, 300), (20, 4), (20, 120), (20, 310), (20, 31200), (20, 24), (20, 24), (21, 24), (20, 4), (20, 4), (20, 10), (20, 10), (20, 8), (20, 8), (22, 4), (20, 32), (20, 200), (21, 2)]
/-- the kind of the cell at a place; 99: there is none -/
def kX (o : Int) : Nat × Nat := if o < 0 then (99, 0) else kXl.getD o.toNat (99, 0)
def kM (o : Int) : Nat × Nat := if o < 0 then (99, 0) else kMl.getD o.toNat (99, 0)
theorem kX_in (o : Int) (h : (kX o).1 ≠ 99) : 0 ≤ o ∧ o < 151 := by
  unfold kX at h
  by_cases h0 : o < 0
  · rw [if_pos h0] at h; exact absurd rfl h
  · rw [if_neg h0] at h
    refine ⟨by omega, ?_⟩
    rcases Nat.lt_or_ge o.toNat 151 with q | q
    · omega
    · rw [List.getD_eq_getElem?_getD, List.getElem?_eq_none (by exact q)] at h; exact absurd rfl h
theorem kM_in (o : Int) (h : (kM o).1 ≠ 99) : 0 ≤ o ∧ o < 31 := by
  unfold kM at h
  by_cases h0 : o < 0
  · rw [if_pos h0] at h; exact absurd rfl h
  · rw [if_neg h0] at h
    refine ⟨by omega, ?_⟩
    rcases Nat.lt_or_ge o.toNat 31 with q | q
    · omega
    · rw [List.getD_eq_getElem?_getD, List.getElem?_eq_none (by exact q)] at h; exact absurd rfl h
theorem kX_cast (n : Nat) : kX (n : Int) = kXl.getD n (99, 0) := by
  unfold kX
  rw [if_neg (by omega)]
  rfl
theorem kM_cast (n : Nat) : kM (n : Int) = kMl.getD n (99, 0) := by
  unfold kM
  rw [if_neg (by omega)]
  rfl
theorem ka0_prices {o : Int} (h : kX o = (0, 0)) : kX (o + 1) = (20, 10) := by
  have h1 := kX_in o (by rw [h]; decide)
  obtain ⟨n, rfl⟩ := Int.eq_ofNat_of_zero_le h1.1
  rw [kX_cast] at h
  have h2 : ((n : Int) + 1) = ((n + 1 : Nat) : Int) := by omega
  rw [h2, kX_cast]
  have h3 : n < 151 := by omega
  exact (by decide +kernel : ∀ n, n < 151 → kXl.getD n (99, 0) = (0, 0) → kXl.getD (n + 1) (99, 0) = (20, 10)) n h3 h
theorem ka1_people {o : Int} (h : kX o = (1, 0)) : kX (o + 1) = (20, 10) := by
  have h1 := kX_in o (by rw [h]; decide)
  obtain ⟨n, rfl⟩ := Int.eq_ofNat_of_zero_le h1.1
  rw [kX_cast] at h
  have h2 : ((n : Int) + 1) = ((n + 1 : Nat) : Int) := by omega
  rw [h2, kX_cast]
  have h3 : n < 151 := by omega
  exact (by decide +kernel : ∀ n, n < 151 → kXl.getD n (99, 0) = (1, 0) → kXl.getD (n + 1) (99, 0) = (20, 10)) n h3 h
theorem ka1_coming {o : Int} (h : kX o = (1, 0)) : kX (o + 2) = (20, 10) := by
  have h1 := kX_in o (by rw [h]; decide)
  obtain ⟨n, rfl⟩ := Int.eq_ofNat_of_zero_le h1.1
  rw [kX_cast] at h
  have h2 : ((n : Int) + 2) = ((n + 2 : Nat) : Int) := by omega
  rw [h2, kX_cast]
  have h3 : n < 151 := by omega
  exact (by decide +kernel : ∀ n, n < 151 → kXl.getD n (99, 0) = (1, 0) → kXl.getD (n + 2) (99, 0) = (20, 10)) n h3 h
theorem ka1_oddsByRung {o : Int} (h : kX o = (1, 0)) : kX (o + 3) = (20, 40) := by
  have h1 := kX_in o (by rw [h]; decide)
  obtain ⟨n, rfl⟩ := Int.eq_ofNat_of_zero_le h1.1
  rw [kX_cast] at h
  have h2 : ((n : Int) + 3) = ((n + 3 : Nat) : Int) := by omega
  rw [h2, kX_cast]
  have h3 : n < 151 := by omega
  exact (by decide +kernel : ∀ n, n < 151 → kXl.getD n (99, 0) = (1, 0) → kXl.getD (n + 3) (99, 0) = (20, 40)) n h3 h
theorem ka1_houseBearsByRung {o : Int} (h : kX o = (1, 0)) : kX (o + 4) = (20, 10) := by
  have h1 := kX_in o (by rw [h]; decide)
  obtain ⟨n, rfl⟩ := Int.eq_ofNat_of_zero_le h1.1
  rw [kX_cast] at h
  have h2 : ((n : Int) + 4) = ((n + 4 : Nat) : Int) := by omega
  rw [h2, kX_cast]
  have h3 : n < 151 := by omega
  exact (by decide +kernel : ∀ n, n < 151 → kXl.getD n (99, 0) = (1, 0) → kXl.getD (n + 4) (99, 0) = (20, 10)) n h3 h
theorem ka1_askers {o : Int} (h : kX o = (1, 0)) : kX (o + 5) = (20, 4) := by
  have h1 := kX_in o (by rw [h]; decide)
  obtain ⟨n, rfl⟩ := Int.eq_ofNat_of_zero_le h1.1
  rw [kX_cast] at h
  have h2 : ((n : Int) + 5) = ((n + 5 : Nat) : Int) := by omega
  rw [h2, kX_cast]
  have h3 : n < 151 := by omega
  exact (by decide +kernel : ∀ n, n < 151 → kXl.getD n (99, 0) = (1, 0) → kXl.getD (n + 5) (99, 0) = (20, 4)) n h3 h
theorem ka2_months {o : Int} (h : kX o = (2, 0)) : kX (o + 1) = (20, 12) := by
  have h1 := kX_in o (by rw [h]; decide)
  obtain ⟨n, rfl⟩ := Int.eq_ofNat_of_zero_le h1.1
  rw [kX_cast] at h
  have h2 : ((n : Int) + 1) = ((n + 1 : Nat) : Int) := by omega
  rw [h2, kX_cast]
  have h3 : n < 151 := by omega
  exact (by decide +kernel : ∀ n, n < 151 → kXl.getD n (99, 0) = (2, 0) → kXl.getD (n + 1) (99, 0) = (20, 12)) n h3 h
theorem ka2_sums {o : Int} (h : kX o = (2, 0)) : kX (o + 2) = (20, 12) := by
  have h1 := kX_in o (by rw [h]; decide)
  obtain ⟨n, rfl⟩ := Int.eq_ofNat_of_zero_le h1.1
  rw [kX_cast] at h
  have h2 : ((n : Int) + 2) = ((n + 2 : Nat) : Int) := by omega
  rw [h2, kX_cast]
  have h3 : n < 151 := by omega
  exact (by decide +kernel : ∀ n, n < 151 → kXl.getD n (99, 0) = (2, 0) → kXl.getD (n + 2) (99, 0) = (20, 12)) n h3 h
theorem ka2_asked {o : Int} (h : kX o = (2, 0)) : kX (o + 3) = (21, 12) := by
  have h1 := kX_in o (by rw [h]; decide)
  obtain ⟨n, rfl⟩ := Int.eq_ofNat_of_zero_le h1.1
  rw [kX_cast] at h
  have h2 : ((n : Int) + 3) = ((n + 3 : Nat) : Int) := by omega
  rw [h2, kX_cast]
  have h3 : n < 151 := by omega
  exact (by decide +kernel : ∀ n, n < 151 → kXl.getD n (99, 0) = (2, 0) → kXl.getD (n + 3) (99, 0) = (21, 12)) n h3 h
theorem ka2_rungs {o : Int} (h : kX o = (2, 0)) : kX (o + 4) = (20, 8) := by
  have h1 := kX_in o (by rw [h]; decide)
  obtain ⟨n, rfl⟩ := Int.eq_ofNat_of_zero_le h1.1
  rw [kX_cast] at h
  have h2 : ((n : Int) + 4) = ((n + 4 : Nat) : Int) := by omega
  rw [h2, kX_cast]
  have h3 : n < 151 := by omega
  exact (by decide +kernel : ∀ n, n < 151 → kXl.getD n (99, 0) = (2, 0) → kXl.getD (n + 4) (99, 0) = (20, 8)) n h3 h
theorem ka2_askings {o : Int} (h : kX o = (2, 0)) : kX (o + 5) = (20, 8) := by
  have h1 := kX_in o (by rw [h]; decide)
  obtain ⟨n, rfl⟩ := Int.eq_ofNat_of_zero_le h1.1
  rw [kX_cast] at h
  have h2 : ((n : Int) + 5) = ((n + 5 : Nat) : Int) := by omega
  rw [h2, kX_cast]
  have h3 : n < 151 := by omega
  exact (by decide +kernel : ∀ n, n < 151 → kXl.getD n (99, 0) = (2, 0) → kXl.getD (n + 5) (99, 0) = (20, 8)) n h3 h
theorem ka3_costs {o : Int} (h : kX o = (3, 0)) : kX (o + 1) = (20, 310) := by
  have h1 := kX_in o (by rw [h]; decide)
  obtain ⟨n, rfl⟩ := Int.eq_ofNat_of_zero_le h1.1
  rw [kX_cast] at h
  have h2 : ((n : Int) + 1) = ((n + 1 : Nat) : Int) := by omega
  rw [h2, kX_cast]
  have h3 : n < 151 := by omega
  exact (by decide +kernel : ∀ n, n < 151 → kXl.getD n (99, 0) = (3, 0) → kXl.getD (n + 1) (99, 0) = (20, 310)) n h3 h
theorem ka3_painedRungs {o : Int} (h : kX o = (3, 0)) : kX (o + 2) = (20, 31) := by
  have h1 := kX_in o (by rw [h]; decide)
  obtain ⟨n, rfl⟩ := Int.eq_ofNat_of_zero_le h1.1
  rw [kX_cast] at h
  have h2 : ((n : Int) + 2) = ((n + 2 : Nat) : Int) := by omega
  rw [h2, kX_cast]
  have h3 : n < 151 := by omega
  exact (by decide +kernel : ∀ n, n < 151 → kXl.getD n (99, 0) = (3, 0) → kXl.getD (n + 2) (99, 0) = (20, 31)) n h3 h
theorem ka3_table {o : Int} (h : kX o = (3, 0)) : kX (o + 3) = (20, 52) := by
  have h1 := kX_in o (by rw [h]; decide)
  obtain ⟨n, rfl⟩ := Int.eq_ofNat_of_zero_le h1.1
  rw [kX_cast] at h
  have h2 : ((n : Int) + 3) = ((n + 3 : Nat) : Int) := by omega
  rw [h2, kX_cast]
  have h3 : n < 151 := by omega
  exact (by decide +kernel : ∀ n, n < 151 → kXl.getD n (99, 0) = (3, 0) → kXl.getD (n + 3) (99, 0) = (20, 52)) n h3 h
theorem ka3_firstAsked {o : Int} (h : kX o = (3, 0)) : kX (o + 4) = (20, 48) := by
  have h1 := kX_in o (by rw [h]; decide)
  obtain ⟨n, rfl⟩ := Int.eq_ofNat_of_zero_le h1.1
  rw [kX_cast] at h
  have h2 : ((n : Int) + 4) = ((n + 4 : Nat) : Int) := by omega
  rw [h2, kX_cast]
  have h3 : n < 151 := by omega
  exact (by decide +kernel : ∀ n, n < 151 → kXl.getD n (99, 0) = (3, 0) → kXl.getD (n + 4) (99, 0) = (20, 48)) n h3 h
theorem ka3_spared {o : Int} (h : kX o = (3, 0)) : kX (o + 5) = (20, 8) := by
  have h1 := kX_in o (by rw [h]; decide)
  obtain ⟨n, rfl⟩ := Int.eq_ofNat_of_zero_le h1.1
  rw [kX_cast] at h
  have h2 : ((n : Int) + 5) = ((n + 5 : Nat) : Int) := by omega
  rw [h2, kX_cast]
  have h3 : n < 151 := by omega
  exact (by decide +kernel : ∀ n, n < 151 → kXl.getD n (99, 0) = (3, 0) → kXl.getD (n + 5) (99, 0) = (20, 8)) n h3 h
theorem ka3_chanceFrom {o : Int} (h : kX o = (3, 0)) : kX (o + 6) = (20, 9) := by
  have h1 := kX_in o (by rw [h]; decide)
  obtain ⟨n, rfl⟩ := Int.eq_ofNat_of_zero_le h1.1
  rw [kX_cast] at h
  have h2 : ((n : Int) + 6) = ((n + 6 : Nat) : Int) := by omega
  rw [h2, kX_cast]
  have h3 : n < 151 := by omega
  exact (by decide +kernel : ∀ n, n < 151 → kXl.getD n (99, 0) = (3, 0) → kXl.getD (n + 6) (99, 0) = (20, 9)) n h3 h
theorem ka3_houseBearsFrom {o : Int} (h : kX o = (3, 0)) : kX (o + 7) = (20, 9) := by
  have h1 := kX_in o (by rw [h]; decide)
  obtain ⟨n, rfl⟩ := Int.eq_ofNat_of_zero_le h1.1
  rw [kX_cast] at h
  have h2 : ((n : Int) + 7) = ((n + 7 : Nat) : Int) := by omega
  rw [h2, kX_cast]
  have h3 : n < 151 := by omega
  exact (by decide +kernel : ∀ n, n < 151 → kXl.getD n (99, 0) = (3, 0) → kXl.getD (n + 7) (99, 0) = (20, 9)) n h3 h
theorem ka4_bytes {o : Int} (h : kX o = (4, 0)) : kX (o + 1) = (20, 300) := by
  have h1 := kX_in o (by rw [h]; decide)
  obtain ⟨n, rfl⟩ := Int.eq_ofNat_of_zero_le h1.1
  rw [kX_cast] at h
  have h2 : ((n : Int) + 1) = ((n + 1 : Nat) : Int) := by omega
  rw [h2, kX_cast]
  have h3 : n < 151 := by omega
  exact (by decide +kernel : ∀ n, n < 151 → kXl.getD n (99, 0) = (4, 0) → kXl.getD (n + 1) (99, 0) = (20, 300)) n h3 h
theorem ka5_bars {o : Int} (h : kX o = (5, 0)) : kX (o + 1) = (20, 6) := by
  have h1 := kX_in o (by rw [h]; decide)
  obtain ⟨n, rfl⟩ := Int.eq_ofNat_of_zero_le h1.1
  rw [kX_cast] at h
  have h2 : ((n : Int) + 1) = ((n + 1 : Nat) : Int) := by omega
  rw [h2, kX_cast]
  have h3 : n < 151 := by omega
  exact (by decide +kernel : ∀ n, n < 151 → kXl.getD n (99, 0) = (5, 0) → kXl.getD (n + 1) (99, 0) = (20, 6)) n h3 h
theorem ka5_firstRungs {o : Int} (h : kX o = (5, 0)) : kX (o + 2) = (20, 6) := by
  have h1 := kX_in o (by rw [h]; decide)
  obtain ⟨n, rfl⟩ := Int.eq_ofNat_of_zero_le h1.1
  rw [kX_cast] at h
  have h2 : ((n : Int) + 2) = ((n + 2 : Nat) : Int) := by omega
  rw [h2, kX_cast]
  have h3 : n < 151 := by omega
  exact (by decide +kernel : ∀ n, n < 151 → kXl.getD n (99, 0) = (5, 0) → kXl.getD (n + 2) (99, 0) = (20, 6)) n h3 h
theorem ka5_lastRungs {o : Int} (h : kX o = (5, 0)) : kX (o + 3) = (20, 6) := by
  have h1 := kX_in o (by rw [h]; decide)
  obtain ⟨n, rfl⟩ := Int.eq_ofNat_of_zero_le h1.1
  rw [kX_cast] at h
  have h2 : ((n : Int) + 3) = ((n + 3 : Nat) : Int) := by omega
  rw [h2, kX_cast]
  have h3 : n < 151 := by omega
  exact (by decide +kernel : ∀ n, n < 151 → kXl.getD n (99, 0) = (5, 0) → kXl.getD (n + 3) (99, 0) = (20, 6)) n h3 h
theorem ka5_firstMonths {o : Int} (h : kX o = (5, 0)) : kX (o + 4) = (20, 6) := by
  have h1 := kX_in o (by rw [h]; decide)
  obtain ⟨n, rfl⟩ := Int.eq_ofNat_of_zero_le h1.1
  rw [kX_cast] at h
  have h2 : ((n : Int) + 4) = ((n + 4 : Nat) : Int) := by omega
  rw [h2, kX_cast]
  have h3 : n < 151 := by omega
  exact (by decide +kernel : ∀ n, n < 151 → kXl.getD n (99, 0) = (5, 0) → kXl.getD (n + 4) (99, 0) = (20, 6)) n h3 h
theorem ka5_lastMonths {o : Int} (h : kX o = (5, 0)) : kX (o + 5) = (20, 6) := by
  have h1 := kX_in o (by rw [h]; decide)
  obtain ⟨n, rfl⟩ := Int.eq_ofNat_of_zero_le h1.1
  rw [kX_cast] at h
  have h2 : ((n : Int) + 5) = ((n + 5 : Nat) : Int) := by omega
  rw [h2, kX_cast]
  have h3 : n < 151 := by omega
  exact (by decide +kernel : ∀ n, n < 151 → kXl.getD n (99, 0) = (5, 0) → kXl.getD (n + 5) (99, 0) = (20, 6)) n h3 h
theorem ka6_sums {o : Int} (h : kX o = (6, 0)) : kX (o + 1) = (20, 8) := by
  have h1 := kX_in o (by rw [h]; decide)
  obtain ⟨n, rfl⟩ := Int.eq_ofNat_of_zero_le h1.1
  rw [kX_cast] at h
  have h2 : ((n : Int) + 1) = ((n + 1 : Nat) : Int) := by omega
  rw [h2, kX_cast]
  have h3 : n < 151 := by omega
  exact (by decide +kernel : ∀ n, n < 151 → kXl.getD n (99, 0) = (6, 0) → kXl.getD (n + 1) (99, 0) = (20, 8)) n h3 h
theorem ka6_chances {o : Int} (h : kX o = (6, 0)) : kX (o + 2) = (20, 8) := by
  have h1 := kX_in o (by rw [h]; decide)
  obtain ⟨n, rfl⟩ := Int.eq_ofNat_of_zero_le h1.1
  rw [kX_cast] at h
  have h2 : ((n : Int) + 2) = ((n + 2 : Nat) : Int) := by omega
  rw [h2, kX_cast]
  have h3 : n < 151 := by omega
  exact (by decide +kernel : ∀ n, n < 151 → kXl.getD n (99, 0) = (6, 0) → kXl.getD (n + 2) (99, 0) = (20, 8)) n h3 h
theorem ka6_sparedChances {o : Int} (h : kX o = (6, 0)) : kX (o + 3) = (20, 8) := by
  have h1 := kX_in o (by rw [h]; decide)
  obtain ⟨n, rfl⟩ := Int.eq_ofNat_of_zero_le h1.1
  rw [kX_cast] at h
  have h2 : ((n : Int) + 3) = ((n + 3 : Nat) : Int) := by omega
  rw [h2, kX_cast]
  have h3 : n < 151 := by omega
  exact (by decide +kernel : ∀ n, n < 151 → kXl.getD n (99, 0) = (6, 0) → kXl.getD (n + 3) (99, 0) = (20, 8)) n h3 h
theorem kr_30 {i : Int} (h : 0 ≤ i ∧ i < 2) : kX (23 + 2 * i) = (0, 0) := by
  obtain ⟨n, rfl⟩ := Int.eq_ofNat_of_zero_le h.1
  have h3 : n < 2 := by omega
  have h2 : ((23 : Int) + 2 * (n : Int)) = ((23 + 2 * n : Nat) : Int) := by omega
  rw [h2, kX_cast]
  exact (by decide +kernel : ∀ n, n < 2 → kXl.getD (23 + 2 * n) (99, 0) = (0, 0)) n h3
theorem kr_31 {i : Int} (h : 0 ≤ i ∧ i < 4) : kX (27 + 4 * i) = (6, 0) := by
  obtain ⟨n, rfl⟩ := Int.eq_ofNat_of_zero_le h.1
  have h3 : n < 4 := by omega
  have h2 : ((27 : Int) + 4 * (n : Int)) = ((27 + 4 * n : Nat) : Int) := by omega
  rw [h2, kX_cast]
  exact (by decide +kernel : ∀ n, n < 4 → kXl.getD (27 + 4 * n) (99, 0) = (6, 0)) n h3
theorem kr_32 {i : Int} (h : 0 ≤ i ∧ i < 4) : kX (115 + 6 * i) = (5, 0) := by
  obtain ⟨n, rfl⟩ := Int.eq_ofNat_of_zero_le h.1
  have h3 : n < 4 := by omega
  have h2 : ((115 : Int) + 6 * (n : Int)) = ((115 + 6 * n : Nat) : Int) := by omega
  rw [h2, kX_cast]
  exact (by decide +kernel : ∀ n, n < 4 → kXl.getD (115 + 6 * n) (99, 0) = (5, 0)) n h3
theorem kr_33 {i : Int} (h : 0 ≤ i ∧ i < 8) : kX (43 + 8 * i) = (3, 0) := by
  obtain ⟨n, rfl⟩ := Int.eq_ofNat_of_zero_le h.1
  have h3 : n < 8 := by omega
  have h2 : ((43 : Int) + 8 * (n : Int)) = ((43 + 8 * n : Nat) : Int) := by omega
  rw [h2, kX_cast]
  exact (by decide +kernel : ∀ n, n < 8 → kXl.getD (43 + 8 * n) (99, 0) = (3, 0)) n h3
theorem kr_34 {i : Int} (h : 0 ≤ i ∧ i < 2) : kX (139 + 6 * i) = (2, 0) := by
  obtain ⟨n, rfl⟩ := Int.eq_ofNat_of_zero_le h.1
  have h3 : n < 2 := by omega
  have h2 : ((139 : Int) + 6 * (n : Int)) = ((139 + 6 * n : Nat) : Int) := by omega
  rw [h2, kX_cast]
  exact (by decide +kernel : ∀ n, n < 2 → kXl.getD (139 + 6 * n) (99, 0) = (2, 0)) n h3
