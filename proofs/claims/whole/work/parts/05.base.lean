/-! numbers: an int is the image of a whole number, so + - * need no bounds -/
def zI (z : Int) : Int32 := Int32.ofInt z
def zJ (z : Int) : Int64 := Int64.ofInt z
/-- the int, the long that a whole number stands for, as a whole number -/
def zm (z : Int) : Int := (Int32.ofInt z).toInt
def zl (z : Int) : Int := (Int64.ofInt z).toInt
theorem zI_add (a b : Int) : zI (a + b) = zI a + zI b := Int32.ofInt_add ..
theorem zI_sub (a b : Int) : zI (a - b) = zI a - zI b := Int32.ofInt_sub ..
theorem zI_mul (a b : Int) : zI (a * b) = zI a * zI b := Int32.ofInt_mul ..
theorem zJ_add (a b : Int) : zJ (a + b) = zJ a + zJ b := Int64.ofInt_add ..
theorem zJ_sub (a b : Int) : zJ (a - b) = zJ a - zJ b := Int64.ofInt_sub ..
theorem zJ_mul (a b : Int) : zJ (a * b) = zJ a * zJ b := Int64.ofInt_mul ..
theorem zI_toInt (a : Int) : (zI a).toInt = zm a := rfl
theorem zJ_toInt (a : Int) : (zJ a).toInt = zl a := rfl
theorem zI_of (x : Int32) : zI x.toInt = x := Int32.ofInt_toInt x
theorem zJ_of (x : Int64) : zJ x.toInt = x := Int64.ofInt_toInt x
theorem zm_eq {a : Int} (h1 : -2147483648 ≤ a) (h2 : a < 2147483648) : zm a = a := by
  unfold zm
  rw [Int32.toInt_ofInt]
  rw [Int.bmod_eq_of_le] <;> (simp only [Int32.size]; omega)
theorem zl_eq {a : Int} (h1 : -9223372036854775808 ≤ a) (h2 : a < 9223372036854775808) : zl a = a := by
  unfold zl
  rw [Int64.toInt_ofInt]
  rw [Int.bmod_eq_of_le] <;> (simp only [Int64.size]; omega)
theorem zm_lo (a : Int) : -2147483648 ≤ zm a := Int32.minValue_le_toInt _
theorem zm_hi (a : Int) : zm a < 2147483648 := Int32.toInt_lt _
theorem zm_zm (a : Int) : zm (zm a) = zm a := zm_eq (zm_lo a) (zm_hi a)
theorem zI_zm (a : Int) : zI (zm a) = zI a := zI_of (zI a)
theorem zI_lt (a b : Int) : zI a < zI b ↔ zm a < zm b := Int32.lt_iff_toInt_lt
theorem zI_le (a b : Int) : zI a ≤ zI b ↔ zm a ≤ zm b := Int32.le_iff_toInt_le
theorem zI_eq (a b : Int) : zI a = zI b ↔ zm a = zm b := Int32.toInt_inj.symm
theorem zJ_lt (a b : Int) : zJ a < zJ b ↔ zl a < zl b := Int64.lt_iff_toInt_lt
theorem zJ_eq (a b : Int) : zJ a = zJ b ↔ zl a = zl b := Int64.toInt_inj.symm
theorem zI_0 : (0 : Int32) = zI 0 := by decide
theorem zm_0 : zm 0 = 0 := by decide
theorem zl_lo (a : Int) : -9223372036854775808 ≤ zl a := Int64.minValue_le_toInt _
theorem zl_hi (a : Int) : zl a < 9223372036854775808 := Int64.toInt_lt _
theorem zJ_zl (a : Int) : zJ (zl a) = zJ a := zJ_of (zJ a)
theorem zI_div (a b : Int) : zI a / zI b = zI ((zm a).tdiv (zm b)) := by
  rw [← zI_zm a, ← zI_zm b]
  refine (Int32.ofInt_tdiv ?_ ?_ ?_ ?_).symm
  · rw [Int32.toInt_minValue]; exact zm_lo a
  · rw [Int32.toInt_maxValue]; have := zm_hi a; omega
  · rw [Int32.toInt_minValue]; exact zm_lo b
  · rw [Int32.toInt_maxValue]; have := zm_hi b; omega
theorem zl_zl (a : Int) : zl (zl a) = zl a := zl_eq (zl_lo a) (zl_hi a)
theorem zJ_div (a b : Int) : zJ a / zJ b = zJ ((zl a).tdiv (zl b)) := by
  rw [← zJ_zl a, ← zJ_zl b]
  refine (Int64.ofInt_tdiv ?_ ?_ ?_ ?_).symm
  · rw [Int64.toInt_minValue]; exact zl_lo a
  · rw [Int64.toInt_maxValue]; have := zl_hi a; omega
  · rw [Int64.toInt_minValue]; exact zl_lo b
  · rw [Int64.toInt_maxValue]; have := zl_hi b; omega
theorem zI_rem (a b : Int) : zI a - zI a / zI b * zI b = zI ((zm a).tmod (zm b)) := by
  rw [irem_eq_mod]
  apply Int32.toInt_inj.mp
  rw [Int32.toInt_mod]
  show (zm a).tmod (zm b) = zm ((zm a).tmod (zm b))
  rw [← show (zI a % zI b).toInt = (zm a).tmod (zm b) from Int32.toInt_mod _ _]
  exact (zm_eq (Int32.minValue_le_toInt _) (Int32.toInt_lt _)).symm
theorem zJ_rem (a b : Int) : zJ a - zJ a / zJ b * zJ b = zJ ((zl a).tmod (zl b)) := by
  rw [zJ_div, ← zJ_zl a, ← zJ_zl b, ← zJ_mul, ← zJ_sub]
  congr 1
  have := Int.tmod_add_mul_tdiv (zl a) (zl b)
  rw [Int.mul_comm] at this
  omega
/-- shifts, masks, compares -/
def zshl (a b : Int) : Int := (zI a <<< (zI b &&& 31)).toInt
def zshr (a b : Int) : Int := (zI a >>> (zI b &&& 31)).toInt
def zand (a b : Int) : Int := (zI a &&& zI b).toInt
def zor (a b : Int) : Int := (zI a ||| zI b).toInt
def zxor (a b : Int) : Int := (zI a ^^^ zI b).toInt
def zland (a b : Int) : Int := (zJ a &&& zJ b).toInt
def zlor (a b : Int) : Int := (zJ a ||| zJ b).toInt
def zlshl (a b : Int) : Int := (zJ a <<< ((zI b).toInt64 &&& 63)).toInt
def zlshr (a b : Int) : Int := (zJ a >>> ((zI b).toInt64 &&& 63)).toInt
def zlushr (a b : Int) : Int := ((zJ a).toUInt64 >>> ((zI b).toInt64.toUInt64 &&& Int64.toUInt64 63)).toInt64.toInt
def zcmp (a b : Int) : Int := if zl b < zl a then 1 else if zl a = zl b then 0 else -1
theorem zcmp_I (a b : Int) : lg_cmp (zJ a) (zJ b) = zI (zcmp a b) := by
  unfold lg_cmp zcmp
  simp only [gt_iff_lt, zJ_lt, zJ_eq]
  repeat' split
  all_goals decide
theorem zI_l (a : Int) : (zI a).toInt64 = zJ (zm a) := by
  apply Int64.toInt_inj.mp
  rw [Int32.toInt_toInt64]
  show zm a = zl (zm a)
  exact (zl_eq (by have := zm_lo a; omega) (by have := zm_hi a; omega)).symm
theorem zJ_i (a : Int) : (zJ a).toInt32 = zI a := Int64.toInt32_ofInt
theorem zI_clamp (a : Int) : (zI a).toNatClampNeg = (zm a).toNat := rfl
theorem zI_in {a : Int} {n : Nat} (h : 0 ≤ zm a ∧ zm a < n) : vp_in (zI a) n := vp_in_iff.mpr h
/-! the store -/
abbrev St : Type := Int → Int → Int
/-- one row changed at one place -/
def up (f : Int → Int) (j v : Int) : Int → Int := fun i => if i = j then v else f i
/-- the store changed at one place -/
def su (σ : St) (k j v : Int) : St := fun q => if q = k then up (σ k) j v else σ q
theorem su_self (σ : St) (k j v : Int) : su σ k j v k = up (σ k) j v := if_pos rfl
theorem su_ne (σ : St) {k q : Int} (j v : Int) (h : q ≠ k) : su σ k j v q = σ q := if_neg h
theorem up_self (f : Int → Int) (j v : Int) : up f j v j = v := if_pos rfl
theorem up_ne (f : Int → Int) {j i : Int} (v : Int) (h : i ≠ j) : up f j v i = f i := if_neg h
/-- what is refused -/
def gd (c : Prop) [Decidable c] (x : Option (Int × St)) : Option (Int × St) := if c then x else none
theorem gd_some {c : Prop} [Decidable c] {x : Option (Int × St)} {y : Int × St} (h : gd c x = some y) : c ∧ x = some y := by
  unfold gd at h
  by_cases hc : c
  · rw [if_pos hc] at h; exact ⟨hc, h⟩
  · rw [if_neg hc] at h; cases h
theorem gd_pos {c : Prop} [Decidable c] {x : Option (Int × St)} (h : c) : gd c x = x := if_pos h
theorem bd_some {a : Option (Int × St)} {f : Int × St → Option (Int × St)} {y : Int × St} (h : a.bind f = some y) : ∃ x, a = some x ∧ f x = some y := Option.bind_eq_some_iff.mp h
/-- rounds that a loop may take -/
def FU : Nat := 100000
/-- what may be null, by its code -/
def rv (ad : Int → Nat) (z : Int) : Value := if z < 0 then .null else .ref (ad z)
theorem rv_ref {ad : Int → Nat} {z : Int} (h : 0 ≤ z) : rv ad z = .ref (ad z) := if_neg (by omega)
theorem rv_null {ad : Int → Nat} {z : Int} (h : z < 0) : rv ad z = .null := if_pos h
