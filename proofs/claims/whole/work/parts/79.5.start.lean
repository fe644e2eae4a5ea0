/-! at the start -/
theorem x0z {k j : Int} (h0 : (kX k).1 ≠ 0) (h3 : (kX k).1 ≠ 3) (h1 : k ≠ 1) (hk : k ≠ 0) : σX0 k j = 0 := by
  unfold σX0
  rw [if_neg h0, if_neg h3, if_neg h1, if_neg hk]
theorem m0z {k j : Int} (h : k ≠ 0) : τM0 k j = 0 := by
  unfold τM0
  rw [if_neg h]
theorem m00 {j : Int} (h : j ≠ 15) : τM0 0 j = 0 := by
  unfold τM0
  rw [if_pos rfl, if_neg h]
theorem x0p : ∀ s : Nat, s < 4 → ∀ h : Nat, h < 2 → σX0 (43 + 8 * (2 * (s : Int) + (h : Int))) 0 = 27 + 4 * (s : Int) ∧ σX0 (43 + 8 * (2 * (s : Int) + (h : Int))) 1 = 23 + 2 * (h : Int) ∧ σX0 (43 + 8 * (2 * (s : Int) + (h : Int))) 2 = -1 ∧ σX0 (43 + 8 * (2 * (s : Int) + (h : Int))) 5 = 0 ∧ (kX (43 + 8 * (2 * (s : Int) + (h : Int)) + 1)).1 = 20 := by decide +kernel
theorem inv0 : Inv σX0 τM0 := by
  have t7 : τM0 0 7 = 0 := m00 (by decide)
  have t23 : τM0 0 23 = 0 := m00 (by decide)
  have t14 : τM0 0 14 = 0 := m00 (by decide)
  have t33 : τM0 0 33 = 0 := m00 (by decide)
  have t42 : τM0 0 42 = 0 := m00 (by decide)
  have t47 : τM0 0 47 = 0 := m00 (by decide)
  refine ⟨⟨by decide +kernel, by rw [t14]; decide +kernel, by rw [t14]; decide, fun i i0 i1 => by rw [t14] at i1; omega⟩, ⟨by rw [t7]; decide +kernel, by rw [t23]; decide +kernel, fun s s0 s1 => by rw [t7] at s1; omega, fun h h0 h1 => ?_, fun u u0 u1 => by rw [t23] at u1; omega⟩, ⟨fun s h s0 s1 h0 h1 => ?_, fun r r0 r1 => x0z (by decide +kernel) (by decide +kernel) (by decide) (by decide)⟩, Or.inl (m00 (by decide)), ?_, fun v v0 v1 => ?_⟩
  · refine Or.inl ⟨?_, m0z (by decide)⟩
    rcases (by omega : h = 0 ∨ h = 1) with rfl | rfl <;> decide +kernel
  · obtain ⟨a, b, c, d, e⟩ := x0p s.toNat (by omega) h.toNat (by omega)
    rw [Int.toNat_of_nonneg s0, Int.toNat_of_nonneg h0] at a b c d e
    refine ⟨a, b, c, by rw [show σX0 (pO s h) 5 = 0 from d]; decide, fun z => by rw [t7] at z; omega, fun _ => d, fun r _ _ => x0z (by rw [show (kX (pO s h + 1)).1 = 20 from e]; decide) (by rw [show (kX (pO s h + 1)).1 = 20 from e]; decide) (by unfold pO; omega) (by unfold pO; omega)⟩
  · refine ⟨⟨by rw [t33]; decide +kernel, by rw [t33]; decide, by rw [t33]; decide⟩, fun i i0 i1 => by rw [t33] at i1; omega, fun i _ _ => Or.inl (x0z (by decide +kernel) (by decide +kernel) (by decide) (by decide)), ⟨by rw [t42]; decide +kernel, by rw [t42]; decide, by rw [t42]; decide⟩, fun i i0 i1 => by rw [t42] at i1; omega, by rw [t47]; decide +kernel, by rw [t47]; decide, by rw [t47]; decide⟩
  · rw [m0z (k := 30) (by decide)]
    refine ⟨?_, Or.inl rfl⟩
    rcases (by omega : v = 0 ∨ v = 1) with rfl | rfl <;> decide +kernel
