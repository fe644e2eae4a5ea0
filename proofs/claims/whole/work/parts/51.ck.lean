/-! what holds between the class's store and the reference's -/
theorem WK_k {τ τ' : St} {s h ru Y : Int} (h0 : ∀ j : Int, 28 ≤ j → j ≤ 31 → τ' 0 j = τ 0 j) (h16 : τ' 16 = τ 16) (h17 : τ' 17 = τ 17) (e : eqK τ τ' s h ru) (hw : WK τ s h ru Y) : WK τ' s h ru Y := by
  obtain ⟨⟨a1, a2, a3, hs, hh, hu⟩, a4, a5, _, w1, w2⟩ := hw
  have e1 := e.2.1.1
  refine ⟨⟨by rw [h0 28 (by decide) (by decide)]; exact a1, by rw [h0 29 (by decide) (by decide)]; exact a2, by rw [h0 30 (by decide) (by decide)]; exact a3, SOK_k e hs, HOK_k e hh, hu.imp id (ROK_k e)⟩, by rw [h0 31 (by decide) (by decide)]; exact a4, a5, fun _ _ _ => rfl, fun y' r' b1 b2 b3 b4 => ?_, fun y' r' p m k b1 b2 b3 b4 b5 b6 b7 b8 b9 => ?_⟩
  · rw [h16, ← cst_k e hs hh hu _ r' b1 (by omega)]
    exact w1 y' r' b1 (by omega) b3 b4
  · have e11 := e.1.2.1
    rw [h17, ← inM_k e hs hu, ← inM_g hh ⟨b1, by omega⟩ (fun r r0 r1 => cst_k e hs hh hu _ r r0 r1) _ k b8 b9]
    refine w2 y' r' p m k b1 (by omega) b3 b4 ?_ b6 b7 b8 b9
    rcases b5 with b5 | ⟨b5, c1, c2⟩
    · exact Or.inl b5
    · exact Or.inr ⟨b5, c1, by omega⟩
/-- the text fed -/
def IT (σ τ : St) : Prop := σ 0 13 = τ 0 15 ∧ σ 1 1 = τ 0 14 ∧ (0 ≤ τ 0 14 ∧ τ 0 14 ≤ 300) ∧ ∀ i, 0 ≤ i → i < τ 0 14 → σ 2 i = τ 13 i ∧ 0 ≤ τ 13 i ∧ τ 13 i ≤ 255
/-- the sorts, houses, rules told -/
def IW (σ τ : St) : Prop := (σ 0 11 = τ 0 7 ∧ 0 ≤ τ 0 7 ∧ τ 0 7 ≤ 4) ∧ (σ 0 12 = τ 0 23 ∧ 0 ≤ τ 0 23 ∧ τ 0 23 ≤ 4) ∧ (∀ s, 0 ≤ s → s < τ 0 7 → SR σ (27 + 4 * s) τ s ∧ SOK τ s) ∧ (∀ h, 0 ≤ h → h < 2 → (σ (23 + 2 * h) 1 = 0 ∧ τ 1 h = 0) ∨ (HR σ (23 + 2 * h) τ h ∧ HOK τ h)) ∧ (∀ u, 0 ≤ u → u < τ 0 23 → RR σ (115 + 6 * u) τ u ∧ ROK τ u)
abbrev pO (s h : Int) : Int := 43 + 8 * (2 * s + h)
/-- the plans -/
def IP (σ τ : St) : Prop := (∀ s h, 0 ≤ s → s < 4 → 0 ≤ h → h < 2 → σ (pO s h) 0 = 27 + 4 * s ∧ σ (pO s h) 1 = 23 + 2 * h ∧ σ (pO s h) 2 = -1 ∧ (0 ≤ σ (pO s h) 5 ∧ σ (pO s h) 5 ≤ 30) ∧ (s < τ 0 7 → 0 < τ 1 h → KN σ (pO s h) τ s h (-1) (σ (pO s h) 5) 0) ∧ ((τ 0 7 ≤ s ∨ τ 1 h ≤ 0) → σ (pO s h) 5 = 0) ∧ ∀ r, 0 ≤ r → r < 10 → σ (pO s h + 1) r = 0) ∧ ∀ r, 0 ≤ r → r < 10 → σ 108 r = 0
/-- what the reference has worked -/
def IC (τ : St) : Prop := τ 0 32 = 0 ∨ (τ 0 32 = 1 ∧ WK τ (τ 0 28) (τ 0 29) (τ 0 30) (τ 0 31) ∧ τ 0 29 < 2 ∧ τ 0 28 < τ 0 7 ∧ τ 0 30 < τ 0 23)
/-- a memory -/
def MR (σ : St) (o n m sd : Int) (A B C D E : Int → Int) : Prop := (σ o 3 = n ∧ 0 ≤ n ∧ n ≤ 12) ∧ (∀ i, 0 ≤ i → i < n → σ (o + 1) i = A i ∧ σ (o + 2) i = B i ∧ σ (o + 3) i = C i ∧ i ≤ A i ∧ A i ≤ 11 ∧ 1 ≤ B i ∧ B i ≤ 999) ∧ (∀ i, 0 ≤ i → i < 12 → σ (o + 3) i = 0 ∨ σ (o + 3) i = 1) ∧ (σ o 6 = m ∧ 0 ≤ m ∧ m ≤ 8) ∧ (∀ i, 0 ≤ i → i < m → σ (o + 4) i = D i ∧ σ (o + 5) i = E i ∧ 0 ≤ D i ∧ D i ≤ 9 ∧ 0 ≤ E i ∧ E i ≤ 3) ∧ σ o 7 = sd ∧ 0 ≤ sd ∧ sd ≤ 2147483647
def IM (σ τ : St) : Prop := MR σ 16 (τ 0 33) (τ 0 42) (τ 0 47) (τ 18) (τ 19) (τ 20) (τ 25) (τ 26) ∧ ∀ v, 0 ≤ v → v < 2 → σ (139 + 6 * v) 8 = τ 30 v ∧ (τ 30 v = 0 ∨ (τ 30 v = 1 ∧ MR σ (139 + 6 * v) (τ 29 (100 * v)) (τ 29 (100 * v + 1)) (τ 29 (100 * v + 2)) (fun i => τ 29 (100 * v + 3 + i)) (fun i => τ 29 (100 * v + 27 + i)) (fun i => τ 29 (100 * v + 51 + i)) (fun i => τ 29 (100 * v + 75 + i)) (fun i => τ 29 (100 * v + 83 + i))))
def Inv (σ τ : St) : Prop := IT σ τ ∧ IW σ τ ∧ IP σ τ ∧ IC τ ∧ IM σ τ
/-! what is asked of an argument -/
abbrev cS (τ : St) (v : Int) : Prop := 0 ≤ v ∧ v < τ 0 7
abbrev cU (τ : St) (v : Int) : Prop := 0 ≤ v ∧ v < τ 0 23
abbrev cH (τ : St) (v : Int) : Prop := (0 ≤ v ∧ v < 2) ∧ 0 < τ 1 v
abbrev cG (τ : St) (v r : Int) : Prop := cH τ v ∧ 0 ≤ r ∧ r < τ 1 v
theorem i32_64 {a : Int} (h : i32 a) : i64 a := ⟨by have := h.1; omega, by have := h.2; omega⟩
theorem zm_i {a : Int} (h : i32 a) : zm a = a := zm_eq (by have := h.1; omega) (by have := h.2; omega)
theorem zm0 : zm 0 = 0 := by decide
theorem zm1 : zm 1 = 1 := by decide
theorem zm1n : (zm 1 = 0) = False := by decide
theorem zm0t : (zm 0 = 0) = True := by decide
/-- a check's answer passed on -/
theorem bndif {c : Prop} [Decidable c] {a b : Int} {σ : St} {f : Int × St → Option (Int × St)} : Option.bind (some (if c then a else b, σ)) f = if c then f (a, σ) else f (b, σ) := by
  by_cases h : c
  · rw [if_pos h, if_pos h, bnd_some]
  · rw [if_neg h, if_neg h, bnd_some]
theorem X_isOut {a b c : Int} (ha : i32 a) (hb : i32 b) (hc : i32 c) (σ : St) : p_X7_isOut a b c σ = some (if b ≤ a ∧ a ≤ c then 0 else 1, σ) := by
  unfold p_X7_isOut p_X7_isOut_10
  rw [zm_i ha, zm_i hb, zm_i hc]
  by_cases h1 : a < b
  · rw [if_pos h1, if_neg (by omega)]
  · rw [if_neg h1]
    by_cases h2 : a ≤ c
    · rw [if_pos h2, if_pos (by omega)]
    · rw [if_neg h2, if_neg (by omega)]
theorem X_isSort {σ τ : St} {v : Int} (hw : IW σ τ) (hv : i32 v) : p_X7_isSort v σ = some (if cS τ v then 1 else 0, σ) := by
  have h := hw.1
  unfold p_X7_isSort
  rw [h.1, X_isOut hv ⟨by decide, by decide⟩ ⟨by omega, by omega⟩]
  by_cases c : cS τ v
  · rw [if_pos c, if_pos (by omega)]
    simp only [bnd_some, zm0t, if_true]
  · rw [if_neg c, if_neg (by omega)]
    simp only [bnd_some, zm1n, if_false]
theorem X_isRule {σ τ : St} {v : Int} (hw : IW σ τ) (hv : i32 v) : p_X7_isRule v σ = some (if cU τ v then 1 else 0, σ) := by
  have h := hw.2.1
  unfold p_X7_isRule
  rw [h.1, X_isOut hv ⟨by decide, by decide⟩ ⟨by omega, by omega⟩]
  by_cases c : cU τ v
  · rw [if_pos c, if_pos (by omega)]
    simp only [bnd_some, zm0t, if_true]
  · rw [if_neg c, if_neg (by omega)]
    simp only [bnd_some, zm1n, if_false]
theorem IW.rg {σ τ : St} (hw : IW σ τ) {h : Int} (h0 : 0 ≤ h) (h1 : h < 2) : σ (23 + 2 * h) 1 = τ 1 h ∧ 0 ≤ τ 1 h ∧ τ 1 h ≤ 10 := by
  rcases hw.2.2.2.1 h h0 h1 with ⟨a, b⟩ | ⟨a, b⟩
  · omega
  · have := a.2.1
    have := b.2.1
    omega
theorem X_isHouse {σ τ : St} {v : Int} (hw : IW σ τ) (hv : i32 v) : p_X7_isHouse v σ = some (if cH τ v then 1 else 0, σ) := by
  unfold p_X7_isHouse
  rw [X_isOut hv ⟨by decide, by decide⟩ ⟨by decide, by decide⟩, zm_i hv]
  by_cases c : 0 ≤ v ∧ v ≤ 1
  · have h := hw.rg c.1 (by omega)
    rw [if_pos c]
    simp only [bnd_some, zm0t, if_true]
    rw [gd_pos (by omega), h.1, zm_eq (a := τ 1 v) (by omega) (by omega)]
    by_cases d : τ 1 v ≤ 0
    · rw [if_pos d, if_neg (by omega)]
    · rw [if_neg d, if_pos (by omega)]
  · rw [if_neg c, if_neg (by omega)]
    simp only [bnd_some, zm1n, if_false]
theorem X_isRung {σ τ : St} {v r : Int} (hw : IW σ τ) (hv : i32 v) (hr : i32 r) : p_X7_isRung v r σ = some (if cG τ v r then 1 else 0, σ) := by
  unfold p_X7_isRung
  rw [X_isHouse hw hv, zm_i hv]
  by_cases c : cH τ v
  · have h := hw.rg c.1.1 c.1.2
    rw [if_pos c]
    simp only [bnd_some, zm1n, if_false]
    rw [gd_pos (by omega), h.1, X_isOut hr ⟨by decide, by decide⟩ ⟨by omega, by omega⟩]
    by_cases d : 0 ≤ r ∧ r ≤ τ 1 v - 1
    · rw [if_pos d, if_pos (by omega)]
      simp only [bnd_some, zm0t, if_true]
    · rw [if_neg d, if_neg (by omega)]
      simp only [bnd_some, zm1n, if_false]
  · rw [if_neg c, if_neg (fun q => c q.1)]
    simp only [bnd_some, zm0t, if_true]
abbrev cY (Y y : Int) : Prop := (1 ≤ Y ∧ Y ≤ 30) ∧ 0 ≤ y ∧ y < Y
theorem X_isNoYear {σ : St} {Y y : Int} (hY : i32 Y) (hy : i32 y) : p_X7_isNoYear Y y σ = some (if cY Y y then 0 else 1, σ) := by
  unfold p_X7_isNoYear p_X7_isNoYear_21
  rw [X_isOut hY ⟨by decide, by decide⟩ ⟨by decide, by decide⟩]
  by_cases c : 1 ≤ Y ∧ Y ≤ 30
  · rw [if_pos c]
    simp only [bnd_some, zm0t, if_true]
    rw [X_isOut hy ⟨by decide, by decide⟩ ⟨by omega, by omega⟩]
    by_cases d : 0 ≤ y ∧ y ≤ Y - 1
    · rw [if_pos d, if_pos (by omega)]
      simp only [bnd_some, zm0t, if_true]
    · rw [if_neg d, if_neg (by omega)]
      simp only [bnd_some, zm1n, if_false]
  · rw [if_neg c, if_neg (fun q => c q.1)]
    simp only [bnd_some, zm1n, if_false]
theorem M_wi {a b c : Int} (ha : i32 a) (hb : i64 b) (hc : i64 c) (τ : St) : p_X8_within (zm a) b c τ = some (if b ≤ a ∧ a ≤ c then 1 else 0, τ) := by
  rw [zm_i ha, M_within (i32_64 ha) hb hc]
theorem M_isSort {σ τ : St} {v : Int} (hw : IW σ τ) (hv : i32 v) : p_X8_isSort v τ = some (if cS τ v then 1 else 0, τ) := by
  have h := hw.1
  unfold p_X8_isSort
  rw [zm_eq (a := τ 0 7 - 1) (by omega) (by omega), M_wi hv ⟨by decide, by decide⟩ ⟨by omega, by omega⟩]
  by_cases c : cS τ v
  · rw [if_pos c, if_pos (by omega), bnd_some, gd_pos (Or.inr rfl)]
  · rw [if_neg c, if_neg (by omega), bnd_some, gd_pos (Or.inl rfl)]
theorem M_isRule {σ τ : St} {v : Int} (hw : IW σ τ) (hv : i32 v) : p_X8_isRule v τ = some (if cU τ v then 1 else 0, τ) := by
  have h := hw.2.1
  unfold p_X8_isRule
  rw [zm_eq (a := τ 0 23 - 1) (by omega) (by omega), M_wi hv ⟨by decide, by decide⟩ ⟨by omega, by omega⟩]
  by_cases c : cU τ v
  · rw [if_pos c, if_pos (by omega), bnd_some, gd_pos (Or.inr rfl)]
  · rw [if_neg c, if_neg (by omega), bnd_some, gd_pos (Or.inl rfl)]
theorem M_isHouse {σ τ : St} {v : Int} (hw : IW σ τ) (hv : i32 v) : p_X8_isHouse v τ = some (if cH τ v then 1 else 0, τ) := by
  unfold p_X8_isHouse
  rw [M_wi hv ⟨by decide, by decide⟩ ⟨by decide, by decide⟩, zm_i hv]
  by_cases c : 0 ≤ v ∧ v ≤ 1
  · have h := hw.rg c.1 (by omega)
    rw [if_pos c]
    simp only [bnd_some, zm1n, if_false]
    rw [gd_pos (by omega), zm_eq (a := τ 1 v) (by omega) (by omega)]
    by_cases d : τ 1 v ≤ 0
    · rw [if_pos d, if_neg (by omega)]
    · rw [if_neg d, if_pos (by omega)]
  · rw [if_neg c, if_neg (by omega)]
    simp only [bnd_some, zm0t, if_true]
theorem M_isRung {σ τ : St} {v r : Int} (hw : IW σ τ) (hv : i32 v) (hr : i32 r) : p_X8_isRung v r τ = some (if cG τ v r then 1 else 0, τ) := by
  unfold p_X8_isRung
  rw [M_isHouse hw hv, zm_i hv]
  by_cases c : cH τ v
  · have h := hw.rg c.1.1 c.1.2
    rw [if_pos c]
    simp only [bnd_some, zm1n, if_false]
    rw [gd_pos (by omega), zm_eq (a := τ 1 v - 1) (by omega) (by omega), M_wi hr ⟨by decide, by decide⟩ ⟨by omega, by omega⟩]
    by_cases d : 0 ≤ r ∧ r ≤ τ 1 v - 1
    · rw [if_pos d, if_pos (by omega)]
      simp only [bnd_some, zm1n, if_false]
    · rw [if_neg d, if_neg (by omega)]
      simp only [bnd_some, zm0t, if_true]
  · rw [if_neg c, if_neg (fun q => c q.1)]
    simp only [bnd_some, zm0t, if_true]
theorem M_isTime {τ : St} {v : Int} (hv : i32 v) : p_X8_isTime v τ = some (if 1 ≤ v ∧ v ≤ 30 then 1 else 0, τ) := by
  unfold p_X8_isTime
  rw [M_wi hv ⟨by decide, by decide⟩ ⟨by decide, by decide⟩]
  by_cases c : 1 ≤ v ∧ v ≤ 30
  · rw [if_pos c, bnd_some, gd_pos (Or.inr rfl)]
  · rw [if_neg c, bnd_some, gd_pos (Or.inl rfl)]
theorem M_isWhen {τ : St} {Y y : Int} (hY : i32 Y) (hy : i32 y) : p_X8_isWhen Y y τ = some (if cY Y y then 1 else 0, τ) := by
  unfold p_X8_isWhen
  rw [M_isTime hY]
  by_cases c : 1 ≤ Y ∧ Y ≤ 30
  · rw [if_pos c]
    simp only [bnd_some, zm1n, if_false]
    rw [zm_eq (a := Y - 1) (by omega) (by omega), M_wi hy ⟨by decide, by decide⟩ ⟨by omega, by omega⟩]
    by_cases d : 0 ≤ y ∧ y ≤ Y - 1
    · rw [if_pos d, if_pos (by omega)]
      simp only [bnd_some, zm1n, if_false]
    · rw [if_neg d, if_neg (by omega)]
      simp only [bnd_some, zm0t, if_true]
  · rw [if_neg c, if_neg (fun q => c q.1)]
    simp only [bnd_some, zm0t, if_true]
