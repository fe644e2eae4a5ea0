/-- an int, as a whole number -/
def i32 (a : Int) : Prop := -2147483648 ≤ a ∧ a < 2147483648
/-- a call on both sides: both come back, with one answer, and what held holds -/
def StepOK (Inv : St → St → Prop) (px pm : St → Option (Int × St)) : Prop := ∀ σ τ, Inv σ τ → ∃ x y, px σ = some x ∧ pm τ = some y ∧ zm x.1 = zm y.1 ∧ Inv x.2 y.2
/-- every call of the law -/
def LawOK (Inv : St → St → Prop) : Prop :=
  (∀ a1 a2 : Int, i32 a1 → StepOK Inv (p_X7_feed a1 a2) (p_X8_feed a1 a2)) ∧
  (∀ a1 : Int, i32 a1 → StepOK Inv (p_X7_house a1) (p_X8_house a1)) ∧
  (StepOK Inv (p_X7_sort ) (p_X8_sort )) ∧
  (StepOK Inv (p_X7_rule ) (p_X8_rule )) ∧
  (StepOK Inv (p_X7_fault ) (p_X8_fault )) ∧
  (∀ a1 a2 : Int, i32 a1 → i32 a2 → StepOK Inv (p_X7_told a1 a2) (p_X8_told a1 a2)) ∧
  (∀ a1 a2 : Int, i32 a1 → i32 a2 → StepOK Inv (p_X7_pays a1 a2) (p_X8_pays a1 a2)) ∧
  (∀ a1 a2 a3 : Int, i32 a1 → i32 a2 → i32 a3 → StepOK Inv (p_X7_next a1 a2 a3) (p_X8_next a1 a2 a3)) ∧
  (∀ a1 a2 : Int, i32 a1 → i32 a2 → StepOK Inv (p_X7_scrapes a1 a2) (p_X8_scrapes a1 a2)) ∧
  (∀ a1 a2 a3 a4 a5 : Int, i32 a1 → i32 a2 → i32 a3 → i32 a4 → i32 a5 → StepOK Inv (p_X7_cost a1 a2 a3 a4 a5) (p_X8_cost a1 a2 a3 a4 a5)) ∧
  (∀ a1 a2 a3 a4 a5 a6 a7 a8 : Int, i32 a1 → i32 a2 → i32 a3 → i32 a4 → i32 a5 → i32 a6 → i32 a7 → (a8 = 0 ∨ a8 = 1) → StepOK Inv (p_X7_in a1 a2 a3 a4 a5 a6 a7 a8) (p_X8_in a1 a2 a3 a4 a5 a6 a7 a8)) ∧
  (∀ a1 a2 a3 a4 a5 : Int, i32 a1 → i32 a2 → i32 a3 → i32 a4 → i32 a5 → StepOK Inv (p_X7_takes a1 a2 a3 a4 a5) (p_X8_takes a1 a2 a3 a4 a5)) ∧
  (∀ a1 a2 a3 a4 a5 a6 a7 a8 : Int, i32 a1 → i32 a2 → i32 a3 → i32 a4 → i32 a5 → i32 a6 → i32 a7 → (a8 = 0 ∨ a8 = 1) → StepOK Inv (p_X7_bar a1 a2 a3 a4 a5 a6 a7 a8) (p_X8_bar a1 a2 a3 a4 a5 a6 a7 a8)) ∧
  (∀ a1 a2 a3 a4 a5 a6 : Int, i32 a1 → i32 a2 → i32 a3 → i32 a4 → i32 a5 → i32 a6 → StepOK Inv (p_X7_fixed a1 a2 a3 a4 a5 a6) (p_X8_fixed a1 a2 a3 a4 a5 a6)) ∧
  (∀ a1 a2 a3 : Int, i32 a1 → i32 a2 → (a3 = 0 ∨ a3 = 1) → StepOK Inv (p_X7_scrape a1 a2 a3) (p_X8_scrape a1 a2 a3)) ∧
  (∀ a1 a2 a3 a4 a5 : Int, i32 a1 → i32 a2 → i32 a3 → i32 a4 → i32 a5 → StepOK Inv (p_X7_judge a1 a2 a3 a4 a5) (p_X8_judge a1 a2 a3 a4 a5)) ∧
  (∀ a1 a2 a3 a4 a5 a6 : Int, i32 a1 → i32 a2 → i32 a3 → i32 a4 → i32 a5 → i32 a6 → StepOK Inv (p_X7_standing a1 a2 a3 a4 a5 a6) (p_X8_standing a1 a2 a3 a4 a5 a6)) ∧
  (∀ a1 a2 a3 a4 a5 a6 : Int, i32 a1 → i32 a2 → i32 a3 → i32 a4 → i32 a5 → i32 a6 → StepOK Inv (p_X7_odds a1 a2 a3 a4 a5 a6) (p_X8_odds a1 a2 a3 a4 a5 a6)) ∧
  (∀ a1 a2 a3 a4 a5 a6 : Int, i32 a1 → i32 a2 → i32 a3 → i32 a4 → i32 a5 → i32 a6 → StepOK Inv (p_X7_even a1 a2 a3 a4 a5 a6) (p_X8_even a1 a2 a3 a4 a5 a6)) ∧
  (∀ a1 a2 : Int, i32 a1 → i32 a2 → StepOK Inv (p_X7_year a1 a2) (p_X8_year a1 a2)) ∧
  (StepOK Inv (p_X7_clear ) (p_X8_clear )) ∧
  (∀ a1 a2 a3 : Int, i32 a1 → i32 a2 → i32 a3 → StepOK Inv (p_X7_think a1 a2 a3) (p_X8_think a1 a2 a3)) ∧
  (∀ a1 a2 a3 a4 a5 a6 : Int, i32 a1 → i32 a2 → i32 a3 → i32 a4 → i32 a5 → i32 a6 → StepOK Inv (p_X7_buy a1 a2 a3 a4 a5 a6) (p_X8_buy a1 a2 a3 a4 a5 a6)) ∧
  (∀ a1 a2 a3 a4 : Int, i32 a1 → i32 a2 → i32 a3 → i32 a4 → StepOK Inv (p_X7_keepRung a1 a2 a3 a4) (p_X8_keepRung a1 a2 a3 a4)) ∧
  (∀ a1 a2 a3 a4 : Int, i32 a1 → i32 a2 → i32 a3 → i32 a4 → StepOK Inv (p_X7_leave a1 a2 a3 a4) (p_X8_leave a1 a2 a3 a4)) ∧
  (∀ a1 a2 a3 a4 a5 a6 a7 a8 a9 : Int, i32 a1 → i32 a2 → i32 a3 → i32 a4 → i32 a5 → i32 a6 → i32 a7 → i32 a8 → i32 a9 → StepOK Inv (p_X7_pad a1 a2 a3 a4 a5 a6 a7 a8 a9) (p_X8_pad a1 a2 a3 a4 a5 a6 a7 a8 a9)) ∧
  (∀ a1 a2 a3 : Int, i32 a1 → i32 a2 → i32 a3 → StepOK Inv (p_X7_setting a1 a2 a3) (p_X8_setting a1 a2 a3)) ∧
  (∀ a1 : Int, i32 a1 → StepOK Inv (p_X7_seed a1) (p_X8_seed a1)) ∧
  (∀ a1 a2 a3 a4 : Int, i32 a1 → i32 a2 → i32 a3 → i32 a4 → StepOK Inv (p_X7_lives a1 a2 a3 a4) (p_X8_lives a1 a2 a3 a4)) ∧
  (∀ a1 : Int, i32 a1 → StepOK Inv (p_X7_count a1) (p_X8_count a1)) ∧
  (∀ a1 : Int, i32 a1 → StepOK Inv (p_X7_keep a1) (p_X8_keep a1)) ∧
  (∀ a1 : Int, i32 a1 → StepOK Inv (p_X7_goBack a1) (p_X8_goBack a1))
/-- the script, as whole numbers -/
def sv (xs : Nat → Int32) (j : Int) : Int := (xs j.toNat).toInt
theorem sv_i32 (xs : Nat → Int32) (j : Int) : i32 (sv xs j) := ⟨Int32.minValue_le_toInt _, Int32.toInt_lt _⟩
theorem sv_zI (xs : Nat → Int32) (j : Int) : xs j.toNat = zI (sv xs j) := (zI_of _).symm
theorem vaP_swap {D : va_G} {cl : List vw_C} {w1 w2 : va_W} {H : Heap} (h : va_P D cl (w1 ++ w2) H) : va_P D cl (w2 ++ w1) H := by
  intro k q hk
  have hm : q ∈ w1 ++ w2 := by
    rcases List.mem_append.mp (List.mem_of_getElem? hk) with h | h
    · exact List.mem_append_right _ h
    · exact List.mem_append_left _ h
  obtain ⟨i, hi⟩ := List.getElem?_of_mem hm
  exact h i q hi
theorem vaD_swap {A : Nat → Prop} {w1 w2 : va_W} (h : va_D A (w1 ++ w2)) : va_D A (w2 ++ w1) := by
  have l1 : ∀ (k : Nat) (q : Nat × va_E), w1[k]? = some q → (w1 ++ w2)[k]? = some q := fun k q hk => by
    rw [List.getElem?_append_left (List.getElem?_eq_some_iff.mp hk).1]; exact hk
  have l2 : ∀ (k : Nat) (q : Nat × va_E), w2[k]? = some q → (w1 ++ w2)[k + w1.length]? = some q := fun k q hk => by
    rw [List.getElem?_append_right (by omega)]
    simpa using hk
  refine va_D.app ⟨fun i j p q hi hj e => ?_, fun k q hk => h.2 _ q (l2 k q hk)⟩ ⟨fun i j p q hi hj e => h.1 i j p q (l1 i p hi) (l1 j q hj) e, fun k q hk => h.2 _ q (l1 k q hk)⟩ (fun i j p q hi hj e => ?_)
  · have := h.1 _ _ p q (l2 i p hi) (l2 j q hj) e
    omega
  · have h1 := h.1 _ _ p q (l2 i p hi) (l1 j q hj) e
    have h2 := (List.getElem?_eq_some_iff.mp hj).1
    omega
theorem Wd_XM {D : va_G} {cA : Nat → ClassId} {adX adM : Int → Nat} {A : Nat → Prop} {σ τ : St} {H : Heap} (h : Wd D cA adX kX 151 (wl cA adM kM 31 τ) A σ H) : Wd D cA adM kM 31 (wl cA adX kX 151 σ) A τ H := ⟨fun o ho => kM_in o ho, vaP_swap h.2.1, vaD_swap h.2.2⟩
theorem Wd_MX {D : va_G} {cA : Nat → ClassId} {adX adM : Int → Nat} {A : Nat → Prop} {σ τ : St} {H : Heap} (h : Wd D cA adM kM 31 (wl cA adX kX 151 σ) A τ H) : Wd D cA adX kX 151 (wl cA adM kM 31 τ) A σ H := ⟨fun o ho => kX_in o ho, vaP_swap h.2.1, vaD_swap h.2.2⟩
section LW
variable {p : Program} {l : Launch} {e : Env} {Rm : Room} {s : State} {m : MethodId} {args : Array Value} {below : List Frame} {meth : Method} {c : Code} {H : Heap} {locs : List Loc} {Q : State → Prop} {nc ns : Nat}
variable {cc : ByteArray} {own : String} {nL : Nat} {ret : Option FieldType} {D : va_G} {cA : Nat → ClassId} {adK adV : Nat → Nat} {A : Nat → Prop}
variable {ad : Int → Nat} {kf : Int → Nat × Nat} {n : Nat} {R : va_W} {σ : St} {pc : Nat} {ls : Array Slot} {rest st : List Value}
theorem y_sld (C : Cx cc own nL ret D cA adK adV A p s m args meth c) {b L : Nat} {xs : Nat → Int32} (hX : va_X b L xs s s.heap) (hbl : b < s.heap.size) (hbA : ¬ A b) (hS : va_S A s.heap H locs) {i i' : Int} (hi' : zm i = i') (hi : 0 ≤ i' ∧ i' < (L : Int)) (hdg : decode cc pc = .ok (.iaload, 1))
    (kk : W p l e Rm s m args below meth c H locs nc ns Q (F0 m (pc + 1) ls (.int (zI (sv xs i')) :: rest))) : W p l e Rm s m args below meth c H locs nc ns Q (F0 m pc ls (.int (zI i) :: .ref b :: rest)) := by
  subst hi'
  refine va_sld C.1 C.2.1 hX hbl hbA hS (zI_in hi) hdg ?_
  rw [zI_clamp, sv_zI xs (zm i)]
  exact kk
theorem y_slenL (C : Cx cc own nL ret D cA adK adV A p s m args meth c) {b L : Nat} {xs : Nat → Int32} (hX : va_X b L xs s s.heap) (hbl : b < s.heap.size) (hbA : ¬ A b) (hS : va_S A s.heap H locs) (hdg : decode cc pc = .ok (.arraylength, 1))
    (kk : W p l e Rm s m args below meth c H locs nc ns Q (F0 m (pc + 1) ls (.int (zI (L : Int)) :: rest))) : W p l e Rm s m args below meth c H locs nc ns Q (F0 m pc ls (.ref b :: rest)) :=
  va_slen C.1 C.2.1 hX hbl hbA hS hdg (by
    have : Int32.ofNat L = zI (L : Int) := (Int32.ofInt_eq_ofNat).symm
    rw [this]; exact kk)
variable {y : MethodName} {b : ByteArray} {mL index k : Nat} {rt : Option FieldType} {fr lo : Nat} {Qc : Array Value → State → Outcome → State → Prop} {As : List Value} {lv : List (Nat × Value)}
theorem y_rVL (hcs : nc ≤ Rm.cells ∧ ns ≤ Rm.slots) (C : Cx cc own nL ret D cA adK adV A p s m args meth c) (hw : At D cA ad kf n R A s σ H locs) {o : Int} {kd : Nat × Nat} (ho : kf o = kd) (h99 : kd.1 ≠ 99) {ci : Nat} {fs : List Value} (hen : en cA ad kd o (σ o) = .inr (ci, fs)) {q : vw_C} (hc : vwCl[ci]? = some q)
    (hM : Met l y (wsU y b mL rt) (rmU fr lo) (va_Pc (.ref (ad o) :: As) (Pr D cA adK adV ad kf n R A σ)) Qc 0 0 A) (hmi : MI y b mL rt k) (hlink : Cond.methodLink own index y ∈ gt) (hinst : Cond.instanceMethod y ∈ gt) (hsel : Cond.selects q.1 y y ∈ gt) (hn : As.length = k) (hR : (fr + 1 ≤ Rm.frames ∧ 8 + (mL + 11) + lo ≤ Rm.locals)) (hl : lv_has ls nL lv) (hst : st = As.reverse ++ .ref (ad o) :: rest) (hW : (rest.map fun v => v.category).sum ≤ 8) (hdg : decode cc pc = .ok (.invokevirtual index, 3)) :
    va_Run p l e Rm s m args below meth c H locs nc ns 0 0 (F0 m pc ls st) rest (Qc (Value.ref (ad o) :: As).toArray) A := by
  have hi := hw.1.1 o (by rw [ho]; exact h99)
  have hat := wl_at (cA := cA) (ad := ad) (kf := kf) (σ := σ) (R := R) hi
  rw [ho, hen] at hat
  have hts := C.2.2.2.2.2.2.1
  refine va_runV (As := As) (rest := rest) (C := q.1) ⟨C.1, C.2.1, C.2.2.1, C.2.2.2.2.2.1, hts⟩ hM ⟨callB_of k hts (wsU_in hmi.2.2) rfl rfl rfl (hts _ hmi.2.1) (hts _ hlink) hmi.1 hR, hts _ hinst, hts _ hsel⟩ ⟨Pr.blind, va_recv C.2.2.2.2.2.2.2.1 hw.1.2.1 hc hat, fun U hU hW => ⟨rfl, C.2.2.2.2.2.2.2.at hw.2 hU hW, by rw [hU]; exact hw.1⟩⟩ rfl hn hl.1 hst (lv_room hW) hdg hcs
variable {a : Array Value} {res : Int × St}
theorem y_ciL (hw : At D cA ad kf n R A s σ H locs) (hr : va_Run p l e Rm s m args below meth c H locs nc ns 0 0 (F0 m pc ls st) rest (QI D cA ad kf n R A res a) A)
    (kk : ∀ (H1 : Heap) (locs1 : List Loc), At D cA ad kf n R A s res.2 H1 locs1 → W p l e Rm s m args below meth c H1 locs1 nc ns Q (F0 m (pc + 3) ls (.int (zI res.1) :: rest))) : W p l e Rm s m args below meth c H locs nc ns Q (F0 m pc ls st) := by
  refine va_calli hr hw.2 (fun q _ h => h) (fun q h => h) (fun v u t H1 locs1 ht hvm hp hB hz hk hS => ?_)
  obtain ⟨rfl, rfl⟩ := hp
  rw [ht] at hB
  exact kk H1 locs1 ⟨hB, hS⟩
end LW
section LC
variable {p : Program} {l : Launch} {e : Env} {s : State} {m : MethodId} {args : Array Value} {below : List Frame} {meth : Method} {c : Code} {D : va_G} {cA : Nat → ClassId} {adK adV : Nat → Nat} {A : Nat → Prop} {adX adM : Int → Nat} {Q : State → Prop} {b L : Nat} {xs : Nat → Int32}
set_option maxRecDepth 100000 in
set_option maxHeartbeats 4000000 in
theorem lc_0 {Inv : St → St → Prop} (C : Cx cL_law RL 4 (some .boolean) D cA adK adV A p s m args meth c) (hX : va_X b L xs s s.heap) (hbl : b < s.heap.size) (hbA : ¬ A b) (hL : L ≤ 5120) (hOK : ∀ a1 a2 : Int, i32 a1 → StepOK Inv (p_X7_feed a1 a2) (p_X8_feed a1 a2)) {i : Int} (hi : 0 ≤ i ∧ i + 10 ≤ (L : Int)) (hN : ∀ (σ τ : St) (H : Heap) (locs : List Loc), Inv σ τ → At D cA adX kX 151 (wl cA adM kM 31 τ) A s σ H locs → ∀ ls : Array Slot, lv_has ls 4 [(0, .ref b), (1, .ref (adX 0)), (2, .ref (adM 0)), (3, .int (zI i))] → W p l e room_1 s m args below meth c H locs 600000 7302250 Q (F0 m 1790 ls [])) {σ τ : St} (hI : Inv σ τ) {H : Heap} {locs : List Loc} (hw : At D cA adX kX 151 (wl cA adM kM 31 τ) A s σ H locs) {ls : Array Slot} (hl : lv_has ls 4 [(0, .ref b), (1, .ref (adX 0)), (2, .ref (adM 0)), (3, .int (zI i))]) : W p l e room_1 s m args below meth c H locs 600000 7302250 Q (F0 m 176 ls []) := by
  have hL' : (L : Int) ≤ 5120 := by omega
  obtain ⟨hi1, hi2⟩ := hi
  obtain ⟨x1, y1, hx1, hy1, he, hI1⟩ := hOK (sv xs (i + 1)) (zlor (zlshl (sv xs (i + 2)) 32) (zland (sv xs (i + 3)) 4294967295)) (sv_i32 _ _) σ τ hI
  refine y_aload_n C dL_law_176 (lv_at hl 1 rfl) ?_
  refine y_aload_n C dL_law_177 (lv_at hl 0 rfl) ?_
  refine y_iload_n C dL_law_178 (lv_at hl 3 rfl) ?_
  refine y_iconst C dL_law_179 ?_
  refine y_iadd C dL_law_180 ?_
  refine y_sld C hX hbl hbA hw.2 (i' := (i + 1)) (zm_eq (by omega) (by omega)) (by omega) dL_law_181 ?_
  refine y_aload_n C dL_law_182 (lv_at hl 0 rfl) ?_
  refine y_iload_n C dL_law_183 (lv_at hl 3 rfl) ?_
  refine y_iconst C dL_law_184 ?_
  refine y_iadd C dL_law_185 ?_
  refine y_sld C hX hbl hbA hw.2 (i' := (i + 2)) (zm_eq (by omega) (by omega)) (by omega) dL_law_186 ?_
  refine y_i2l C (a' := (sv xs (i + 2))) (zm_eq (sv_i32 _ _).1 (sv_i32 _ _).2) dL_law_187 ?_
  refine y_bipush C dL_law_188 (by decide) ?_
  refine y_lshl C dL_law_190 ?_
  refine y_aload_n C dL_law_191 (lv_at hl 0 rfl) ?_
  refine y_iload_n C dL_law_192 (lv_at hl 3 rfl) ?_
  refine y_iconst C dL_law_193 ?_
  refine y_iadd C dL_law_194 ?_
  refine y_sld C hX hbl hbA hw.2 (i' := (i + 3)) (zm_eq (by omega) (by omega)) (by omega) dL_law_195 ?_
  refine y_i2l C (a' := (sv xs (i + 3))) (zm_eq (sv_i32 _ _).1 (sv_i32 _ _).2) dL_law_196 ?_
  refine y_ldc2 C (z := 4294967295) wd_1367 (by decide) dL_law_197 ?_
  refine y_land C dL_law_200 ?_
  refine y_lor C dL_law_201 ?_
  refine y_ciL (rest := []) hw (y_rVL ⟨Nat.le_refl _, Nat.le_refl _⟩ C hw kx_0 (by decide) rfl rfl (c_X7_feed hx1) mi_X7_feed wd_337 wd_338 wd_339 rfl ⟨by decide, by decide⟩ hl rfl (Nat.le_of_ble_eq_true rfl) dL_law_202) (fun H locs hw => ?_)
  have hw : At D cA adM kM 31 (wl cA adX kX 151 x1.2) A s τ H locs := ⟨Wd_XM hw.1, hw.2⟩
  refine y_aload_n C dL_law_205 (lv_at hl 2 rfl) ?_
  refine y_aload_n C dL_law_206 (lv_at hl 0 rfl) ?_
  refine y_iload_n C dL_law_207 (lv_at hl 3 rfl) ?_
  refine y_iconst C dL_law_208 ?_
  refine y_iadd C dL_law_209 ?_
  refine y_sld C hX hbl hbA hw.2 (i' := (i + 1)) (zm_eq (by omega) (by omega)) (by omega) dL_law_210 ?_
  refine y_aload_n C dL_law_211 (lv_at hl 0 rfl) ?_
  refine y_iload_n C dL_law_212 (lv_at hl 3 rfl) ?_
  refine y_iconst C dL_law_213 ?_
  refine y_iadd C dL_law_214 ?_
  refine y_sld C hX hbl hbA hw.2 (i' := (i + 2)) (zm_eq (by omega) (by omega)) (by omega) dL_law_215 ?_
  refine y_i2l C (a' := (sv xs (i + 2))) (zm_eq (sv_i32 _ _).1 (sv_i32 _ _).2) dL_law_216 ?_
  refine y_bipush C dL_law_217 (by decide) ?_
  refine y_lshl C dL_law_219 ?_
  refine y_aload_n C dL_law_220 (lv_at hl 0 rfl) ?_
  refine y_iload_n C dL_law_221 (lv_at hl 3 rfl) ?_
  refine y_iconst C dL_law_222 ?_
  refine y_iadd C dL_law_223 ?_
  refine y_sld C hX hbl hbA hw.2 (i' := (i + 3)) (zm_eq (by omega) (by omega)) (by omega) dL_law_224 ?_
  refine y_i2l C (a' := (sv xs (i + 3))) (zm_eq (sv_i32 _ _).1 (sv_i32 _ _).2) dL_law_225 ?_
  refine y_ldc2 C (z := 4294967295) wd_1367 (by decide) dL_law_226 ?_
  refine y_land C dL_law_229 ?_
  refine y_lor C dL_law_230 ?_
  refine y_ciL (rest := [.int (zI x1.1)]) hw (y_rVL ⟨Nat.le_refl _, Nat.le_refl _⟩ C hw km_0 (by decide) rfl rfl (c_X8_feed hy1) mi_X8_feed wd_1022 wd_1023 wd_1024 rfl ⟨by decide, by decide⟩ hl rfl (Nat.le_of_ble_eq_true rfl) dL_law_231) (fun H locs hw => ?_)
  have hw : At D cA adX kX 151 (wl cA adM kM 31 y1.2) A s x1.2 H locs := ⟨Wd_MX hw.1, hw.2⟩
  refine y_icmp_eq (tgt := 1790) C rfl rfl dL_law_234 (by decide) (fun _ => hN x1.2 y1.2 H locs hI1 hw ls hl) (fun q => absurd he q)
set_option maxRecDepth 100000 in
set_option maxHeartbeats 4000000 in
theorem lc_1 {Inv : St → St → Prop} (C : Cx cL_law RL 4 (some .boolean) D cA adK adV A p s m args meth c) (hX : va_X b L xs s s.heap) (hbl : b < s.heap.size) (hbA : ¬ A b) (hL : L ≤ 5120) (hOK : ∀ a1 : Int, i32 a1 → StepOK Inv (p_X7_house a1) (p_X8_house a1)) {i : Int} (hi : 0 ≤ i ∧ i + 10 ≤ (L : Int)) (hN : ∀ (σ τ : St) (H : Heap) (locs : List Loc), Inv σ τ → At D cA adX kX 151 (wl cA adM kM 31 τ) A s σ H locs → ∀ ls : Array Slot, lv_has ls 4 [(0, .ref b), (1, .ref (adX 0)), (2, .ref (adM 0)), (3, .int (zI i))] → W p l e room_1 s m args below meth c H locs 600000 7302250 Q (F0 m 1790 ls [])) {σ τ : St} (hI : Inv σ τ) {H : Heap} {locs : List Loc} (hw : At D cA adX kX 151 (wl cA adM kM 31 τ) A s σ H locs) {ls : Array Slot} (hl : lv_has ls 4 [(0, .ref b), (1, .ref (adX 0)), (2, .ref (adM 0)), (3, .int (zI i))]) : W p l e room_1 s m args below meth c H locs 600000 7302250 Q (F0 m 239 ls []) := by
  have hL' : (L : Int) ≤ 5120 := by omega
  obtain ⟨hi1, hi2⟩ := hi
  obtain ⟨x1, y1, hx1, hy1, he, hI1⟩ := hOK (sv xs (i + 1)) (sv_i32 _ _) σ τ hI
  refine y_aload_n C dL_law_239 (lv_at hl 1 rfl) ?_
  refine y_aload_n C dL_law_240 (lv_at hl 0 rfl) ?_
  refine y_iload_n C dL_law_241 (lv_at hl 3 rfl) ?_
  refine y_iconst C dL_law_242 ?_
  refine y_iadd C dL_law_243 ?_
  refine y_sld C hX hbl hbA hw.2 (i' := (i + 1)) (zm_eq (by omega) (by omega)) (by omega) dL_law_244 ?_
  refine y_ciL (rest := []) hw (y_rVL ⟨Nat.le_refl _, Nat.le_refl _⟩ C hw kx_0 (by decide) rfl rfl (c_X7_house hx1) mi_X7_house wd_350 wd_351 wd_352 rfl ⟨by decide, by decide⟩ hl rfl (Nat.le_of_ble_eq_true rfl) dL_law_245) (fun H locs hw => ?_)
  have hw : At D cA adM kM 31 (wl cA adX kX 151 x1.2) A s τ H locs := ⟨Wd_XM hw.1, hw.2⟩
  refine y_aload_n C dL_law_248 (lv_at hl 2 rfl) ?_
  refine y_aload_n C dL_law_249 (lv_at hl 0 rfl) ?_
  refine y_iload_n C dL_law_250 (lv_at hl 3 rfl) ?_
  refine y_iconst C dL_law_251 ?_
  refine y_iadd C dL_law_252 ?_
  refine y_sld C hX hbl hbA hw.2 (i' := (i + 1)) (zm_eq (by omega) (by omega)) (by omega) dL_law_253 ?_
  refine y_ciL (rest := [.int (zI x1.1)]) hw (y_rVL ⟨Nat.le_refl _, Nat.le_refl _⟩ C hw km_0 (by decide) rfl rfl (c_X8_house hy1) mi_X8_house wd_1033 wd_1034 wd_1035 rfl ⟨by decide, by decide⟩ hl rfl (Nat.le_of_ble_eq_true rfl) dL_law_254) (fun H locs hw => ?_)
  have hw : At D cA adX kX 151 (wl cA adM kM 31 y1.2) A s x1.2 H locs := ⟨Wd_MX hw.1, hw.2⟩
  refine y_icmp_eq (tgt := 1790) C rfl rfl dL_law_257 (by decide) (fun _ => hN x1.2 y1.2 H locs hI1 hw ls hl) (fun q => absurd he q)
set_option maxRecDepth 100000 in
set_option maxHeartbeats 4000000 in
theorem lc_2 {Inv : St → St → Prop} (C : Cx cL_law RL 4 (some .boolean) D cA adK adV A p s m args meth c) (hX : va_X b L xs s s.heap) (hbl : b < s.heap.size) (hbA : ¬ A b) (hL : L ≤ 5120) (hOK : StepOK Inv (p_X7_sort ) (p_X8_sort )) {i : Int} (hi : 0 ≤ i ∧ i + 10 ≤ (L : Int)) (hN : ∀ (σ τ : St) (H : Heap) (locs : List Loc), Inv σ τ → At D cA adX kX 151 (wl cA adM kM 31 τ) A s σ H locs → ∀ ls : Array Slot, lv_has ls 4 [(0, .ref b), (1, .ref (adX 0)), (2, .ref (adM 0)), (3, .int (zI i))] → W p l e room_1 s m args below meth c H locs 600000 7302250 Q (F0 m 1790 ls [])) {σ τ : St} (hI : Inv σ τ) {H : Heap} {locs : List Loc} (hw : At D cA adX kX 151 (wl cA adM kM 31 τ) A s σ H locs) {ls : Array Slot} (hl : lv_has ls 4 [(0, .ref b), (1, .ref (adX 0)), (2, .ref (adM 0)), (3, .int (zI i))]) : W p l e room_1 s m args below meth c H locs 600000 7302250 Q (F0 m 262 ls []) := by
  have hL' : (L : Int) ≤ 5120 := by omega
  obtain ⟨hi1, hi2⟩ := hi
  obtain ⟨x1, y1, hx1, hy1, he, hI1⟩ := hOK   σ τ hI
  refine y_aload_n C dL_law_262 (lv_at hl 1 rfl) ?_
  refine y_ciL (rest := []) hw (y_rVL ⟨Nat.le_refl _, Nat.le_refl _⟩ C hw kx_0 (by decide) rfl rfl (c_X7_sort hx1) mi_X7_sort wd_486 wd_487 wd_488 rfl ⟨by decide, by decide⟩ hl rfl (Nat.le_of_ble_eq_true rfl) dL_law_263) (fun H locs hw => ?_)
  have hw : At D cA adM kM 31 (wl cA adX kX 151 x1.2) A s τ H locs := ⟨Wd_XM hw.1, hw.2⟩
  refine y_aload_n C dL_law_266 (lv_at hl 2 rfl) ?_
  refine y_ciL (rest := [.int (zI x1.1)]) hw (y_rVL ⟨Nat.le_refl _, Nat.le_refl _⟩ C hw km_0 (by decide) rfl rfl (c_X8_sort hy1) mi_X8_sort wd_1117 wd_1118 wd_1119 rfl ⟨by decide, by decide⟩ hl rfl (Nat.le_of_ble_eq_true rfl) dL_law_267) (fun H locs hw => ?_)
  have hw : At D cA adX kX 151 (wl cA adM kM 31 y1.2) A s x1.2 H locs := ⟨Wd_MX hw.1, hw.2⟩
  refine y_icmp_eq (tgt := 1790) C rfl rfl dL_law_270 (by decide) (fun _ => hN x1.2 y1.2 H locs hI1 hw ls hl) (fun q => absurd he q)
set_option maxRecDepth 100000 in
set_option maxHeartbeats 4000000 in
theorem lc_3 {Inv : St → St → Prop} (C : Cx cL_law RL 4 (some .boolean) D cA adK adV A p s m args meth c) (hX : va_X b L xs s s.heap) (hbl : b < s.heap.size) (hbA : ¬ A b) (hL : L ≤ 5120) (hOK : StepOK Inv (p_X7_rule ) (p_X8_rule )) {i : Int} (hi : 0 ≤ i ∧ i + 10 ≤ (L : Int)) (hN : ∀ (σ τ : St) (H : Heap) (locs : List Loc), Inv σ τ → At D cA adX kX 151 (wl cA adM kM 31 τ) A s σ H locs → ∀ ls : Array Slot, lv_has ls 4 [(0, .ref b), (1, .ref (adX 0)), (2, .ref (adM 0)), (3, .int (zI i))] → W p l e room_1 s m args below meth c H locs 600000 7302250 Q (F0 m 1790 ls [])) {σ τ : St} (hI : Inv σ τ) {H : Heap} {locs : List Loc} (hw : At D cA adX kX 151 (wl cA adM kM 31 τ) A s σ H locs) {ls : Array Slot} (hl : lv_has ls 4 [(0, .ref b), (1, .ref (adX 0)), (2, .ref (adM 0)), (3, .int (zI i))]) : W p l e room_1 s m args below meth c H locs 600000 7302250 Q (F0 m 275 ls []) := by
  have hL' : (L : Int) ≤ 5120 := by omega
  obtain ⟨hi1, hi2⟩ := hi
  obtain ⟨x1, y1, hx1, hy1, he, hI1⟩ := hOK   σ τ hI
  refine y_aload_n C dL_law_275 (lv_at hl 1 rfl) ?_
  refine y_ciL (rest := []) hw (y_rVL ⟨Nat.le_refl _, Nat.le_refl _⟩ C hw kx_0 (by decide) rfl rfl (c_X7_rule hx1) mi_X7_rule wd_516 wd_517 wd_518 rfl ⟨by decide, by decide⟩ hl rfl (Nat.le_of_ble_eq_true rfl) dL_law_276) (fun H locs hw => ?_)
  have hw : At D cA adM kM 31 (wl cA adX kX 151 x1.2) A s τ H locs := ⟨Wd_XM hw.1, hw.2⟩
  refine y_aload_n C dL_law_279 (lv_at hl 2 rfl) ?_
  refine y_ciL (rest := [.int (zI x1.1)]) hw (y_rVL ⟨Nat.le_refl _, Nat.le_refl _⟩ C hw km_0 (by decide) rfl rfl (c_X8_rule hy1) mi_X8_rule wd_1151 wd_1152 wd_1153 rfl ⟨by decide, by decide⟩ hl rfl (Nat.le_of_ble_eq_true rfl) dL_law_280) (fun H locs hw => ?_)
  have hw : At D cA adX kX 151 (wl cA adM kM 31 y1.2) A s x1.2 H locs := ⟨Wd_MX hw.1, hw.2⟩
  refine y_icmp_eq (tgt := 1790) C rfl rfl dL_law_283 (by decide) (fun _ => hN x1.2 y1.2 H locs hI1 hw ls hl) (fun q => absurd he q)
set_option maxRecDepth 100000 in
set_option maxHeartbeats 4000000 in
theorem lc_4 {Inv : St → St → Prop} (C : Cx cL_law RL 4 (some .boolean) D cA adK adV A p s m args meth c) (hX : va_X b L xs s s.heap) (hbl : b < s.heap.size) (hbA : ¬ A b) (hL : L ≤ 5120) (hOK : StepOK Inv (p_X7_fault ) (p_X8_fault )) {i : Int} (hi : 0 ≤ i ∧ i + 10 ≤ (L : Int)) (hN : ∀ (σ τ : St) (H : Heap) (locs : List Loc), Inv σ τ → At D cA adX kX 151 (wl cA adM kM 31 τ) A s σ H locs → ∀ ls : Array Slot, lv_has ls 4 [(0, .ref b), (1, .ref (adX 0)), (2, .ref (adM 0)), (3, .int (zI i))] → W p l e room_1 s m args below meth c H locs 600000 7302250 Q (F0 m 1790 ls [])) {σ τ : St} (hI : Inv σ τ) {H : Heap} {locs : List Loc} (hw : At D cA adX kX 151 (wl cA adM kM 31 τ) A s σ H locs) {ls : Array Slot} (hl : lv_has ls 4 [(0, .ref b), (1, .ref (adX 0)), (2, .ref (adM 0)), (3, .int (zI i))]) : W p l e room_1 s m args below meth c H locs 600000 7302250 Q (F0 m 288 ls []) := by
  have hL' : (L : Int) ≤ 5120 := by omega
  obtain ⟨hi1, hi2⟩ := hi
  obtain ⟨x1, y1, hx1, hy1, he, hI1⟩ := hOK   σ τ hI
  refine y_aload_n C dL_law_288 (lv_at hl 1 rfl) ?_
  refine y_ciL (rest := []) hw (y_rVL ⟨Nat.le_refl _, Nat.le_refl _⟩ C hw kx_0 (by decide) rfl rfl (c_X7_fault hx1) mi_X7_fault wd_538 wd_539 wd_540 rfl ⟨by decide, by decide⟩ hl rfl (Nat.le_of_ble_eq_true rfl) dL_law_289) (fun H locs hw => ?_)
  have hw : At D cA adM kM 31 (wl cA adX kX 151 x1.2) A s τ H locs := ⟨Wd_XM hw.1, hw.2⟩
  refine y_aload_n C dL_law_292 (lv_at hl 2 rfl) ?_
  refine y_ciL (rest := [.int (zI x1.1)]) hw (y_rVL ⟨Nat.le_refl _, Nat.le_refl _⟩ C hw km_0 (by decide) rfl rfl (c_X8_fault hy1) mi_X8_fault wd_1088 wd_1089 wd_1090 rfl ⟨by decide, by decide⟩ hl rfl (Nat.le_of_ble_eq_true rfl) dL_law_293) (fun H locs hw => ?_)
  have hw : At D cA adX kX 151 (wl cA adM kM 31 y1.2) A s x1.2 H locs := ⟨Wd_MX hw.1, hw.2⟩
  refine y_icmp_eq (tgt := 1790) C rfl rfl dL_law_296 (by decide) (fun _ => hN x1.2 y1.2 H locs hI1 hw ls hl) (fun q => absurd he q)
set_option maxRecDepth 100000 in
set_option maxHeartbeats 4000000 in
theorem lc_5 {Inv : St → St → Prop} (C : Cx cL_law RL 4 (some .boolean) D cA adK adV A p s m args meth c) (hX : va_X b L xs s s.heap) (hbl : b < s.heap.size) (hbA : ¬ A b) (hL : L ≤ 5120) (hOK : ∀ a1 a2 : Int, i32 a1 → i32 a2 → StepOK Inv (p_X7_told a1 a2) (p_X8_told a1 a2)) {i : Int} (hi : 0 ≤ i ∧ i + 10 ≤ (L : Int)) (hN : ∀ (σ τ : St) (H : Heap) (locs : List Loc), Inv σ τ → At D cA adX kX 151 (wl cA adM kM 31 τ) A s σ H locs → ∀ ls : Array Slot, lv_has ls 4 [(0, .ref b), (1, .ref (adX 0)), (2, .ref (adM 0)), (3, .int (zI i))] → W p l e room_1 s m args below meth c H locs 600000 7302250 Q (F0 m 1790 ls [])) {σ τ : St} (hI : Inv σ τ) {H : Heap} {locs : List Loc} (hw : At D cA adX kX 151 (wl cA adM kM 31 τ) A s σ H locs) {ls : Array Slot} (hl : lv_has ls 4 [(0, .ref b), (1, .ref (adX 0)), (2, .ref (adM 0)), (3, .int (zI i))]) : W p l e room_1 s m args below meth c H locs 600000 7302250 Q (F0 m 301 ls []) := by
  have hL' : (L : Int) ≤ 5120 := by omega
  obtain ⟨hi1, hi2⟩ := hi
  obtain ⟨x1, y1, hx1, hy1, he, hI1⟩ := hOK (sv xs (i + 1)) (sv xs (i + 2)) (sv_i32 _ _) (sv_i32 _ _) σ τ hI
  refine y_aload_n C dL_law_301 (lv_at hl 1 rfl) ?_
  refine y_aload_n C dL_law_302 (lv_at hl 0 rfl) ?_
  refine y_iload_n C dL_law_303 (lv_at hl 3 rfl) ?_
  refine y_iconst C dL_law_304 ?_
  refine y_iadd C dL_law_305 ?_
  refine y_sld C hX hbl hbA hw.2 (i' := (i + 1)) (zm_eq (by omega) (by omega)) (by omega) dL_law_306 ?_
  refine y_aload_n C dL_law_307 (lv_at hl 0 rfl) ?_
  refine y_iload_n C dL_law_308 (lv_at hl 3 rfl) ?_
  refine y_iconst C dL_law_309 ?_
  refine y_iadd C dL_law_310 ?_
  refine y_sld C hX hbl hbA hw.2 (i' := (i + 2)) (zm_eq (by omega) (by omega)) (by omega) dL_law_311 ?_
  refine y_ciL (rest := []) hw (y_rVL ⟨Nat.le_refl _, Nat.le_refl _⟩ C hw kx_0 (by decide) rfl rfl (c_X7_told hx1) mi_X7_told wd_542 wd_543 wd_544 rfl ⟨by decide, by decide⟩ hl rfl (Nat.le_of_ble_eq_true rfl) dL_law_312) (fun H locs hw => ?_)
  have hw : At D cA adM kM 31 (wl cA adX kX 151 x1.2) A s τ H locs := ⟨Wd_XM hw.1, hw.2⟩
  refine y_aload_n C dL_law_315 (lv_at hl 2 rfl) ?_
  refine y_aload_n C dL_law_316 (lv_at hl 0 rfl) ?_
  refine y_iload_n C dL_law_317 (lv_at hl 3 rfl) ?_
  refine y_iconst C dL_law_318 ?_
  refine y_iadd C dL_law_319 ?_
  refine y_sld C hX hbl hbA hw.2 (i' := (i + 1)) (zm_eq (by omega) (by omega)) (by omega) dL_law_320 ?_
  refine y_aload_n C dL_law_321 (lv_at hl 0 rfl) ?_
  refine y_iload_n C dL_law_322 (lv_at hl 3 rfl) ?_
  refine y_iconst C dL_law_323 ?_
  refine y_iadd C dL_law_324 ?_
  refine y_sld C hX hbl hbA hw.2 (i' := (i + 2)) (zm_eq (by omega) (by omega)) (by omega) dL_law_325 ?_
  refine y_ciL (rest := [.int (zI x1.1)]) hw (y_rVL ⟨Nat.le_refl _, Nat.le_refl _⟩ C hw km_0 (by decide) rfl rfl (c_X8_told hy1) mi_X8_told wd_1092 wd_1093 wd_1094 rfl ⟨by decide, by decide⟩ hl rfl (Nat.le_of_ble_eq_true rfl) dL_law_326) (fun H locs hw => ?_)
  have hw : At D cA adX kX 151 (wl cA adM kM 31 y1.2) A s x1.2 H locs := ⟨Wd_MX hw.1, hw.2⟩
  refine y_icmp_eq (tgt := 1790) C rfl rfl dL_law_329 (by decide) (fun _ => hN x1.2 y1.2 H locs hI1 hw ls hl) (fun q => absurd he q)
set_option maxRecDepth 100000 in
set_option maxHeartbeats 4000000 in
theorem lc_6 {Inv : St → St → Prop} (C : Cx cL_law RL 4 (some .boolean) D cA adK adV A p s m args meth c) (hX : va_X b L xs s s.heap) (hbl : b < s.heap.size) (hbA : ¬ A b) (hL : L ≤ 5120) (hOK : ∀ a1 a2 : Int, i32 a1 → i32 a2 → StepOK Inv (p_X7_pays a1 a2) (p_X8_pays a1 a2)) {i : Int} (hi : 0 ≤ i ∧ i + 10 ≤ (L : Int)) (hN : ∀ (σ τ : St) (H : Heap) (locs : List Loc), Inv σ τ → At D cA adX kX 151 (wl cA adM kM 31 τ) A s σ H locs → ∀ ls : Array Slot, lv_has ls 4 [(0, .ref b), (1, .ref (adX 0)), (2, .ref (adM 0)), (3, .int (zI i))] → W p l e room_1 s m args below meth c H locs 600000 7302250 Q (F0 m 1790 ls [])) {σ τ : St} (hI : Inv σ τ) {H : Heap} {locs : List Loc} (hw : At D cA adX kX 151 (wl cA adM kM 31 τ) A s σ H locs) {ls : Array Slot} (hl : lv_has ls 4 [(0, .ref b), (1, .ref (adX 0)), (2, .ref (adM 0)), (3, .int (zI i))]) : W p l e room_1 s m args below meth c H locs 600000 7302250 Q (F0 m 334 ls []) := by
  have hL' : (L : Int) ≤ 5120 := by omega
  obtain ⟨hi1, hi2⟩ := hi
  obtain ⟨x1, y1, hx1, hy1, he, hI1⟩ := hOK (sv xs (i + 1)) (sv xs (i + 2)) (sv_i32 _ _) (sv_i32 _ _) σ τ hI
  refine y_aload_n C dL_law_334 (lv_at hl 1 rfl) ?_
  refine y_aload_n C dL_law_335 (lv_at hl 0 rfl) ?_
  refine y_iload_n C dL_law_336 (lv_at hl 3 rfl) ?_
  refine y_iconst C dL_law_337 ?_
  refine y_iadd C dL_law_338 ?_
  refine y_sld C hX hbl hbA hw.2 (i' := (i + 1)) (zm_eq (by omega) (by omega)) (by omega) dL_law_339 ?_
  refine y_aload_n C dL_law_340 (lv_at hl 0 rfl) ?_
  refine y_iload_n C dL_law_341 (lv_at hl 3 rfl) ?_
  refine y_iconst C dL_law_342 ?_
  refine y_iadd C dL_law_343 ?_
  refine y_sld C hX hbl hbA hw.2 (i' := (i + 2)) (zm_eq (by omega) (by omega)) (by omega) dL_law_344 ?_
  refine y_ciL (rest := []) hw (y_rVL ⟨Nat.le_refl _, Nat.le_refl _⟩ C hw kx_0 (by decide) rfl rfl (c_X7_pays hx1) mi_X7_pays wd_550 wd_551 wd_552 rfl ⟨by decide, by decide⟩ hl rfl (Nat.le_of_ble_eq_true rfl) dL_law_345) (fun H locs hw => ?_)
  have hw : At D cA adM kM 31 (wl cA adX kX 151 x1.2) A s τ H locs := ⟨Wd_XM hw.1, hw.2⟩
  refine y_aload_n C dL_law_348 (lv_at hl 2 rfl) ?_
  refine y_aload_n C dL_law_349 (lv_at hl 0 rfl) ?_
  refine y_iload_n C dL_law_350 (lv_at hl 3 rfl) ?_
  refine y_iconst C dL_law_351 ?_
  refine y_iadd C dL_law_352 ?_
  refine y_sld C hX hbl hbA hw.2 (i' := (i + 1)) (zm_eq (by omega) (by omega)) (by omega) dL_law_353 ?_
  refine y_aload_n C dL_law_354 (lv_at hl 0 rfl) ?_
  refine y_iload_n C dL_law_355 (lv_at hl 3 rfl) ?_
  refine y_iconst C dL_law_356 ?_
  refine y_iadd C dL_law_357 ?_
  refine y_sld C hX hbl hbA hw.2 (i' := (i + 2)) (zm_eq (by omega) (by omega)) (by omega) dL_law_358 ?_
  refine y_ciL (rest := [.int (zI x1.1)]) hw (y_rVL ⟨Nat.le_refl _, Nat.le_refl _⟩ C hw km_0 (by decide) rfl rfl (c_X8_pays hy1) mi_X8_pays wd_1100 wd_1101 wd_1102 rfl ⟨by decide, by decide⟩ hl rfl (Nat.le_of_ble_eq_true rfl) dL_law_359) (fun H locs hw => ?_)
  have hw : At D cA adX kX 151 (wl cA adM kM 31 y1.2) A s x1.2 H locs := ⟨Wd_MX hw.1, hw.2⟩
  refine y_icmp_eq (tgt := 1790) C rfl rfl dL_law_362 (by decide) (fun _ => hN x1.2 y1.2 H locs hI1 hw ls hl) (fun q => absurd he q)
set_option maxRecDepth 100000 in
set_option maxHeartbeats 4000000 in
theorem lc_7 {Inv : St → St → Prop} (C : Cx cL_law RL 4 (some .boolean) D cA adK adV A p s m args meth c) (hX : va_X b L xs s s.heap) (hbl : b < s.heap.size) (hbA : ¬ A b) (hL : L ≤ 5120) (hOK : ∀ a1 a2 a3 : Int, i32 a1 → i32 a2 → i32 a3 → StepOK Inv (p_X7_next a1 a2 a3) (p_X8_next a1 a2 a3)) {i : Int} (hi : 0 ≤ i ∧ i + 10 ≤ (L : Int)) (hN : ∀ (σ τ : St) (H : Heap) (locs : List Loc), Inv σ τ → At D cA adX kX 151 (wl cA adM kM 31 τ) A s σ H locs → ∀ ls : Array Slot, lv_has ls 4 [(0, .ref b), (1, .ref (adX 0)), (2, .ref (adM 0)), (3, .int (zI i))] → W p l e room_1 s m args below meth c H locs 600000 7302250 Q (F0 m 1790 ls [])) {σ τ : St} (hI : Inv σ τ) {H : Heap} {locs : List Loc} (hw : At D cA adX kX 151 (wl cA adM kM 31 τ) A s σ H locs) {ls : Array Slot} (hl : lv_has ls 4 [(0, .ref b), (1, .ref (adX 0)), (2, .ref (adM 0)), (3, .int (zI i))]) : W p l e room_1 s m args below meth c H locs 600000 7302250 Q (F0 m 367 ls []) := by
  have hL' : (L : Int) ≤ 5120 := by omega
  obtain ⟨hi1, hi2⟩ := hi
  obtain ⟨x1, y1, hx1, hy1, he, hI1⟩ := hOK (sv xs (i + 1)) (sv xs (i + 2)) (sv xs (i + 3)) (sv_i32 _ _) (sv_i32 _ _) (sv_i32 _ _) σ τ hI
  refine y_aload_n C dL_law_367 (lv_at hl 1 rfl) ?_
  refine y_aload_n C dL_law_368 (lv_at hl 0 rfl) ?_
  refine y_iload_n C dL_law_369 (lv_at hl 3 rfl) ?_
  refine y_iconst C dL_law_370 ?_
  refine y_iadd C dL_law_371 ?_
  refine y_sld C hX hbl hbA hw.2 (i' := (i + 1)) (zm_eq (by omega) (by omega)) (by omega) dL_law_372 ?_
  refine y_aload_n C dL_law_373 (lv_at hl 0 rfl) ?_
  refine y_iload_n C dL_law_374 (lv_at hl 3 rfl) ?_
  refine y_iconst C dL_law_375 ?_
  refine y_iadd C dL_law_376 ?_
  refine y_sld C hX hbl hbA hw.2 (i' := (i + 2)) (zm_eq (by omega) (by omega)) (by omega) dL_law_377 ?_
  refine y_aload_n C dL_law_378 (lv_at hl 0 rfl) ?_
  refine y_iload_n C dL_law_379 (lv_at hl 3 rfl) ?_
  refine y_iconst C dL_law_380 ?_
  refine y_iadd C dL_law_381 ?_
  refine y_sld C hX hbl hbA hw.2 (i' := (i + 3)) (zm_eq (by omega) (by omega)) (by omega) dL_law_382 ?_
  refine y_ciL (rest := []) hw (y_rVL ⟨Nat.le_refl _, Nat.le_refl _⟩ C hw kx_0 (by decide) rfl rfl (c_X7_next hx1) mi_X7_next wd_558 wd_559 wd_560 rfl ⟨by decide, by decide⟩ hl rfl (Nat.le_of_ble_eq_true rfl) dL_law_383) (fun H locs hw => ?_)
  have hw : At D cA adM kM 31 (wl cA adX kX 151 x1.2) A s τ H locs := ⟨Wd_XM hw.1, hw.2⟩
  refine y_aload_n C dL_law_386 (lv_at hl 2 rfl) ?_
  refine y_aload_n C dL_law_387 (lv_at hl 0 rfl) ?_
  refine y_iload_n C dL_law_388 (lv_at hl 3 rfl) ?_
  refine y_iconst C dL_law_389 ?_
  refine y_iadd C dL_law_390 ?_
  refine y_sld C hX hbl hbA hw.2 (i' := (i + 1)) (zm_eq (by omega) (by omega)) (by omega) dL_law_391 ?_
  refine y_aload_n C dL_law_392 (lv_at hl 0 rfl) ?_
  refine y_iload_n C dL_law_393 (lv_at hl 3 rfl) ?_
  refine y_iconst C dL_law_394 ?_
  refine y_iadd C dL_law_395 ?_
  refine y_sld C hX hbl hbA hw.2 (i' := (i + 2)) (zm_eq (by omega) (by omega)) (by omega) dL_law_396 ?_
  refine y_aload_n C dL_law_397 (lv_at hl 0 rfl) ?_
  refine y_iload_n C dL_law_398 (lv_at hl 3 rfl) ?_
  refine y_iconst C dL_law_399 ?_
  refine y_iadd C dL_law_400 ?_
  refine y_sld C hX hbl hbA hw.2 (i' := (i + 3)) (zm_eq (by omega) (by omega)) (by omega) dL_law_401 ?_
  refine y_ciL (rest := [.int (zI x1.1)]) hw (y_rVL ⟨Nat.le_refl _, Nat.le_refl _⟩ C hw km_0 (by decide) rfl rfl (c_X8_next hy1) mi_X8_next wd_1108 wd_1109 wd_1110 rfl ⟨by decide, by decide⟩ hl rfl (Nat.le_of_ble_eq_true rfl) dL_law_402) (fun H locs hw => ?_)
  have hw : At D cA adX kX 151 (wl cA adM kM 31 y1.2) A s x1.2 H locs := ⟨Wd_MX hw.1, hw.2⟩
  refine y_icmp_eq (tgt := 1790) C rfl rfl dL_law_405 (by decide) (fun _ => hN x1.2 y1.2 H locs hI1 hw ls hl) (fun q => absurd he q)
set_option maxRecDepth 100000 in
set_option maxHeartbeats 4000000 in
theorem lc_8 {Inv : St → St → Prop} (C : Cx cL_law RL 4 (some .boolean) D cA adK adV A p s m args meth c) (hX : va_X b L xs s s.heap) (hbl : b < s.heap.size) (hbA : ¬ A b) (hL : L ≤ 5120) (hOK : ∀ a1 a2 : Int, i32 a1 → i32 a2 → StepOK Inv (p_X7_scrapes a1 a2) (p_X8_scrapes a1 a2)) {i : Int} (hi : 0 ≤ i ∧ i + 10 ≤ (L : Int)) (hN : ∀ (σ τ : St) (H : Heap) (locs : List Loc), Inv σ τ → At D cA adX kX 151 (wl cA adM kM 31 τ) A s σ H locs → ∀ ls : Array Slot, lv_has ls 4 [(0, .ref b), (1, .ref (adX 0)), (2, .ref (adM 0)), (3, .int (zI i))] → W p l e room_1 s m args below meth c H locs 600000 7302250 Q (F0 m 1790 ls [])) {σ τ : St} (hI : Inv σ τ) {H : Heap} {locs : List Loc} (hw : At D cA adX kX 151 (wl cA adM kM 31 τ) A s σ H locs) {ls : Array Slot} (hl : lv_has ls 4 [(0, .ref b), (1, .ref (adX 0)), (2, .ref (adM 0)), (3, .int (zI i))]) : W p l e room_1 s m args below meth c H locs 600000 7302250 Q (F0 m 410 ls []) := by
  have hL' : (L : Int) ≤ 5120 := by omega
  obtain ⟨hi1, hi2⟩ := hi
  obtain ⟨x1, y1, hx1, hy1, he, hI1⟩ := hOK (sv xs (i + 1)) (sv xs (i + 2)) (sv_i32 _ _) (sv_i32 _ _) σ τ hI
  refine y_aload_n C dL_law_410 (lv_at hl 1 rfl) ?_
  refine y_aload_n C dL_law_411 (lv_at hl 0 rfl) ?_
  refine y_iload_n C dL_law_412 (lv_at hl 3 rfl) ?_
  refine y_iconst C dL_law_413 ?_
  refine y_iadd C dL_law_414 ?_
  refine y_sld C hX hbl hbA hw.2 (i' := (i + 1)) (zm_eq (by omega) (by omega)) (by omega) dL_law_415 ?_
  refine y_aload_n C dL_law_416 (lv_at hl 0 rfl) ?_
  refine y_iload_n C dL_law_417 (lv_at hl 3 rfl) ?_
  refine y_iconst C dL_law_418 ?_
  refine y_iadd C dL_law_419 ?_
  refine y_sld C hX hbl hbA hw.2 (i' := (i + 2)) (zm_eq (by omega) (by omega)) (by omega) dL_law_420 ?_
  refine y_ciL (rest := []) hw (y_rVL ⟨Nat.le_refl _, Nat.le_refl _⟩ C hw kx_0 (by decide) rfl rfl (c_X7_scrapes hx1) mi_X7_scrapes wd_576 wd_577 wd_578 rfl ⟨by decide, by decide⟩ hl rfl (Nat.le_of_ble_eq_true rfl) dL_law_421) (fun H locs hw => ?_)
  have hw : At D cA adM kM 31 (wl cA adX kX 151 x1.2) A s τ H locs := ⟨Wd_XM hw.1, hw.2⟩
  refine y_aload_n C dL_law_424 (lv_at hl 2 rfl) ?_
  refine y_aload_n C dL_law_425 (lv_at hl 0 rfl) ?_
  refine y_iload_n C dL_law_426 (lv_at hl 3 rfl) ?_
  refine y_iconst C dL_law_427 ?_
  refine y_iadd C dL_law_428 ?_
  refine y_sld C hX hbl hbA hw.2 (i' := (i + 1)) (zm_eq (by omega) (by omega)) (by omega) dL_law_429 ?_
  refine y_aload_n C dL_law_430 (lv_at hl 0 rfl) ?_
  refine y_iload_n C dL_law_431 (lv_at hl 3 rfl) ?_
  refine y_iconst C dL_law_432 ?_
  refine y_iadd C dL_law_433 ?_
  refine y_sld C hX hbl hbA hw.2 (i' := (i + 2)) (zm_eq (by omega) (by omega)) (by omega) dL_law_434 ?_
  refine y_ciL (rest := [.int (zI x1.1)]) hw (y_rVL ⟨Nat.le_refl _, Nat.le_refl _⟩ C hw km_0 (by decide) rfl rfl (c_X8_scrapes hy1) mi_X8_scrapes wd_1134 wd_1135 wd_1136 rfl ⟨by decide, by decide⟩ hl rfl (Nat.le_of_ble_eq_true rfl) dL_law_435) (fun H locs hw => ?_)
  have hw : At D cA adX kX 151 (wl cA adM kM 31 y1.2) A s x1.2 H locs := ⟨Wd_MX hw.1, hw.2⟩
  refine y_icmp_eq (tgt := 1790) C rfl rfl dL_law_438 (by decide) (fun _ => hN x1.2 y1.2 H locs hI1 hw ls hl) (fun q => absurd he q)
set_option maxRecDepth 100000 in
set_option maxHeartbeats 4000000 in
theorem lc_9 {Inv : St → St → Prop} (C : Cx cL_law RL 4 (some .boolean) D cA adK adV A p s m args meth c) (hX : va_X b L xs s s.heap) (hbl : b < s.heap.size) (hbA : ¬ A b) (hL : L ≤ 5120) (hOK : ∀ a1 a2 a3 a4 a5 : Int, i32 a1 → i32 a2 → i32 a3 → i32 a4 → i32 a5 → StepOK Inv (p_X7_cost a1 a2 a3 a4 a5) (p_X8_cost a1 a2 a3 a4 a5)) {i : Int} (hi : 0 ≤ i ∧ i + 10 ≤ (L : Int)) (hN : ∀ (σ τ : St) (H : Heap) (locs : List Loc), Inv σ τ → At D cA adX kX 151 (wl cA adM kM 31 τ) A s σ H locs → ∀ ls : Array Slot, lv_has ls 4 [(0, .ref b), (1, .ref (adX 0)), (2, .ref (adM 0)), (3, .int (zI i))] → W p l e room_1 s m args below meth c H locs 600000 7302250 Q (F0 m 1790 ls [])) {σ τ : St} (hI : Inv σ τ) {H : Heap} {locs : List Loc} (hw : At D cA adX kX 151 (wl cA adM kM 31 τ) A s σ H locs) {ls : Array Slot} (hl : lv_has ls 4 [(0, .ref b), (1, .ref (adX 0)), (2, .ref (adM 0)), (3, .int (zI i))]) : W p l e room_1 s m args below meth c H locs 600000 7302250 Q (F0 m 443 ls []) := by
  have hL' : (L : Int) ≤ 5120 := by omega
  obtain ⟨hi1, hi2⟩ := hi
  obtain ⟨x1, y1, hx1, hy1, he, hI1⟩ := hOK (sv xs (i + 1)) (sv xs (i + 2)) (sv xs (i + 3)) (sv xs (i + 4)) (sv xs (i + 5)) (sv_i32 _ _) (sv_i32 _ _) (sv_i32 _ _) (sv_i32 _ _) (sv_i32 _ _) σ τ hI
  refine y_aload_n C dL_law_443 (lv_at hl 1 rfl) ?_
  refine y_aload_n C dL_law_444 (lv_at hl 0 rfl) ?_
  refine y_iload_n C dL_law_445 (lv_at hl 3 rfl) ?_
  refine y_iconst C dL_law_446 ?_
  refine y_iadd C dL_law_447 ?_
  refine y_sld C hX hbl hbA hw.2 (i' := (i + 1)) (zm_eq (by omega) (by omega)) (by omega) dL_law_448 ?_
  refine y_aload_n C dL_law_449 (lv_at hl 0 rfl) ?_
  refine y_iload_n C dL_law_450 (lv_at hl 3 rfl) ?_
  refine y_iconst C dL_law_451 ?_
  refine y_iadd C dL_law_452 ?_
  refine y_sld C hX hbl hbA hw.2 (i' := (i + 2)) (zm_eq (by omega) (by omega)) (by omega) dL_law_453 ?_
  refine y_aload_n C dL_law_454 (lv_at hl 0 rfl) ?_
  refine y_iload_n C dL_law_455 (lv_at hl 3 rfl) ?_
  refine y_iconst C dL_law_456 ?_
  refine y_iadd C dL_law_457 ?_
  refine y_sld C hX hbl hbA hw.2 (i' := (i + 3)) (zm_eq (by omega) (by omega)) (by omega) dL_law_458 ?_
  refine y_aload_n C dL_law_459 (lv_at hl 0 rfl) ?_
  refine y_iload_n C dL_law_460 (lv_at hl 3 rfl) ?_
  refine y_iconst C dL_law_461 ?_
  refine y_iadd C dL_law_462 ?_
  refine y_sld C hX hbl hbA hw.2 (i' := (i + 4)) (zm_eq (by omega) (by omega)) (by omega) dL_law_463 ?_
  refine y_aload_n C dL_law_464 (lv_at hl 0 rfl) ?_
  refine y_iload_n C dL_law_465 (lv_at hl 3 rfl) ?_
  refine y_iconst C dL_law_466 ?_
  refine y_iadd C dL_law_467 ?_
  refine y_sld C hX hbl hbA hw.2 (i' := (i + 5)) (zm_eq (by omega) (by omega)) (by omega) dL_law_468 ?_
  refine y_ciL (rest := []) hw (y_rVL ⟨Nat.le_refl _, Nat.le_refl _⟩ C hw kx_0 (by decide) rfl rfl (c_X7_cost hx1) mi_X7_cost wd_584 wd_585 wd_586 rfl ⟨by decide, by decide⟩ hl rfl (Nat.le_of_ble_eq_true rfl) dL_law_469) (fun H locs hw => ?_)
  have hw : At D cA adM kM 31 (wl cA adX kX 151 x1.2) A s τ H locs := ⟨Wd_XM hw.1, hw.2⟩
  refine y_aload_n C dL_law_472 (lv_at hl 2 rfl) ?_
  refine y_aload_n C dL_law_473 (lv_at hl 0 rfl) ?_
  refine y_iload_n C dL_law_474 (lv_at hl 3 rfl) ?_
  refine y_iconst C dL_law_475 ?_
  refine y_iadd C dL_law_476 ?_
  refine y_sld C hX hbl hbA hw.2 (i' := (i + 1)) (zm_eq (by omega) (by omega)) (by omega) dL_law_477 ?_
  refine y_aload_n C dL_law_478 (lv_at hl 0 rfl) ?_
  refine y_iload_n C dL_law_479 (lv_at hl 3 rfl) ?_
  refine y_iconst C dL_law_480 ?_
  refine y_iadd C dL_law_481 ?_
  refine y_sld C hX hbl hbA hw.2 (i' := (i + 2)) (zm_eq (by omega) (by omega)) (by omega) dL_law_482 ?_
  refine y_aload_n C dL_law_483 (lv_at hl 0 rfl) ?_
  refine y_iload_n C dL_law_484 (lv_at hl 3 rfl) ?_
  refine y_iconst C dL_law_485 ?_
  refine y_iadd C dL_law_486 ?_
  refine y_sld C hX hbl hbA hw.2 (i' := (i + 3)) (zm_eq (by omega) (by omega)) (by omega) dL_law_487 ?_
  refine y_aload_n C dL_law_488 (lv_at hl 0 rfl) ?_
  refine y_iload_n C dL_law_489 (lv_at hl 3 rfl) ?_
  refine y_iconst C dL_law_490 ?_
  refine y_iadd C dL_law_491 ?_
  refine y_sld C hX hbl hbA hw.2 (i' := (i + 4)) (zm_eq (by omega) (by omega)) (by omega) dL_law_492 ?_
  refine y_aload_n C dL_law_493 (lv_at hl 0 rfl) ?_
  refine y_iload_n C dL_law_494 (lv_at hl 3 rfl) ?_
  refine y_iconst C dL_law_495 ?_
  refine y_iadd C dL_law_496 ?_
  refine y_sld C hX hbl hbA hw.2 (i' := (i + 5)) (zm_eq (by omega) (by omega)) (by omega) dL_law_497 ?_
  refine y_ciL (rest := [.int (zI x1.1)]) hw (y_rVL ⟨Nat.le_refl _, Nat.le_refl _⟩ C hw km_0 (by decide) rfl rfl (c_X8_cost hy1) mi_X8_cost wd_1164 wd_1165 wd_1166 rfl ⟨by decide, by decide⟩ hl rfl (Nat.le_of_ble_eq_true rfl) dL_law_498) (fun H locs hw => ?_)
  have hw : At D cA adX kX 151 (wl cA adM kM 31 y1.2) A s x1.2 H locs := ⟨Wd_MX hw.1, hw.2⟩
  refine y_icmp_eq (tgt := 1790) C rfl rfl dL_law_501 (by decide) (fun _ => hN x1.2 y1.2 H locs hI1 hw ls hl) (fun q => absurd he q)
set_option maxRecDepth 100000 in
set_option maxHeartbeats 4000000 in
theorem lc_10 {Inv : St → St → Prop} (C : Cx cL_law RL 4 (some .boolean) D cA adK adV A p s m args meth c) (hX : va_X b L xs s s.heap) (hbl : b < s.heap.size) (hbA : ¬ A b) (hL : L ≤ 5120) (hOK : ∀ a1 a2 a3 a4 a5 a6 a7 a8 : Int, i32 a1 → i32 a2 → i32 a3 → i32 a4 → i32 a5 → i32 a6 → i32 a7 → (a8 = 0 ∨ a8 = 1) → StepOK Inv (p_X7_in a1 a2 a3 a4 a5 a6 a7 a8) (p_X8_in a1 a2 a3 a4 a5 a6 a7 a8)) {i : Int} (hi : 0 ≤ i ∧ i + 10 ≤ (L : Int)) (hN : ∀ (σ τ : St) (H : Heap) (locs : List Loc), Inv σ τ → At D cA adX kX 151 (wl cA adM kM 31 τ) A s σ H locs → ∀ ls : Array Slot, lv_has ls 4 [(0, .ref b), (1, .ref (adX 0)), (2, .ref (adM 0)), (3, .int (zI i))] → W p l e room_1 s m args below meth c H locs 600000 7302250 Q (F0 m 1790 ls [])) {σ τ : St} (hI : Inv σ τ) {H : Heap} {locs : List Loc} (hw : At D cA adX kX 151 (wl cA adM kM 31 τ) A s σ H locs) {ls : Array Slot} (hl : lv_has ls 4 [(0, .ref b), (1, .ref (adX 0)), (2, .ref (adM 0)), (3, .int (zI i))]) : W p l e room_1 s m args below meth c H locs 600000 7302250 Q (F0 m 506 ls []) := by
  have hL' : (L : Int) ≤ 5120 := by omega
  obtain ⟨hi1, hi2⟩ := hi
  by_cases hf : zm (sv xs (i + 8)) = 0
  · obtain ⟨x1, y1, hx1, hy1, he, hI1⟩ := hOK (sv xs (i + 1)) (sv xs (i + 2)) (sv xs (i + 3)) (sv xs (i + 4)) (sv xs (i + 5)) (sv xs (i + 6)) (sv xs (i + 7)) 0 (sv_i32 _ _) (sv_i32 _ _) (sv_i32 _ _) (sv_i32 _ _) (sv_i32 _ _) (sv_i32 _ _) (sv_i32 _ _) (Or.inl rfl) σ τ hI
    refine y_aload_n C dL_law_506 (lv_at hl 1 rfl) ?_
    refine y_aload_n C dL_law_507 (lv_at hl 0 rfl) ?_
    refine y_iload_n C dL_law_508 (lv_at hl 3 rfl) ?_
    refine y_iconst C dL_law_509 ?_
    refine y_iadd C dL_law_510 ?_
    refine y_sld C hX hbl hbA hw.2 (i' := (i + 1)) (zm_eq (by omega) (by omega)) (by omega) dL_law_511 ?_
    refine y_aload_n C dL_law_512 (lv_at hl 0 rfl) ?_
    refine y_iload_n C dL_law_513 (lv_at hl 3 rfl) ?_
    refine y_iconst C dL_law_514 ?_
    refine y_iadd C dL_law_515 ?_
    refine y_sld C hX hbl hbA hw.2 (i' := (i + 2)) (zm_eq (by omega) (by omega)) (by omega) dL_law_516 ?_
    refine y_aload_n C dL_law_517 (lv_at hl 0 rfl) ?_
    refine y_iload_n C dL_law_518 (lv_at hl 3 rfl) ?_
    refine y_iconst C dL_law_519 ?_
    refine y_iadd C dL_law_520 ?_
    refine y_sld C hX hbl hbA hw.2 (i' := (i + 3)) (zm_eq (by omega) (by omega)) (by omega) dL_law_521 ?_
    refine y_aload_n C dL_law_522 (lv_at hl 0 rfl) ?_
    refine y_iload_n C dL_law_523 (lv_at hl 3 rfl) ?_
    refine y_iconst C dL_law_524 ?_
    refine y_iadd C dL_law_525 ?_
    refine y_sld C hX hbl hbA hw.2 (i' := (i + 4)) (zm_eq (by omega) (by omega)) (by omega) dL_law_526 ?_
    refine y_aload_n C dL_law_527 (lv_at hl 0 rfl) ?_
    refine y_iload_n C dL_law_528 (lv_at hl 3 rfl) ?_
    refine y_iconst C dL_law_529 ?_
    refine y_iadd C dL_law_530 ?_
    refine y_sld C hX hbl hbA hw.2 (i' := (i + 5)) (zm_eq (by omega) (by omega)) (by omega) dL_law_531 ?_
    refine y_aload_n C dL_law_532 (lv_at hl 0 rfl) ?_
    refine y_iload_n C dL_law_533 (lv_at hl 3 rfl) ?_
    refine y_bipush C dL_law_534 (by decide) ?_
    refine y_iadd C dL_law_536 ?_
    refine y_sld C hX hbl hbA hw.2 (i' := (i + 6)) (zm_eq (by omega) (by omega)) (by omega) dL_law_537 ?_
    refine y_aload_n C dL_law_538 (lv_at hl 0 rfl) ?_
    refine y_iload_n C dL_law_539 (lv_at hl 3 rfl) ?_
    refine y_bipush C dL_law_540 (by decide) ?_
    refine y_iadd C dL_law_542 ?_
    refine y_sld C hX hbl hbA hw.2 (i' := (i + 7)) (zm_eq (by omega) (by omega)) (by omega) dL_law_543 ?_
    refine y_aload_n C dL_law_544 (lv_at hl 0 rfl) ?_
    refine y_iload_n C dL_law_545 (lv_at hl 3 rfl) ?_
    refine y_bipush C dL_law_546 (by decide) ?_
    refine y_iadd C dL_law_548 ?_
    refine y_sld C hX hbl hbA hw.2 (i' := (i + 8)) (zm_eq (by omega) (by omega)) (by omega) dL_law_549 ?_
    refine y_if_eq (tgt := 557) C rfl dL_law_550 (by decide) (fun _ => ?_) (fun q => absurd hf q)
    refine y_iconst C dL_law_557 ?_
    refine y_ciL (rest := []) hw (y_rVL ⟨Nat.le_refl _, Nat.le_refl _⟩ C hw kx_0 (by decide) rfl rfl (c_X7_in hx1) mi_X7_in wd_638 wd_639 wd_640 rfl ⟨by decide, by decide⟩ hl rfl (Nat.le_of_ble_eq_true rfl) dL_law_558) (fun H locs hw => ?_)
    have hw : At D cA adM kM 31 (wl cA adX kX 151 x1.2) A s τ H locs := ⟨Wd_XM hw.1, hw.2⟩
    refine y_aload_n C dL_law_561 (lv_at hl 2 rfl) ?_
    refine y_aload_n C dL_law_562 (lv_at hl 0 rfl) ?_
    refine y_iload_n C dL_law_563 (lv_at hl 3 rfl) ?_
    refine y_iconst C dL_law_564 ?_
    refine y_iadd C dL_law_565 ?_
    refine y_sld C hX hbl hbA hw.2 (i' := (i + 1)) (zm_eq (by omega) (by omega)) (by omega) dL_law_566 ?_
    refine y_aload_n C dL_law_567 (lv_at hl 0 rfl) ?_
    refine y_iload_n C dL_law_568 (lv_at hl 3 rfl) ?_
    refine y_iconst C dL_law_569 ?_
    refine y_iadd C dL_law_570 ?_
    refine y_sld C hX hbl hbA hw.2 (i' := (i + 2)) (zm_eq (by omega) (by omega)) (by omega) dL_law_571 ?_
    refine y_aload_n C dL_law_572 (lv_at hl 0 rfl) ?_
    refine y_iload_n C dL_law_573 (lv_at hl 3 rfl) ?_
    refine y_iconst C dL_law_574 ?_
    refine y_iadd C dL_law_575 ?_
    refine y_sld C hX hbl hbA hw.2 (i' := (i + 3)) (zm_eq (by omega) (by omega)) (by omega) dL_law_576 ?_
    refine y_aload_n C dL_law_577 (lv_at hl 0 rfl) ?_
    refine y_iload_n C dL_law_578 (lv_at hl 3 rfl) ?_
    refine y_iconst C dL_law_579 ?_
    refine y_iadd C dL_law_580 ?_
    refine y_sld C hX hbl hbA hw.2 (i' := (i + 4)) (zm_eq (by omega) (by omega)) (by omega) dL_law_581 ?_
    refine y_aload_n C dL_law_582 (lv_at hl 0 rfl) ?_
    refine y_iload_n C dL_law_583 (lv_at hl 3 rfl) ?_
    refine y_iconst C dL_law_584 ?_
    refine y_iadd C dL_law_585 ?_
    refine y_sld C hX hbl hbA hw.2 (i' := (i + 5)) (zm_eq (by omega) (by omega)) (by omega) dL_law_586 ?_
    refine y_aload_n C dL_law_587 (lv_at hl 0 rfl) ?_
    refine y_iload_n C dL_law_588 (lv_at hl 3 rfl) ?_
    refine y_bipush C dL_law_589 (by decide) ?_
    refine y_iadd C dL_law_591 ?_
    refine y_sld C hX hbl hbA hw.2 (i' := (i + 6)) (zm_eq (by omega) (by omega)) (by omega) dL_law_592 ?_
    refine y_aload_n C dL_law_593 (lv_at hl 0 rfl) ?_
    refine y_iload_n C dL_law_594 (lv_at hl 3 rfl) ?_
    refine y_bipush C dL_law_595 (by decide) ?_
    refine y_iadd C dL_law_597 ?_
    refine y_sld C hX hbl hbA hw.2 (i' := (i + 7)) (zm_eq (by omega) (by omega)) (by omega) dL_law_598 ?_
    refine y_aload_n C dL_law_599 (lv_at hl 0 rfl) ?_
    refine y_iload_n C dL_law_600 (lv_at hl 3 rfl) ?_
    refine y_bipush C dL_law_601 (by decide) ?_
    refine y_iadd C dL_law_603 ?_
    refine y_sld C hX hbl hbA hw.2 (i' := (i + 8)) (zm_eq (by omega) (by omega)) (by omega) dL_law_604 ?_
    refine y_if_eq (tgt := 612) C rfl dL_law_605 (by decide) (fun _ => ?_) (fun q => absurd hf q)
    refine y_iconst C dL_law_612 ?_
    refine y_ciL (rest := [.int (zI x1.1)]) hw (y_rVL ⟨Nat.le_refl _, Nat.le_refl _⟩ C hw km_0 (by decide) rfl rfl (c_X8_in hy1) mi_X8_in wd_1216 wd_1217 wd_1218 rfl ⟨by decide, by decide⟩ hl rfl (Nat.le_of_ble_eq_true rfl) dL_law_613) (fun H locs hw => ?_)
    have hw : At D cA adX kX 151 (wl cA adM kM 31 y1.2) A s x1.2 H locs := ⟨Wd_MX hw.1, hw.2⟩
    refine y_icmp_eq (tgt := 1790) C rfl rfl dL_law_616 (by decide) (fun _ => hN x1.2 y1.2 H locs hI1 hw ls hl) (fun q => absurd he q)
  · obtain ⟨x1, y1, hx1, hy1, he, hI1⟩ := hOK (sv xs (i + 1)) (sv xs (i + 2)) (sv xs (i + 3)) (sv xs (i + 4)) (sv xs (i + 5)) (sv xs (i + 6)) (sv xs (i + 7)) 1 (sv_i32 _ _) (sv_i32 _ _) (sv_i32 _ _) (sv_i32 _ _) (sv_i32 _ _) (sv_i32 _ _) (sv_i32 _ _) (Or.inr rfl) σ τ hI
    refine y_aload_n C dL_law_506 (lv_at hl 1 rfl) ?_
    refine y_aload_n C dL_law_507 (lv_at hl 0 rfl) ?_
    refine y_iload_n C dL_law_508 (lv_at hl 3 rfl) ?_
    refine y_iconst C dL_law_509 ?_
    refine y_iadd C dL_law_510 ?_
    refine y_sld C hX hbl hbA hw.2 (i' := (i + 1)) (zm_eq (by omega) (by omega)) (by omega) dL_law_511 ?_
    refine y_aload_n C dL_law_512 (lv_at hl 0 rfl) ?_
    refine y_iload_n C dL_law_513 (lv_at hl 3 rfl) ?_
    refine y_iconst C dL_law_514 ?_
    refine y_iadd C dL_law_515 ?_
    refine y_sld C hX hbl hbA hw.2 (i' := (i + 2)) (zm_eq (by omega) (by omega)) (by omega) dL_law_516 ?_
    refine y_aload_n C dL_law_517 (lv_at hl 0 rfl) ?_
    refine y_iload_n C dL_law_518 (lv_at hl 3 rfl) ?_
    refine y_iconst C dL_law_519 ?_
    refine y_iadd C dL_law_520 ?_
    refine y_sld C hX hbl hbA hw.2 (i' := (i + 3)) (zm_eq (by omega) (by omega)) (by omega) dL_law_521 ?_
    refine y_aload_n C dL_law_522 (lv_at hl 0 rfl) ?_
    refine y_iload_n C dL_law_523 (lv_at hl 3 rfl) ?_
    refine y_iconst C dL_law_524 ?_
    refine y_iadd C dL_law_525 ?_
    refine y_sld C hX hbl hbA hw.2 (i' := (i + 4)) (zm_eq (by omega) (by omega)) (by omega) dL_law_526 ?_
    refine y_aload_n C dL_law_527 (lv_at hl 0 rfl) ?_
    refine y_iload_n C dL_law_528 (lv_at hl 3 rfl) ?_
    refine y_iconst C dL_law_529 ?_
    refine y_iadd C dL_law_530 ?_
    refine y_sld C hX hbl hbA hw.2 (i' := (i + 5)) (zm_eq (by omega) (by omega)) (by omega) dL_law_531 ?_
    refine y_aload_n C dL_law_532 (lv_at hl 0 rfl) ?_
    refine y_iload_n C dL_law_533 (lv_at hl 3 rfl) ?_
    refine y_bipush C dL_law_534 (by decide) ?_
    refine y_iadd C dL_law_536 ?_
    refine y_sld C hX hbl hbA hw.2 (i' := (i + 6)) (zm_eq (by omega) (by omega)) (by omega) dL_law_537 ?_
    refine y_aload_n C dL_law_538 (lv_at hl 0 rfl) ?_
    refine y_iload_n C dL_law_539 (lv_at hl 3 rfl) ?_
    refine y_bipush C dL_law_540 (by decide) ?_
    refine y_iadd C dL_law_542 ?_
    refine y_sld C hX hbl hbA hw.2 (i' := (i + 7)) (zm_eq (by omega) (by omega)) (by omega) dL_law_543 ?_
    refine y_aload_n C dL_law_544 (lv_at hl 0 rfl) ?_
    refine y_iload_n C dL_law_545 (lv_at hl 3 rfl) ?_
    refine y_bipush C dL_law_546 (by decide) ?_
    refine y_iadd C dL_law_548 ?_
    refine y_sld C hX hbl hbA hw.2 (i' := (i + 8)) (zm_eq (by omega) (by omega)) (by omega) dL_law_549 ?_
    refine y_if_eq (tgt := 557) C rfl dL_law_550 (by decide) (fun q => absurd q hf) (fun _ => ?_)
    refine y_iconst C dL_law_553 ?_
    refine y_goto (tgt := 558) C dL_law_554 (by decide) ?_
    refine y_ciL (rest := []) hw (y_rVL ⟨Nat.le_refl _, Nat.le_refl _⟩ C hw kx_0 (by decide) rfl rfl (c_X7_in hx1) mi_X7_in wd_638 wd_639 wd_640 rfl ⟨by decide, by decide⟩ hl rfl (Nat.le_of_ble_eq_true rfl) dL_law_558) (fun H locs hw => ?_)
    have hw : At D cA adM kM 31 (wl cA adX kX 151 x1.2) A s τ H locs := ⟨Wd_XM hw.1, hw.2⟩
    refine y_aload_n C dL_law_561 (lv_at hl 2 rfl) ?_
    refine y_aload_n C dL_law_562 (lv_at hl 0 rfl) ?_
    refine y_iload_n C dL_law_563 (lv_at hl 3 rfl) ?_
    refine y_iconst C dL_law_564 ?_
    refine y_iadd C dL_law_565 ?_
    refine y_sld C hX hbl hbA hw.2 (i' := (i + 1)) (zm_eq (by omega) (by omega)) (by omega) dL_law_566 ?_
    refine y_aload_n C dL_law_567 (lv_at hl 0 rfl) ?_
    refine y_iload_n C dL_law_568 (lv_at hl 3 rfl) ?_
    refine y_iconst C dL_law_569 ?_
    refine y_iadd C dL_law_570 ?_
    refine y_sld C hX hbl hbA hw.2 (i' := (i + 2)) (zm_eq (by omega) (by omega)) (by omega) dL_law_571 ?_
    refine y_aload_n C dL_law_572 (lv_at hl 0 rfl) ?_
    refine y_iload_n C dL_law_573 (lv_at hl 3 rfl) ?_
    refine y_iconst C dL_law_574 ?_
    refine y_iadd C dL_law_575 ?_
    refine y_sld C hX hbl hbA hw.2 (i' := (i + 3)) (zm_eq (by omega) (by omega)) (by omega) dL_law_576 ?_
    refine y_aload_n C dL_law_577 (lv_at hl 0 rfl) ?_
    refine y_iload_n C dL_law_578 (lv_at hl 3 rfl) ?_
    refine y_iconst C dL_law_579 ?_
    refine y_iadd C dL_law_580 ?_
    refine y_sld C hX hbl hbA hw.2 (i' := (i + 4)) (zm_eq (by omega) (by omega)) (by omega) dL_law_581 ?_
    refine y_aload_n C dL_law_582 (lv_at hl 0 rfl) ?_
    refine y_iload_n C dL_law_583 (lv_at hl 3 rfl) ?_
    refine y_iconst C dL_law_584 ?_
    refine y_iadd C dL_law_585 ?_
    refine y_sld C hX hbl hbA hw.2 (i' := (i + 5)) (zm_eq (by omega) (by omega)) (by omega) dL_law_586 ?_
    refine y_aload_n C dL_law_587 (lv_at hl 0 rfl) ?_
    refine y_iload_n C dL_law_588 (lv_at hl 3 rfl) ?_
    refine y_bipush C dL_law_589 (by decide) ?_
    refine y_iadd C dL_law_591 ?_
    refine y_sld C hX hbl hbA hw.2 (i' := (i + 6)) (zm_eq (by omega) (by omega)) (by omega) dL_law_592 ?_
    refine y_aload_n C dL_law_593 (lv_at hl 0 rfl) ?_
    refine y_iload_n C dL_law_594 (lv_at hl 3 rfl) ?_
    refine y_bipush C dL_law_595 (by decide) ?_
    refine y_iadd C dL_law_597 ?_
    refine y_sld C hX hbl hbA hw.2 (i' := (i + 7)) (zm_eq (by omega) (by omega)) (by omega) dL_law_598 ?_
    refine y_aload_n C dL_law_599 (lv_at hl 0 rfl) ?_
    refine y_iload_n C dL_law_600 (lv_at hl 3 rfl) ?_
    refine y_bipush C dL_law_601 (by decide) ?_
    refine y_iadd C dL_law_603 ?_
    refine y_sld C hX hbl hbA hw.2 (i' := (i + 8)) (zm_eq (by omega) (by omega)) (by omega) dL_law_604 ?_
    refine y_if_eq (tgt := 612) C rfl dL_law_605 (by decide) (fun q => absurd q hf) (fun _ => ?_)
    refine y_iconst C dL_law_608 ?_
    refine y_goto (tgt := 613) C dL_law_609 (by decide) ?_
    refine y_ciL (rest := [.int (zI x1.1)]) hw (y_rVL ⟨Nat.le_refl _, Nat.le_refl _⟩ C hw km_0 (by decide) rfl rfl (c_X8_in hy1) mi_X8_in wd_1216 wd_1217 wd_1218 rfl ⟨by decide, by decide⟩ hl rfl (Nat.le_of_ble_eq_true rfl) dL_law_613) (fun H locs hw => ?_)
    have hw : At D cA adX kX 151 (wl cA adM kM 31 y1.2) A s x1.2 H locs := ⟨Wd_MX hw.1, hw.2⟩
    refine y_icmp_eq (tgt := 1790) C rfl rfl dL_law_616 (by decide) (fun _ => hN x1.2 y1.2 H locs hI1 hw ls hl) (fun q => absurd he q)
set_option maxRecDepth 100000 in
set_option maxHeartbeats 4000000 in
theorem lc_11 {Inv : St → St → Prop} (C : Cx cL_law RL 4 (some .boolean) D cA adK adV A p s m args meth c) (hX : va_X b L xs s s.heap) (hbl : b < s.heap.size) (hbA : ¬ A b) (hL : L ≤ 5120) (hOK : ∀ a1 a2 a3 a4 a5 : Int, i32 a1 → i32 a2 → i32 a3 → i32 a4 → i32 a5 → StepOK Inv (p_X7_takes a1 a2 a3 a4 a5) (p_X8_takes a1 a2 a3 a4 a5)) {i : Int} (hi : 0 ≤ i ∧ i + 10 ≤ (L : Int)) (hN : ∀ (σ τ : St) (H : Heap) (locs : List Loc), Inv σ τ → At D cA adX kX 151 (wl cA adM kM 31 τ) A s σ H locs → ∀ ls : Array Slot, lv_has ls 4 [(0, .ref b), (1, .ref (adX 0)), (2, .ref (adM 0)), (3, .int (zI i))] → W p l e room_1 s m args below meth c H locs 600000 7302250 Q (F0 m 1790 ls [])) {σ τ : St} (hI : Inv σ τ) {H : Heap} {locs : List Loc} (hw : At D cA adX kX 151 (wl cA adM kM 31 τ) A s σ H locs) {ls : Array Slot} (hl : lv_has ls 4 [(0, .ref b), (1, .ref (adX 0)), (2, .ref (adM 0)), (3, .int (zI i))]) : W p l e room_1 s m args below meth c H locs 600000 7302250 Q (F0 m 621 ls []) := by
  have hL' : (L : Int) ≤ 5120 := by omega
  obtain ⟨hi1, hi2⟩ := hi
  obtain ⟨x1, y1, hx1, hy1, he, hI1⟩ := hOK (sv xs (i + 1)) (sv xs (i + 2)) (sv xs (i + 3)) (sv xs (i + 4)) (sv xs (i + 5)) (sv_i32 _ _) (sv_i32 _ _) (sv_i32 _ _) (sv_i32 _ _) (sv_i32 _ _) σ τ hI
  refine y_aload_n C dL_law_621 (lv_at hl 1 rfl) ?_
  refine y_aload_n C dL_law_622 (lv_at hl 0 rfl) ?_
  refine y_iload_n C dL_law_623 (lv_at hl 3 rfl) ?_
  refine y_iconst C dL_law_624 ?_
  refine y_iadd C dL_law_625 ?_
  refine y_sld C hX hbl hbA hw.2 (i' := (i + 1)) (zm_eq (by omega) (by omega)) (by omega) dL_law_626 ?_
  refine y_aload_n C dL_law_627 (lv_at hl 0 rfl) ?_
  refine y_iload_n C dL_law_628 (lv_at hl 3 rfl) ?_
  refine y_iconst C dL_law_629 ?_
  refine y_iadd C dL_law_630 ?_
  refine y_sld C hX hbl hbA hw.2 (i' := (i + 2)) (zm_eq (by omega) (by omega)) (by omega) dL_law_631 ?_
  refine y_aload_n C dL_law_632 (lv_at hl 0 rfl) ?_
  refine y_iload_n C dL_law_633 (lv_at hl 3 rfl) ?_
  refine y_iconst C dL_law_634 ?_
  refine y_iadd C dL_law_635 ?_
  refine y_sld C hX hbl hbA hw.2 (i' := (i + 3)) (zm_eq (by omega) (by omega)) (by omega) dL_law_636 ?_
  refine y_aload_n C dL_law_637 (lv_at hl 0 rfl) ?_
  refine y_iload_n C dL_law_638 (lv_at hl 3 rfl) ?_
  refine y_iconst C dL_law_639 ?_
  refine y_iadd C dL_law_640 ?_
  refine y_sld C hX hbl hbA hw.2 (i' := (i + 4)) (zm_eq (by omega) (by omega)) (by omega) dL_law_641 ?_
  refine y_aload_n C dL_law_642 (lv_at hl 0 rfl) ?_
  refine y_iload_n C dL_law_643 (lv_at hl 3 rfl) ?_
  refine y_iconst C dL_law_644 ?_
  refine y_iadd C dL_law_645 ?_
  refine y_sld C hX hbl hbA hw.2 (i' := (i + 5)) (zm_eq (by omega) (by omega)) (by omega) dL_law_646 ?_
  refine y_ciL (rest := []) hw (y_rVL ⟨Nat.le_refl _, Nat.le_refl _⟩ C hw kx_0 (by decide) rfl rfl (c_X7_takes hx1) mi_X7_takes wd_647 wd_648 wd_649 rfl ⟨by decide, by decide⟩ hl rfl (Nat.le_of_ble_eq_true rfl) dL_law_647) (fun H locs hw => ?_)
  have hw : At D cA adM kM 31 (wl cA adX kX 151 x1.2) A s τ H locs := ⟨Wd_XM hw.1, hw.2⟩
  refine y_aload_n C dL_law_650 (lv_at hl 2 rfl) ?_
  refine y_aload_n C dL_law_651 (lv_at hl 0 rfl) ?_
  refine y_iload_n C dL_law_652 (lv_at hl 3 rfl) ?_
  refine y_iconst C dL_law_653 ?_
  refine y_iadd C dL_law_654 ?_
  refine y_sld C hX hbl hbA hw.2 (i' := (i + 1)) (zm_eq (by omega) (by omega)) (by omega) dL_law_655 ?_
  refine y_aload_n C dL_law_656 (lv_at hl 0 rfl) ?_
  refine y_iload_n C dL_law_657 (lv_at hl 3 rfl) ?_
  refine y_iconst C dL_law_658 ?_
  refine y_iadd C dL_law_659 ?_
  refine y_sld C hX hbl hbA hw.2 (i' := (i + 2)) (zm_eq (by omega) (by omega)) (by omega) dL_law_660 ?_
  refine y_aload_n C dL_law_661 (lv_at hl 0 rfl) ?_
  refine y_iload_n C dL_law_662 (lv_at hl 3 rfl) ?_
  refine y_iconst C dL_law_663 ?_
  refine y_iadd C dL_law_664 ?_
  refine y_sld C hX hbl hbA hw.2 (i' := (i + 3)) (zm_eq (by omega) (by omega)) (by omega) dL_law_665 ?_
  refine y_aload_n C dL_law_666 (lv_at hl 0 rfl) ?_
  refine y_iload_n C dL_law_667 (lv_at hl 3 rfl) ?_
  refine y_iconst C dL_law_668 ?_
  refine y_iadd C dL_law_669 ?_
  refine y_sld C hX hbl hbA hw.2 (i' := (i + 4)) (zm_eq (by omega) (by omega)) (by omega) dL_law_670 ?_
  refine y_aload_n C dL_law_671 (lv_at hl 0 rfl) ?_
  refine y_iload_n C dL_law_672 (lv_at hl 3 rfl) ?_
  refine y_iconst C dL_law_673 ?_
  refine y_iadd C dL_law_674 ?_
  refine y_sld C hX hbl hbA hw.2 (i' := (i + 5)) (zm_eq (by omega) (by omega)) (by omega) dL_law_675 ?_
  refine y_ciL (rest := [.int (zI x1.1)]) hw (y_rVL ⟨Nat.le_refl _, Nat.le_refl _⟩ C hw km_0 (by decide) rfl rfl (c_X8_takes hy1) mi_X8_takes wd_1229 wd_1230 wd_1231 rfl ⟨by decide, by decide⟩ hl rfl (Nat.le_of_ble_eq_true rfl) dL_law_676) (fun H locs hw => ?_)
  have hw : At D cA adX kX 151 (wl cA adM kM 31 y1.2) A s x1.2 H locs := ⟨Wd_MX hw.1, hw.2⟩
  refine y_icmp_eq (tgt := 1790) C rfl rfl dL_law_679 (by decide) (fun _ => hN x1.2 y1.2 H locs hI1 hw ls hl) (fun q => absurd he q)
set_option maxRecDepth 100000 in
set_option maxHeartbeats 4000000 in
theorem lc_12 {Inv : St → St → Prop} (C : Cx cL_law RL 4 (some .boolean) D cA adK adV A p s m args meth c) (hX : va_X b L xs s s.heap) (hbl : b < s.heap.size) (hbA : ¬ A b) (hL : L ≤ 5120) (hOK : ∀ a1 a2 a3 a4 a5 a6 a7 a8 : Int, i32 a1 → i32 a2 → i32 a3 → i32 a4 → i32 a5 → i32 a6 → i32 a7 → (a8 = 0 ∨ a8 = 1) → StepOK Inv (p_X7_bar a1 a2 a3 a4 a5 a6 a7 a8) (p_X8_bar a1 a2 a3 a4 a5 a6 a7 a8)) {i : Int} (hi : 0 ≤ i ∧ i + 10 ≤ (L : Int)) (hN : ∀ (σ τ : St) (H : Heap) (locs : List Loc), Inv σ τ → At D cA adX kX 151 (wl cA adM kM 31 τ) A s σ H locs → ∀ ls : Array Slot, lv_has ls 4 [(0, .ref b), (1, .ref (adX 0)), (2, .ref (adM 0)), (3, .int (zI i))] → W p l e room_1 s m args below meth c H locs 600000 7302250 Q (F0 m 1790 ls [])) {σ τ : St} (hI : Inv σ τ) {H : Heap} {locs : List Loc} (hw : At D cA adX kX 151 (wl cA adM kM 31 τ) A s σ H locs) {ls : Array Slot} (hl : lv_has ls 4 [(0, .ref b), (1, .ref (adX 0)), (2, .ref (adM 0)), (3, .int (zI i))]) : W p l e room_1 s m args below meth c H locs 600000 7302250 Q (F0 m 684 ls []) := by
  have hL' : (L : Int) ≤ 5120 := by omega
  obtain ⟨hi1, hi2⟩ := hi
  by_cases hf : zm (sv xs (i + 8)) = 0
  · obtain ⟨x1, y1, hx1, hy1, he, hI1⟩ := hOK (sv xs (i + 1)) (sv xs (i + 2)) (sv xs (i + 3)) (sv xs (i + 4)) (sv xs (i + 5)) (sv xs (i + 6)) (sv xs (i + 7)) 0 (sv_i32 _ _) (sv_i32 _ _) (sv_i32 _ _) (sv_i32 _ _) (sv_i32 _ _) (sv_i32 _ _) (sv_i32 _ _) (Or.inl rfl) σ τ hI
    refine y_aload_n C dL_law_684 (lv_at hl 1 rfl) ?_
    refine y_aload_n C dL_law_685 (lv_at hl 0 rfl) ?_
    refine y_iload_n C dL_law_686 (lv_at hl 3 rfl) ?_
    refine y_iconst C dL_law_687 ?_
    refine y_iadd C dL_law_688 ?_
    refine y_sld C hX hbl hbA hw.2 (i' := (i + 1)) (zm_eq (by omega) (by omega)) (by omega) dL_law_689 ?_
    refine y_aload_n C dL_law_690 (lv_at hl 0 rfl) ?_
    refine y_iload_n C dL_law_691 (lv_at hl 3 rfl) ?_
    refine y_iconst C dL_law_692 ?_
    refine y_iadd C dL_law_693 ?_
    refine y_sld C hX hbl hbA hw.2 (i' := (i + 2)) (zm_eq (by omega) (by omega)) (by omega) dL_law_694 ?_
    refine y_aload_n C dL_law_695 (lv_at hl 0 rfl) ?_
    refine y_iload_n C dL_law_696 (lv_at hl 3 rfl) ?_
    refine y_iconst C dL_law_697 ?_
    refine y_iadd C dL_law_698 ?_
    refine y_sld C hX hbl hbA hw.2 (i' := (i + 3)) (zm_eq (by omega) (by omega)) (by omega) dL_law_699 ?_
    refine y_aload_n C dL_law_700 (lv_at hl 0 rfl) ?_
    refine y_iload_n C dL_law_701 (lv_at hl 3 rfl) ?_
    refine y_iconst C dL_law_702 ?_
    refine y_iadd C dL_law_703 ?_
    refine y_sld C hX hbl hbA hw.2 (i' := (i + 4)) (zm_eq (by omega) (by omega)) (by omega) dL_law_704 ?_
    refine y_aload_n C dL_law_705 (lv_at hl 0 rfl) ?_
    refine y_iload_n C dL_law_706 (lv_at hl 3 rfl) ?_
    refine y_iconst C dL_law_707 ?_
    refine y_iadd C dL_law_708 ?_
    refine y_sld C hX hbl hbA hw.2 (i' := (i + 5)) (zm_eq (by omega) (by omega)) (by omega) dL_law_709 ?_
    refine y_aload_n C dL_law_710 (lv_at hl 0 rfl) ?_
    refine y_iload_n C dL_law_711 (lv_at hl 3 rfl) ?_
    refine y_bipush C dL_law_712 (by decide) ?_
    refine y_iadd C dL_law_714 ?_
    refine y_sld C hX hbl hbA hw.2 (i' := (i + 6)) (zm_eq (by omega) (by omega)) (by omega) dL_law_715 ?_
    refine y_aload_n C dL_law_716 (lv_at hl 0 rfl) ?_
    refine y_iload_n C dL_law_717 (lv_at hl 3 rfl) ?_
    refine y_bipush C dL_law_718 (by decide) ?_
    refine y_iadd C dL_law_720 ?_
    refine y_sld C hX hbl hbA hw.2 (i' := (i + 7)) (zm_eq (by omega) (by omega)) (by omega) dL_law_721 ?_
    refine y_aload_n C dL_law_722 (lv_at hl 0 rfl) ?_
    refine y_iload_n C dL_law_723 (lv_at hl 3 rfl) ?_
    refine y_bipush C dL_law_724 (by decide) ?_
    refine y_iadd C dL_law_726 ?_
    refine y_sld C hX hbl hbA hw.2 (i' := (i + 8)) (zm_eq (by omega) (by omega)) (by omega) dL_law_727 ?_
    refine y_if_eq (tgt := 735) C rfl dL_law_728 (by decide) (fun _ => ?_) (fun q => absurd hf q)
    refine y_iconst C dL_law_735 ?_
    refine y_ciL (rest := []) hw (y_rVL ⟨Nat.le_refl _, Nat.le_refl _⟩ C hw kx_0 (by decide) rfl rfl (c_X7_bar hx1) mi_X7_bar wd_655 wd_656 wd_657 rfl ⟨by decide, by decide⟩ hl rfl (Nat.le_of_ble_eq_true rfl) dL_law_736) (fun H locs hw => ?_)
    have hw : At D cA adM kM 31 (wl cA adX kX 151 x1.2) A s τ H locs := ⟨Wd_XM hw.1, hw.2⟩
    refine y_aload_n C dL_law_739 (lv_at hl 2 rfl) ?_
    refine y_aload_n C dL_law_740 (lv_at hl 0 rfl) ?_
    refine y_iload_n C dL_law_741 (lv_at hl 3 rfl) ?_
    refine y_iconst C dL_law_742 ?_
    refine y_iadd C dL_law_743 ?_
    refine y_sld C hX hbl hbA hw.2 (i' := (i + 1)) (zm_eq (by omega) (by omega)) (by omega) dL_law_744 ?_
    refine y_aload_n C dL_law_745 (lv_at hl 0 rfl) ?_
    refine y_iload_n C dL_law_746 (lv_at hl 3 rfl) ?_
    refine y_iconst C dL_law_747 ?_
    refine y_iadd C dL_law_748 ?_
    refine y_sld C hX hbl hbA hw.2 (i' := (i + 2)) (zm_eq (by omega) (by omega)) (by omega) dL_law_749 ?_
    refine y_aload_n C dL_law_750 (lv_at hl 0 rfl) ?_
    refine y_iload_n C dL_law_751 (lv_at hl 3 rfl) ?_
    refine y_iconst C dL_law_752 ?_
    refine y_iadd C dL_law_753 ?_
    refine y_sld C hX hbl hbA hw.2 (i' := (i + 3)) (zm_eq (by omega) (by omega)) (by omega) dL_law_754 ?_
    refine y_aload_n C dL_law_755 (lv_at hl 0 rfl) ?_
    refine y_iload_n C dL_law_756 (lv_at hl 3 rfl) ?_
    refine y_iconst C dL_law_757 ?_
    refine y_iadd C dL_law_758 ?_
    refine y_sld C hX hbl hbA hw.2 (i' := (i + 4)) (zm_eq (by omega) (by omega)) (by omega) dL_law_759 ?_
    refine y_aload_n C dL_law_760 (lv_at hl 0 rfl) ?_
    refine y_iload_n C dL_law_761 (lv_at hl 3 rfl) ?_
    refine y_iconst C dL_law_762 ?_
    refine y_iadd C dL_law_763 ?_
    refine y_sld C hX hbl hbA hw.2 (i' := (i + 5)) (zm_eq (by omega) (by omega)) (by omega) dL_law_764 ?_
    refine y_aload_n C dL_law_765 (lv_at hl 0 rfl) ?_
    refine y_iload_n C dL_law_766 (lv_at hl 3 rfl) ?_
    refine y_bipush C dL_law_767 (by decide) ?_
    refine y_iadd C dL_law_769 ?_
    refine y_sld C hX hbl hbA hw.2 (i' := (i + 6)) (zm_eq (by omega) (by omega)) (by omega) dL_law_770 ?_
    refine y_aload_n C dL_law_771 (lv_at hl 0 rfl) ?_
    refine y_iload_n C dL_law_772 (lv_at hl 3 rfl) ?_
    refine y_bipush C dL_law_773 (by decide) ?_
    refine y_iadd C dL_law_775 ?_
    refine y_sld C hX hbl hbA hw.2 (i' := (i + 7)) (zm_eq (by omega) (by omega)) (by omega) dL_law_776 ?_
    refine y_aload_n C dL_law_777 (lv_at hl 0 rfl) ?_
    refine y_iload_n C dL_law_778 (lv_at hl 3 rfl) ?_
    refine y_bipush C dL_law_779 (by decide) ?_
    refine y_iadd C dL_law_781 ?_
    refine y_sld C hX hbl hbA hw.2 (i' := (i + 8)) (zm_eq (by omega) (by omega)) (by omega) dL_law_782 ?_
    refine y_if_eq (tgt := 790) C rfl dL_law_783 (by decide) (fun _ => ?_) (fun q => absurd hf q)
    refine y_iconst C dL_law_790 ?_
    refine y_ciL (rest := [.int (zI x1.1)]) hw (y_rVL ⟨Nat.le_refl _, Nat.le_refl _⟩ C hw km_0 (by decide) rfl rfl (c_X8_bar hy1) mi_X8_bar wd_1233 wd_1234 wd_1235 rfl ⟨by decide, by decide⟩ hl rfl (Nat.le_of_ble_eq_true rfl) dL_law_791) (fun H locs hw => ?_)
    have hw : At D cA adX kX 151 (wl cA adM kM 31 y1.2) A s x1.2 H locs := ⟨Wd_MX hw.1, hw.2⟩
    refine y_icmp_eq (tgt := 1790) C rfl rfl dL_law_794 (by decide) (fun _ => hN x1.2 y1.2 H locs hI1 hw ls hl) (fun q => absurd he q)
  · obtain ⟨x1, y1, hx1, hy1, he, hI1⟩ := hOK (sv xs (i + 1)) (sv xs (i + 2)) (sv xs (i + 3)) (sv xs (i + 4)) (sv xs (i + 5)) (sv xs (i + 6)) (sv xs (i + 7)) 1 (sv_i32 _ _) (sv_i32 _ _) (sv_i32 _ _) (sv_i32 _ _) (sv_i32 _ _) (sv_i32 _ _) (sv_i32 _ _) (Or.inr rfl) σ τ hI
    refine y_aload_n C dL_law_684 (lv_at hl 1 rfl) ?_
    refine y_aload_n C dL_law_685 (lv_at hl 0 rfl) ?_
    refine y_iload_n C dL_law_686 (lv_at hl 3 rfl) ?_
    refine y_iconst C dL_law_687 ?_
    refine y_iadd C dL_law_688 ?_
    refine y_sld C hX hbl hbA hw.2 (i' := (i + 1)) (zm_eq (by omega) (by omega)) (by omega) dL_law_689 ?_
    refine y_aload_n C dL_law_690 (lv_at hl 0 rfl) ?_
    refine y_iload_n C dL_law_691 (lv_at hl 3 rfl) ?_
    refine y_iconst C dL_law_692 ?_
    refine y_iadd C dL_law_693 ?_
    refine y_sld C hX hbl hbA hw.2 (i' := (i + 2)) (zm_eq (by omega) (by omega)) (by omega) dL_law_694 ?_
    refine y_aload_n C dL_law_695 (lv_at hl 0 rfl) ?_
    refine y_iload_n C dL_law_696 (lv_at hl 3 rfl) ?_
    refine y_iconst C dL_law_697 ?_
    refine y_iadd C dL_law_698 ?_
    refine y_sld C hX hbl hbA hw.2 (i' := (i + 3)) (zm_eq (by omega) (by omega)) (by omega) dL_law_699 ?_
    refine y_aload_n C dL_law_700 (lv_at hl 0 rfl) ?_
    refine y_iload_n C dL_law_701 (lv_at hl 3 rfl) ?_
    refine y_iconst C dL_law_702 ?_
    refine y_iadd C dL_law_703 ?_
    refine y_sld C hX hbl hbA hw.2 (i' := (i + 4)) (zm_eq (by omega) (by omega)) (by omega) dL_law_704 ?_
    refine y_aload_n C dL_law_705 (lv_at hl 0 rfl) ?_
    refine y_iload_n C dL_law_706 (lv_at hl 3 rfl) ?_
    refine y_iconst C dL_law_707 ?_
    refine y_iadd C dL_law_708 ?_
    refine y_sld C hX hbl hbA hw.2 (i' := (i + 5)) (zm_eq (by omega) (by omega)) (by omega) dL_law_709 ?_
    refine y_aload_n C dL_law_710 (lv_at hl 0 rfl) ?_
    refine y_iload_n C dL_law_711 (lv_at hl 3 rfl) ?_
    refine y_bipush C dL_law_712 (by decide) ?_
    refine y_iadd C dL_law_714 ?_
    refine y_sld C hX hbl hbA hw.2 (i' := (i + 6)) (zm_eq (by omega) (by omega)) (by omega) dL_law_715 ?_
    refine y_aload_n C dL_law_716 (lv_at hl 0 rfl) ?_
    refine y_iload_n C dL_law_717 (lv_at hl 3 rfl) ?_
    refine y_bipush C dL_law_718 (by decide) ?_
    refine y_iadd C dL_law_720 ?_
    refine y_sld C hX hbl hbA hw.2 (i' := (i + 7)) (zm_eq (by omega) (by omega)) (by omega) dL_law_721 ?_
    refine y_aload_n C dL_law_722 (lv_at hl 0 rfl) ?_
    refine y_iload_n C dL_law_723 (lv_at hl 3 rfl) ?_
    refine y_bipush C dL_law_724 (by decide) ?_
    refine y_iadd C dL_law_726 ?_
    refine y_sld C hX hbl hbA hw.2 (i' := (i + 8)) (zm_eq (by omega) (by omega)) (by omega) dL_law_727 ?_
    refine y_if_eq (tgt := 735) C rfl dL_law_728 (by decide) (fun q => absurd q hf) (fun _ => ?_)
    refine y_iconst C dL_law_731 ?_
    refine y_goto (tgt := 736) C dL_law_732 (by decide) ?_
    refine y_ciL (rest := []) hw (y_rVL ⟨Nat.le_refl _, Nat.le_refl _⟩ C hw kx_0 (by decide) rfl rfl (c_X7_bar hx1) mi_X7_bar wd_655 wd_656 wd_657 rfl ⟨by decide, by decide⟩ hl rfl (Nat.le_of_ble_eq_true rfl) dL_law_736) (fun H locs hw => ?_)
    have hw : At D cA adM kM 31 (wl cA adX kX 151 x1.2) A s τ H locs := ⟨Wd_XM hw.1, hw.2⟩
    refine y_aload_n C dL_law_739 (lv_at hl 2 rfl) ?_
    refine y_aload_n C dL_law_740 (lv_at hl 0 rfl) ?_
    refine y_iload_n C dL_law_741 (lv_at hl 3 rfl) ?_
    refine y_iconst C dL_law_742 ?_
    refine y_iadd C dL_law_743 ?_
    refine y_sld C hX hbl hbA hw.2 (i' := (i + 1)) (zm_eq (by omega) (by omega)) (by omega) dL_law_744 ?_
    refine y_aload_n C dL_law_745 (lv_at hl 0 rfl) ?_
    refine y_iload_n C dL_law_746 (lv_at hl 3 rfl) ?_
    refine y_iconst C dL_law_747 ?_
    refine y_iadd C dL_law_748 ?_
    refine y_sld C hX hbl hbA hw.2 (i' := (i + 2)) (zm_eq (by omega) (by omega)) (by omega) dL_law_749 ?_
    refine y_aload_n C dL_law_750 (lv_at hl 0 rfl) ?_
    refine y_iload_n C dL_law_751 (lv_at hl 3 rfl) ?_
    refine y_iconst C dL_law_752 ?_
    refine y_iadd C dL_law_753 ?_
    refine y_sld C hX hbl hbA hw.2 (i' := (i + 3)) (zm_eq (by omega) (by omega)) (by omega) dL_law_754 ?_
    refine y_aload_n C dL_law_755 (lv_at hl 0 rfl) ?_
    refine y_iload_n C dL_law_756 (lv_at hl 3 rfl) ?_
    refine y_iconst C dL_law_757 ?_
    refine y_iadd C dL_law_758 ?_
    refine y_sld C hX hbl hbA hw.2 (i' := (i + 4)) (zm_eq (by omega) (by omega)) (by omega) dL_law_759 ?_
    refine y_aload_n C dL_law_760 (lv_at hl 0 rfl) ?_
    refine y_iload_n C dL_law_761 (lv_at hl 3 rfl) ?_
    refine y_iconst C dL_law_762 ?_
    refine y_iadd C dL_law_763 ?_
    refine y_sld C hX hbl hbA hw.2 (i' := (i + 5)) (zm_eq (by omega) (by omega)) (by omega) dL_law_764 ?_
    refine y_aload_n C dL_law_765 (lv_at hl 0 rfl) ?_
    refine y_iload_n C dL_law_766 (lv_at hl 3 rfl) ?_
    refine y_bipush C dL_law_767 (by decide) ?_
    refine y_iadd C dL_law_769 ?_
    refine y_sld C hX hbl hbA hw.2 (i' := (i + 6)) (zm_eq (by omega) (by omega)) (by omega) dL_law_770 ?_
    refine y_aload_n C dL_law_771 (lv_at hl 0 rfl) ?_
    refine y_iload_n C dL_law_772 (lv_at hl 3 rfl) ?_
    refine y_bipush C dL_law_773 (by decide) ?_
    refine y_iadd C dL_law_775 ?_
    refine y_sld C hX hbl hbA hw.2 (i' := (i + 7)) (zm_eq (by omega) (by omega)) (by omega) dL_law_776 ?_
    refine y_aload_n C dL_law_777 (lv_at hl 0 rfl) ?_
    refine y_iload_n C dL_law_778 (lv_at hl 3 rfl) ?_
    refine y_bipush C dL_law_779 (by decide) ?_
    refine y_iadd C dL_law_781 ?_
    refine y_sld C hX hbl hbA hw.2 (i' := (i + 8)) (zm_eq (by omega) (by omega)) (by omega) dL_law_782 ?_
    refine y_if_eq (tgt := 790) C rfl dL_law_783 (by decide) (fun q => absurd q hf) (fun _ => ?_)
    refine y_iconst C dL_law_786 ?_
    refine y_goto (tgt := 791) C dL_law_787 (by decide) ?_
    refine y_ciL (rest := [.int (zI x1.1)]) hw (y_rVL ⟨Nat.le_refl _, Nat.le_refl _⟩ C hw km_0 (by decide) rfl rfl (c_X8_bar hy1) mi_X8_bar wd_1233 wd_1234 wd_1235 rfl ⟨by decide, by decide⟩ hl rfl (Nat.le_of_ble_eq_true rfl) dL_law_791) (fun H locs hw => ?_)
    have hw : At D cA adX kX 151 (wl cA adM kM 31 y1.2) A s x1.2 H locs := ⟨Wd_MX hw.1, hw.2⟩
    refine y_icmp_eq (tgt := 1790) C rfl rfl dL_law_794 (by decide) (fun _ => hN x1.2 y1.2 H locs hI1 hw ls hl) (fun q => absurd he q)
set_option maxRecDepth 100000 in
set_option maxHeartbeats 4000000 in
theorem lc_13 {Inv : St → St → Prop} (C : Cx cL_law RL 4 (some .boolean) D cA adK adV A p s m args meth c) (hX : va_X b L xs s s.heap) (hbl : b < s.heap.size) (hbA : ¬ A b) (hL : L ≤ 5120) (hOK : ∀ a1 a2 a3 a4 a5 a6 : Int, i32 a1 → i32 a2 → i32 a3 → i32 a4 → i32 a5 → i32 a6 → StepOK Inv (p_X7_fixed a1 a2 a3 a4 a5 a6) (p_X8_fixed a1 a2 a3 a4 a5 a6)) {i : Int} (hi : 0 ≤ i ∧ i + 10 ≤ (L : Int)) (hN : ∀ (σ τ : St) (H : Heap) (locs : List Loc), Inv σ τ → At D cA adX kX 151 (wl cA adM kM 31 τ) A s σ H locs → ∀ ls : Array Slot, lv_has ls 4 [(0, .ref b), (1, .ref (adX 0)), (2, .ref (adM 0)), (3, .int (zI i))] → W p l e room_1 s m args below meth c H locs 600000 7302250 Q (F0 m 1790 ls [])) {σ τ : St} (hI : Inv σ τ) {H : Heap} {locs : List Loc} (hw : At D cA adX kX 151 (wl cA adM kM 31 τ) A s σ H locs) {ls : Array Slot} (hl : lv_has ls 4 [(0, .ref b), (1, .ref (adX 0)), (2, .ref (adM 0)), (3, .int (zI i))]) : W p l e room_1 s m args below meth c H locs 600000 7302250 Q (F0 m 799 ls []) := by
  have hL' : (L : Int) ≤ 5120 := by omega
  obtain ⟨hi1, hi2⟩ := hi
  obtain ⟨x1, y1, hx1, hy1, he, hI1⟩ := hOK (sv xs (i + 1)) (sv xs (i + 2)) (sv xs (i + 3)) (sv xs (i + 4)) (sv xs (i + 5)) (sv xs (i + 6)) (sv_i32 _ _) (sv_i32 _ _) (sv_i32 _ _) (sv_i32 _ _) (sv_i32 _ _) (sv_i32 _ _) σ τ hI
  refine y_aload_n C dL_law_799 (lv_at hl 1 rfl) ?_
  refine y_aload_n C dL_law_800 (lv_at hl 0 rfl) ?_
  refine y_iload_n C dL_law_801 (lv_at hl 3 rfl) ?_
  refine y_iconst C dL_law_802 ?_
  refine y_iadd C dL_law_803 ?_
  refine y_sld C hX hbl hbA hw.2 (i' := (i + 1)) (zm_eq (by omega) (by omega)) (by omega) dL_law_804 ?_
  refine y_aload_n C dL_law_805 (lv_at hl 0 rfl) ?_
  refine y_iload_n C dL_law_806 (lv_at hl 3 rfl) ?_
  refine y_iconst C dL_law_807 ?_
  refine y_iadd C dL_law_808 ?_
  refine y_sld C hX hbl hbA hw.2 (i' := (i + 2)) (zm_eq (by omega) (by omega)) (by omega) dL_law_809 ?_
  refine y_aload_n C dL_law_810 (lv_at hl 0 rfl) ?_
  refine y_iload_n C dL_law_811 (lv_at hl 3 rfl) ?_
  refine y_iconst C dL_law_812 ?_
  refine y_iadd C dL_law_813 ?_
  refine y_sld C hX hbl hbA hw.2 (i' := (i + 3)) (zm_eq (by omega) (by omega)) (by omega) dL_law_814 ?_
  refine y_aload_n C dL_law_815 (lv_at hl 0 rfl) ?_
  refine y_iload_n C dL_law_816 (lv_at hl 3 rfl) ?_
  refine y_iconst C dL_law_817 ?_
  refine y_iadd C dL_law_818 ?_
  refine y_sld C hX hbl hbA hw.2 (i' := (i + 4)) (zm_eq (by omega) (by omega)) (by omega) dL_law_819 ?_
  refine y_aload_n C dL_law_820 (lv_at hl 0 rfl) ?_
  refine y_iload_n C dL_law_821 (lv_at hl 3 rfl) ?_
  refine y_iconst C dL_law_822 ?_
  refine y_iadd C dL_law_823 ?_
  refine y_sld C hX hbl hbA hw.2 (i' := (i + 5)) (zm_eq (by omega) (by omega)) (by omega) dL_law_824 ?_
  refine y_aload_n C dL_law_825 (lv_at hl 0 rfl) ?_
  refine y_iload_n C dL_law_826 (lv_at hl 3 rfl) ?_
  refine y_bipush C dL_law_827 (by decide) ?_
  refine y_iadd C dL_law_829 ?_
  refine y_sld C hX hbl hbA hw.2 (i' := (i + 6)) (zm_eq (by omega) (by omega)) (by omega) dL_law_830 ?_
  refine y_ciL (rest := []) hw (y_rVL ⟨Nat.le_refl _, Nat.le_refl _⟩ C hw kx_0 (by decide) rfl rfl (c_X7_fixed hx1) mi_X7_fixed wd_663 wd_664 wd_665 rfl ⟨by decide, by decide⟩ hl rfl (Nat.le_of_ble_eq_true rfl) dL_law_831) (fun H locs hw => ?_)
  have hw : At D cA adM kM 31 (wl cA adX kX 151 x1.2) A s τ H locs := ⟨Wd_XM hw.1, hw.2⟩
  refine y_aload_n C dL_law_834 (lv_at hl 2 rfl) ?_
  refine y_aload_n C dL_law_835 (lv_at hl 0 rfl) ?_
  refine y_iload_n C dL_law_836 (lv_at hl 3 rfl) ?_
  refine y_iconst C dL_law_837 ?_
  refine y_iadd C dL_law_838 ?_
  refine y_sld C hX hbl hbA hw.2 (i' := (i + 1)) (zm_eq (by omega) (by omega)) (by omega) dL_law_839 ?_
  refine y_aload_n C dL_law_840 (lv_at hl 0 rfl) ?_
  refine y_iload_n C dL_law_841 (lv_at hl 3 rfl) ?_
  refine y_iconst C dL_law_842 ?_
  refine y_iadd C dL_law_843 ?_
  refine y_sld C hX hbl hbA hw.2 (i' := (i + 2)) (zm_eq (by omega) (by omega)) (by omega) dL_law_844 ?_
  refine y_aload_n C dL_law_845 (lv_at hl 0 rfl) ?_
  refine y_iload_n C dL_law_846 (lv_at hl 3 rfl) ?_
  refine y_iconst C dL_law_847 ?_
  refine y_iadd C dL_law_848 ?_
  refine y_sld C hX hbl hbA hw.2 (i' := (i + 3)) (zm_eq (by omega) (by omega)) (by omega) dL_law_849 ?_
  refine y_aload_n C dL_law_850 (lv_at hl 0 rfl) ?_
  refine y_iload_n C dL_law_851 (lv_at hl 3 rfl) ?_
  refine y_iconst C dL_law_852 ?_
  refine y_iadd C dL_law_853 ?_
  refine y_sld C hX hbl hbA hw.2 (i' := (i + 4)) (zm_eq (by omega) (by omega)) (by omega) dL_law_854 ?_
  refine y_aload_n C dL_law_855 (lv_at hl 0 rfl) ?_
  refine y_iload_n C dL_law_856 (lv_at hl 3 rfl) ?_
  refine y_iconst C dL_law_857 ?_
  refine y_iadd C dL_law_858 ?_
  refine y_sld C hX hbl hbA hw.2 (i' := (i + 5)) (zm_eq (by omega) (by omega)) (by omega) dL_law_859 ?_
  refine y_aload_n C dL_law_860 (lv_at hl 0 rfl) ?_
  refine y_iload_n C dL_law_861 (lv_at hl 3 rfl) ?_
  refine y_bipush C dL_law_862 (by decide) ?_
  refine y_iadd C dL_law_864 ?_
  refine y_sld C hX hbl hbA hw.2 (i' := (i + 6)) (zm_eq (by omega) (by omega)) (by omega) dL_law_865 ?_
  refine y_ciL (rest := [.int (zI x1.1)]) hw (y_rVL ⟨Nat.le_refl _, Nat.le_refl _⟩ C hw km_0 (by decide) rfl rfl (c_X8_fixed hy1) mi_X8_fixed wd_1238 wd_1239 wd_1240 rfl ⟨by decide, by decide⟩ hl rfl (Nat.le_of_ble_eq_true rfl) dL_law_866) (fun H locs hw => ?_)
  have hw : At D cA adX kX 151 (wl cA adM kM 31 y1.2) A s x1.2 H locs := ⟨Wd_MX hw.1, hw.2⟩
  refine y_icmp_eq (tgt := 1790) C rfl rfl dL_law_869 (by decide) (fun _ => hN x1.2 y1.2 H locs hI1 hw ls hl) (fun q => absurd he q)
set_option maxRecDepth 100000 in
set_option maxHeartbeats 4000000 in
theorem lc_14 {Inv : St → St → Prop} (C : Cx cL_law RL 4 (some .boolean) D cA adK adV A p s m args meth c) (hX : va_X b L xs s s.heap) (hbl : b < s.heap.size) (hbA : ¬ A b) (hL : L ≤ 5120) (hOK : ∀ a1 a2 a3 : Int, i32 a1 → i32 a2 → (a3 = 0 ∨ a3 = 1) → StepOK Inv (p_X7_scrape a1 a2 a3) (p_X8_scrape a1 a2 a3)) {i : Int} (hi : 0 ≤ i ∧ i + 10 ≤ (L : Int)) (hN : ∀ (σ τ : St) (H : Heap) (locs : List Loc), Inv σ τ → At D cA adX kX 151 (wl cA adM kM 31 τ) A s σ H locs → ∀ ls : Array Slot, lv_has ls 4 [(0, .ref b), (1, .ref (adX 0)), (2, .ref (adM 0)), (3, .int (zI i))] → W p l e room_1 s m args below meth c H locs 600000 7302250 Q (F0 m 1790 ls [])) {σ τ : St} (hI : Inv σ τ) {H : Heap} {locs : List Loc} (hw : At D cA adX kX 151 (wl cA adM kM 31 τ) A s σ H locs) {ls : Array Slot} (hl : lv_has ls 4 [(0, .ref b), (1, .ref (adX 0)), (2, .ref (adM 0)), (3, .int (zI i))]) : W p l e room_1 s m args below meth c H locs 600000 7302250 Q (F0 m 874 ls []) := by
  have hL' : (L : Int) ≤ 5120 := by omega
  obtain ⟨hi1, hi2⟩ := hi
  by_cases hf : zm (sv xs (i + 3)) = 0
  · obtain ⟨x1, y1, hx1, hy1, he, hI1⟩ := hOK (sv xs (i + 1)) (sv xs (i + 2)) 0 (sv_i32 _ _) (sv_i32 _ _) (Or.inl rfl) σ τ hI
    refine y_aload_n C dL_law_874 (lv_at hl 1 rfl) ?_
    refine y_aload_n C dL_law_875 (lv_at hl 0 rfl) ?_
    refine y_iload_n C dL_law_876 (lv_at hl 3 rfl) ?_
    refine y_iconst C dL_law_877 ?_
    refine y_iadd C dL_law_878 ?_
    refine y_sld C hX hbl hbA hw.2 (i' := (i + 1)) (zm_eq (by omega) (by omega)) (by omega) dL_law_879 ?_
    refine y_aload_n C dL_law_880 (lv_at hl 0 rfl) ?_
    refine y_iload_n C dL_law_881 (lv_at hl 3 rfl) ?_
    refine y_iconst C dL_law_882 ?_
    refine y_iadd C dL_law_883 ?_
    refine y_sld C hX hbl hbA hw.2 (i' := (i + 2)) (zm_eq (by omega) (by omega)) (by omega) dL_law_884 ?_
    refine y_aload_n C dL_law_885 (lv_at hl 0 rfl) ?_
    refine y_iload_n C dL_law_886 (lv_at hl 3 rfl) ?_
    refine y_iconst C dL_law_887 ?_
    refine y_iadd C dL_law_888 ?_
    refine y_sld C hX hbl hbA hw.2 (i' := (i + 3)) (zm_eq (by omega) (by omega)) (by omega) dL_law_889 ?_
    refine y_if_eq (tgt := 897) C rfl dL_law_890 (by decide) (fun _ => ?_) (fun q => absurd hf q)
    refine y_iconst C dL_law_897 ?_
    refine y_ciL (rest := []) hw (y_rVL ⟨Nat.le_refl _, Nat.le_refl _⟩ C hw kx_0 (by decide) rfl rfl (c_X7_scrape hx1) mi_X7_scrape wd_675 wd_676 wd_677 rfl ⟨by decide, by decide⟩ hl rfl (Nat.le_of_ble_eq_true rfl) dL_law_898) (fun H locs hw => ?_)
    have hw : At D cA adM kM 31 (wl cA adX kX 151 x1.2) A s τ H locs := ⟨Wd_XM hw.1, hw.2⟩
    refine y_aload_n C dL_law_901 (lv_at hl 2 rfl) ?_
    refine y_aload_n C dL_law_902 (lv_at hl 0 rfl) ?_
    refine y_iload_n C dL_law_903 (lv_at hl 3 rfl) ?_
    refine y_iconst C dL_law_904 ?_
    refine y_iadd C dL_law_905 ?_
    refine y_sld C hX hbl hbA hw.2 (i' := (i + 1)) (zm_eq (by omega) (by omega)) (by omega) dL_law_906 ?_
    refine y_aload_n C dL_law_907 (lv_at hl 0 rfl) ?_
    refine y_iload_n C dL_law_908 (lv_at hl 3 rfl) ?_
    refine y_iconst C dL_law_909 ?_
    refine y_iadd C dL_law_910 ?_
    refine y_sld C hX hbl hbA hw.2 (i' := (i + 2)) (zm_eq (by omega) (by omega)) (by omega) dL_law_911 ?_
    refine y_aload_n C dL_law_912 (lv_at hl 0 rfl) ?_
    refine y_iload_n C dL_law_913 (lv_at hl 3 rfl) ?_
    refine y_iconst C dL_law_914 ?_
    refine y_iadd C dL_law_915 ?_
    refine y_sld C hX hbl hbA hw.2 (i' := (i + 3)) (zm_eq (by omega) (by omega)) (by omega) dL_law_916 ?_
    refine y_if_eq (tgt := 924) C rfl dL_law_917 (by decide) (fun _ => ?_) (fun q => absurd hf q)
    refine y_iconst C dL_law_924 ?_
    refine y_ciL (rest := [.int (zI x1.1)]) hw (y_rVL ⟨Nat.le_refl _, Nat.le_refl _⟩ C hw km_0 (by decide) rfl rfl (c_X8_scrape hy1) mi_X8_scrape wd_1246 wd_1247 wd_1248 rfl ⟨by decide, by decide⟩ hl rfl (Nat.le_of_ble_eq_true rfl) dL_law_925) (fun H locs hw => ?_)
    have hw : At D cA adX kX 151 (wl cA adM kM 31 y1.2) A s x1.2 H locs := ⟨Wd_MX hw.1, hw.2⟩
    refine y_icmp_eq (tgt := 1790) C rfl rfl dL_law_928 (by decide) (fun _ => hN x1.2 y1.2 H locs hI1 hw ls hl) (fun q => absurd he q)
  · obtain ⟨x1, y1, hx1, hy1, he, hI1⟩ := hOK (sv xs (i + 1)) (sv xs (i + 2)) 1 (sv_i32 _ _) (sv_i32 _ _) (Or.inr rfl) σ τ hI
    refine y_aload_n C dL_law_874 (lv_at hl 1 rfl) ?_
    refine y_aload_n C dL_law_875 (lv_at hl 0 rfl) ?_
    refine y_iload_n C dL_law_876 (lv_at hl 3 rfl) ?_
    refine y_iconst C dL_law_877 ?_
    refine y_iadd C dL_law_878 ?_
    refine y_sld C hX hbl hbA hw.2 (i' := (i + 1)) (zm_eq (by omega) (by omega)) (by omega) dL_law_879 ?_
    refine y_aload_n C dL_law_880 (lv_at hl 0 rfl) ?_
    refine y_iload_n C dL_law_881 (lv_at hl 3 rfl) ?_
    refine y_iconst C dL_law_882 ?_
    refine y_iadd C dL_law_883 ?_
    refine y_sld C hX hbl hbA hw.2 (i' := (i + 2)) (zm_eq (by omega) (by omega)) (by omega) dL_law_884 ?_
    refine y_aload_n C dL_law_885 (lv_at hl 0 rfl) ?_
    refine y_iload_n C dL_law_886 (lv_at hl 3 rfl) ?_
    refine y_iconst C dL_law_887 ?_
    refine y_iadd C dL_law_888 ?_
    refine y_sld C hX hbl hbA hw.2 (i' := (i + 3)) (zm_eq (by omega) (by omega)) (by omega) dL_law_889 ?_
    refine y_if_eq (tgt := 897) C rfl dL_law_890 (by decide) (fun q => absurd q hf) (fun _ => ?_)
    refine y_iconst C dL_law_893 ?_
    refine y_goto (tgt := 898) C dL_law_894 (by decide) ?_
    refine y_ciL (rest := []) hw (y_rVL ⟨Nat.le_refl _, Nat.le_refl _⟩ C hw kx_0 (by decide) rfl rfl (c_X7_scrape hx1) mi_X7_scrape wd_675 wd_676 wd_677 rfl ⟨by decide, by decide⟩ hl rfl (Nat.le_of_ble_eq_true rfl) dL_law_898) (fun H locs hw => ?_)
    have hw : At D cA adM kM 31 (wl cA adX kX 151 x1.2) A s τ H locs := ⟨Wd_XM hw.1, hw.2⟩
    refine y_aload_n C dL_law_901 (lv_at hl 2 rfl) ?_
    refine y_aload_n C dL_law_902 (lv_at hl 0 rfl) ?_
    refine y_iload_n C dL_law_903 (lv_at hl 3 rfl) ?_
    refine y_iconst C dL_law_904 ?_
    refine y_iadd C dL_law_905 ?_
    refine y_sld C hX hbl hbA hw.2 (i' := (i + 1)) (zm_eq (by omega) (by omega)) (by omega) dL_law_906 ?_
    refine y_aload_n C dL_law_907 (lv_at hl 0 rfl) ?_
    refine y_iload_n C dL_law_908 (lv_at hl 3 rfl) ?_
    refine y_iconst C dL_law_909 ?_
    refine y_iadd C dL_law_910 ?_
    refine y_sld C hX hbl hbA hw.2 (i' := (i + 2)) (zm_eq (by omega) (by omega)) (by omega) dL_law_911 ?_
    refine y_aload_n C dL_law_912 (lv_at hl 0 rfl) ?_
    refine y_iload_n C dL_law_913 (lv_at hl 3 rfl) ?_
    refine y_iconst C dL_law_914 ?_
    refine y_iadd C dL_law_915 ?_
    refine y_sld C hX hbl hbA hw.2 (i' := (i + 3)) (zm_eq (by omega) (by omega)) (by omega) dL_law_916 ?_
    refine y_if_eq (tgt := 924) C rfl dL_law_917 (by decide) (fun q => absurd q hf) (fun _ => ?_)
    refine y_iconst C dL_law_920 ?_
    refine y_goto (tgt := 925) C dL_law_921 (by decide) ?_
    refine y_ciL (rest := [.int (zI x1.1)]) hw (y_rVL ⟨Nat.le_refl _, Nat.le_refl _⟩ C hw km_0 (by decide) rfl rfl (c_X8_scrape hy1) mi_X8_scrape wd_1246 wd_1247 wd_1248 rfl ⟨by decide, by decide⟩ hl rfl (Nat.le_of_ble_eq_true rfl) dL_law_925) (fun H locs hw => ?_)
    have hw : At D cA adX kX 151 (wl cA adM kM 31 y1.2) A s x1.2 H locs := ⟨Wd_MX hw.1, hw.2⟩
    refine y_icmp_eq (tgt := 1790) C rfl rfl dL_law_928 (by decide) (fun _ => hN x1.2 y1.2 H locs hI1 hw ls hl) (fun q => absurd he q)
set_option maxRecDepth 100000 in
set_option maxHeartbeats 4000000 in
theorem lc_15 {Inv : St → St → Prop} (C : Cx cL_law RL 4 (some .boolean) D cA adK adV A p s m args meth c) (hX : va_X b L xs s s.heap) (hbl : b < s.heap.size) (hbA : ¬ A b) (hL : L ≤ 5120) (hOK : ∀ a1 a2 a3 a4 a5 : Int, i32 a1 → i32 a2 → i32 a3 → i32 a4 → i32 a5 → StepOK Inv (p_X7_judge a1 a2 a3 a4 a5) (p_X8_judge a1 a2 a3 a4 a5)) {i : Int} (hi : 0 ≤ i ∧ i + 10 ≤ (L : Int)) (hN : ∀ (σ τ : St) (H : Heap) (locs : List Loc), Inv σ τ → At D cA adX kX 151 (wl cA adM kM 31 τ) A s σ H locs → ∀ ls : Array Slot, lv_has ls 4 [(0, .ref b), (1, .ref (adX 0)), (2, .ref (adM 0)), (3, .int (zI i))] → W p l e room_1 s m args below meth c H locs 600000 7302250 Q (F0 m 1790 ls [])) {σ τ : St} (hI : Inv σ τ) {H : Heap} {locs : List Loc} (hw : At D cA adX kX 151 (wl cA adM kM 31 τ) A s σ H locs) {ls : Array Slot} (hl : lv_has ls 4 [(0, .ref b), (1, .ref (adX 0)), (2, .ref (adM 0)), (3, .int (zI i))]) : W p l e room_1 s m args below meth c H locs 600000 7302250 Q (F0 m 933 ls []) := by
  have hL' : (L : Int) ≤ 5120 := by omega
  obtain ⟨hi1, hi2⟩ := hi
  obtain ⟨x1, y1, hx1, hy1, he, hI1⟩ := hOK (sv xs (i + 1)) (sv xs (i + 2)) (sv xs (i + 3)) (sv xs (i + 4)) (sv xs (i + 5)) (sv_i32 _ _) (sv_i32 _ _) (sv_i32 _ _) (sv_i32 _ _) (sv_i32 _ _) σ τ hI
  refine y_aload_n C dL_law_933 (lv_at hl 1 rfl) ?_
  refine y_aload_n C dL_law_934 (lv_at hl 0 rfl) ?_
  refine y_iload_n C dL_law_935 (lv_at hl 3 rfl) ?_
  refine y_iconst C dL_law_936 ?_
  refine y_iadd C dL_law_937 ?_
  refine y_sld C hX hbl hbA hw.2 (i' := (i + 1)) (zm_eq (by omega) (by omega)) (by omega) dL_law_938 ?_
  refine y_aload_n C dL_law_939 (lv_at hl 0 rfl) ?_
  refine y_iload_n C dL_law_940 (lv_at hl 3 rfl) ?_
  refine y_iconst C dL_law_941 ?_
  refine y_iadd C dL_law_942 ?_
  refine y_sld C hX hbl hbA hw.2 (i' := (i + 2)) (zm_eq (by omega) (by omega)) (by omega) dL_law_943 ?_
  refine y_aload_n C dL_law_944 (lv_at hl 0 rfl) ?_
  refine y_iload_n C dL_law_945 (lv_at hl 3 rfl) ?_
  refine y_iconst C dL_law_946 ?_
  refine y_iadd C dL_law_947 ?_
  refine y_sld C hX hbl hbA hw.2 (i' := (i + 3)) (zm_eq (by omega) (by omega)) (by omega) dL_law_948 ?_
  refine y_aload_n C dL_law_949 (lv_at hl 0 rfl) ?_
  refine y_iload_n C dL_law_950 (lv_at hl 3 rfl) ?_
  refine y_iconst C dL_law_951 ?_
  refine y_iadd C dL_law_952 ?_
  refine y_sld C hX hbl hbA hw.2 (i' := (i + 4)) (zm_eq (by omega) (by omega)) (by omega) dL_law_953 ?_
  refine y_aload_n C dL_law_954 (lv_at hl 0 rfl) ?_
  refine y_iload_n C dL_law_955 (lv_at hl 3 rfl) ?_
  refine y_iconst C dL_law_956 ?_
  refine y_iadd C dL_law_957 ?_
  refine y_sld C hX hbl hbA hw.2 (i' := (i + 5)) (zm_eq (by omega) (by omega)) (by omega) dL_law_958 ?_
  refine y_ciL (rest := []) hw (y_rVL ⟨Nat.le_refl _, Nat.le_refl _⟩ C hw kx_0 (by decide) rfl rfl (c_X7_judge hx1) mi_X7_judge wd_687 wd_688 wd_689 rfl ⟨by decide, by decide⟩ hl rfl (Nat.le_of_ble_eq_true rfl) dL_law_959) (fun H locs hw => ?_)
  have hw : At D cA adM kM 31 (wl cA adX kX 151 x1.2) A s τ H locs := ⟨Wd_XM hw.1, hw.2⟩
  refine y_aload_n C dL_law_962 (lv_at hl 2 rfl) ?_
  refine y_aload_n C dL_law_963 (lv_at hl 0 rfl) ?_
  refine y_iload_n C dL_law_964 (lv_at hl 3 rfl) ?_
  refine y_iconst C dL_law_965 ?_
  refine y_iadd C dL_law_966 ?_
  refine y_sld C hX hbl hbA hw.2 (i' := (i + 1)) (zm_eq (by omega) (by omega)) (by omega) dL_law_967 ?_
  refine y_aload_n C dL_law_968 (lv_at hl 0 rfl) ?_
  refine y_iload_n C dL_law_969 (lv_at hl 3 rfl) ?_
  refine y_iconst C dL_law_970 ?_
  refine y_iadd C dL_law_971 ?_
  refine y_sld C hX hbl hbA hw.2 (i' := (i + 2)) (zm_eq (by omega) (by omega)) (by omega) dL_law_972 ?_
  refine y_aload_n C dL_law_973 (lv_at hl 0 rfl) ?_
  refine y_iload_n C dL_law_974 (lv_at hl 3 rfl) ?_
  refine y_iconst C dL_law_975 ?_
  refine y_iadd C dL_law_976 ?_
  refine y_sld C hX hbl hbA hw.2 (i' := (i + 3)) (zm_eq (by omega) (by omega)) (by omega) dL_law_977 ?_
  refine y_aload_n C dL_law_978 (lv_at hl 0 rfl) ?_
  refine y_iload_n C dL_law_979 (lv_at hl 3 rfl) ?_
  refine y_iconst C dL_law_980 ?_
  refine y_iadd C dL_law_981 ?_
  refine y_sld C hX hbl hbA hw.2 (i' := (i + 4)) (zm_eq (by omega) (by omega)) (by omega) dL_law_982 ?_
  refine y_aload_n C dL_law_983 (lv_at hl 0 rfl) ?_
  refine y_iload_n C dL_law_984 (lv_at hl 3 rfl) ?_
  refine y_iconst C dL_law_985 ?_
  refine y_iadd C dL_law_986 ?_
  refine y_sld C hX hbl hbA hw.2 (i' := (i + 5)) (zm_eq (by omega) (by omega)) (by omega) dL_law_987 ?_
  refine y_ciL (rest := [.int (zI x1.1)]) hw (y_rVL ⟨Nat.le_refl _, Nat.le_refl _⟩ C hw km_0 (by decide) rfl rfl (c_X8_judge hy1) mi_X8_judge wd_1251 wd_1252 wd_1253 rfl ⟨by decide, by decide⟩ hl rfl (Nat.le_of_ble_eq_true rfl) dL_law_988) (fun H locs hw => ?_)
  have hw : At D cA adX kX 151 (wl cA adM kM 31 y1.2) A s x1.2 H locs := ⟨Wd_MX hw.1, hw.2⟩
  refine y_icmp_eq (tgt := 1790) C rfl rfl dL_law_991 (by decide) (fun _ => hN x1.2 y1.2 H locs hI1 hw ls hl) (fun q => absurd he q)
set_option maxRecDepth 100000 in
set_option maxHeartbeats 4000000 in
theorem lc_16 {Inv : St → St → Prop} (C : Cx cL_law RL 4 (some .boolean) D cA adK adV A p s m args meth c) (hX : va_X b L xs s s.heap) (hbl : b < s.heap.size) (hbA : ¬ A b) (hL : L ≤ 5120) (hOK : ∀ a1 a2 a3 a4 a5 a6 : Int, i32 a1 → i32 a2 → i32 a3 → i32 a4 → i32 a5 → i32 a6 → StepOK Inv (p_X7_standing a1 a2 a3 a4 a5 a6) (p_X8_standing a1 a2 a3 a4 a5 a6)) {i : Int} (hi : 0 ≤ i ∧ i + 10 ≤ (L : Int)) (hN : ∀ (σ τ : St) (H : Heap) (locs : List Loc), Inv σ τ → At D cA adX kX 151 (wl cA adM kM 31 τ) A s σ H locs → ∀ ls : Array Slot, lv_has ls 4 [(0, .ref b), (1, .ref (adX 0)), (2, .ref (adM 0)), (3, .int (zI i))] → W p l e room_1 s m args below meth c H locs 600000 7302250 Q (F0 m 1790 ls [])) {σ τ : St} (hI : Inv σ τ) {H : Heap} {locs : List Loc} (hw : At D cA adX kX 151 (wl cA adM kM 31 τ) A s σ H locs) {ls : Array Slot} (hl : lv_has ls 4 [(0, .ref b), (1, .ref (adX 0)), (2, .ref (adM 0)), (3, .int (zI i))]) : W p l e room_1 s m args below meth c H locs 600000 7302250 Q (F0 m 996 ls []) := by
  have hL' : (L : Int) ≤ 5120 := by omega
  obtain ⟨hi1, hi2⟩ := hi
  obtain ⟨x1, y1, hx1, hy1, he, hI1⟩ := hOK (sv xs (i + 1)) (sv xs (i + 2)) (sv xs (i + 3)) (sv xs (i + 4)) (sv xs (i + 5)) (sv xs (i + 6)) (sv_i32 _ _) (sv_i32 _ _) (sv_i32 _ _) (sv_i32 _ _) (sv_i32 _ _) (sv_i32 _ _) σ τ hI
  refine y_aload_n C dL_law_996 (lv_at hl 1 rfl) ?_
  refine y_aload_n C dL_law_997 (lv_at hl 0 rfl) ?_
  refine y_iload_n C dL_law_998 (lv_at hl 3 rfl) ?_
  refine y_iconst C dL_law_999 ?_
  refine y_iadd C dL_law_1000 ?_
  refine y_sld C hX hbl hbA hw.2 (i' := (i + 1)) (zm_eq (by omega) (by omega)) (by omega) dL_law_1001 ?_
  refine y_aload_n C dL_law_1002 (lv_at hl 0 rfl) ?_
  refine y_iload_n C dL_law_1003 (lv_at hl 3 rfl) ?_
  refine y_iconst C dL_law_1004 ?_
  refine y_iadd C dL_law_1005 ?_
  refine y_sld C hX hbl hbA hw.2 (i' := (i + 2)) (zm_eq (by omega) (by omega)) (by omega) dL_law_1006 ?_
  refine y_aload_n C dL_law_1007 (lv_at hl 0 rfl) ?_
  refine y_iload_n C dL_law_1008 (lv_at hl 3 rfl) ?_
  refine y_iconst C dL_law_1009 ?_
  refine y_iadd C dL_law_1010 ?_
  refine y_sld C hX hbl hbA hw.2 (i' := (i + 3)) (zm_eq (by omega) (by omega)) (by omega) dL_law_1011 ?_
  refine y_aload_n C dL_law_1012 (lv_at hl 0 rfl) ?_
  refine y_iload_n C dL_law_1013 (lv_at hl 3 rfl) ?_
  refine y_iconst C dL_law_1014 ?_
  refine y_iadd C dL_law_1015 ?_
  refine y_sld C hX hbl hbA hw.2 (i' := (i + 4)) (zm_eq (by omega) (by omega)) (by omega) dL_law_1016 ?_
  refine y_aload_n C dL_law_1017 (lv_at hl 0 rfl) ?_
  refine y_iload_n C dL_law_1018 (lv_at hl 3 rfl) ?_
  refine y_iconst C dL_law_1019 ?_
  refine y_iadd C dL_law_1020 ?_
  refine y_sld C hX hbl hbA hw.2 (i' := (i + 5)) (zm_eq (by omega) (by omega)) (by omega) dL_law_1021 ?_
  refine y_aload_n C dL_law_1022 (lv_at hl 0 rfl) ?_
  refine y_iload_n C dL_law_1023 (lv_at hl 3 rfl) ?_
  refine y_bipush C dL_law_1024 (by decide) ?_
  refine y_iadd C dL_law_1026 ?_
  refine y_sld C hX hbl hbA hw.2 (i' := (i + 6)) (zm_eq (by omega) (by omega)) (by omega) dL_law_1027 ?_
  refine y_ciL (rest := []) hw (y_rVL ⟨Nat.le_refl _, Nat.le_refl _⟩ C hw kx_0 (by decide) rfl rfl (c_X7_standing hx1) mi_X7_standing wd_698 wd_699 wd_700 rfl ⟨by decide, by decide⟩ hl rfl (Nat.le_of_ble_eq_true rfl) dL_law_1028) (fun H locs hw => ?_)
  have hw : At D cA adM kM 31 (wl cA adX kX 151 x1.2) A s τ H locs := ⟨Wd_XM hw.1, hw.2⟩
  refine y_aload_n C dL_law_1031 (lv_at hl 2 rfl) ?_
  refine y_aload_n C dL_law_1032 (lv_at hl 0 rfl) ?_
  refine y_iload_n C dL_law_1033 (lv_at hl 3 rfl) ?_
  refine y_iconst C dL_law_1034 ?_
  refine y_iadd C dL_law_1035 ?_
  refine y_sld C hX hbl hbA hw.2 (i' := (i + 1)) (zm_eq (by omega) (by omega)) (by omega) dL_law_1036 ?_
  refine y_aload_n C dL_law_1037 (lv_at hl 0 rfl) ?_
  refine y_iload_n C dL_law_1038 (lv_at hl 3 rfl) ?_
  refine y_iconst C dL_law_1039 ?_
  refine y_iadd C dL_law_1040 ?_
  refine y_sld C hX hbl hbA hw.2 (i' := (i + 2)) (zm_eq (by omega) (by omega)) (by omega) dL_law_1041 ?_
  refine y_aload_n C dL_law_1042 (lv_at hl 0 rfl) ?_
  refine y_iload_n C dL_law_1043 (lv_at hl 3 rfl) ?_
  refine y_iconst C dL_law_1044 ?_
  refine y_iadd C dL_law_1045 ?_
  refine y_sld C hX hbl hbA hw.2 (i' := (i + 3)) (zm_eq (by omega) (by omega)) (by omega) dL_law_1046 ?_
  refine y_aload_n C dL_law_1047 (lv_at hl 0 rfl) ?_
  refine y_iload_n C dL_law_1048 (lv_at hl 3 rfl) ?_
  refine y_iconst C dL_law_1049 ?_
  refine y_iadd C dL_law_1050 ?_
  refine y_sld C hX hbl hbA hw.2 (i' := (i + 4)) (zm_eq (by omega) (by omega)) (by omega) dL_law_1051 ?_
  refine y_aload_n C dL_law_1052 (lv_at hl 0 rfl) ?_
  refine y_iload_n C dL_law_1053 (lv_at hl 3 rfl) ?_
  refine y_iconst C dL_law_1054 ?_
  refine y_iadd C dL_law_1055 ?_
  refine y_sld C hX hbl hbA hw.2 (i' := (i + 5)) (zm_eq (by omega) (by omega)) (by omega) dL_law_1056 ?_
  refine y_aload_n C dL_law_1057 (lv_at hl 0 rfl) ?_
  refine y_iload_n C dL_law_1058 (lv_at hl 3 rfl) ?_
  refine y_bipush C dL_law_1059 (by decide) ?_
  refine y_iadd C dL_law_1061 ?_
  refine y_sld C hX hbl hbA hw.2 (i' := (i + 6)) (zm_eq (by omega) (by omega)) (by omega) dL_law_1062 ?_
  refine y_ciL (rest := [.int (zI x1.1)]) hw (y_rVL ⟨Nat.le_refl _, Nat.le_refl _⟩ C hw km_0 (by decide) rfl rfl (c_X8_standing hy1) mi_X8_standing wd_1255 wd_1256 wd_1257 rfl ⟨by decide, by decide⟩ hl rfl (Nat.le_of_ble_eq_true rfl) dL_law_1063) (fun H locs hw => ?_)
  have hw : At D cA adX kX 151 (wl cA adM kM 31 y1.2) A s x1.2 H locs := ⟨Wd_MX hw.1, hw.2⟩
  refine y_icmp_eq (tgt := 1790) C rfl rfl dL_law_1066 (by decide) (fun _ => hN x1.2 y1.2 H locs hI1 hw ls hl) (fun q => absurd he q)
set_option maxRecDepth 100000 in
set_option maxHeartbeats 4000000 in
theorem lc_17 {Inv : St → St → Prop} (C : Cx cL_law RL 4 (some .boolean) D cA adK adV A p s m args meth c) (hX : va_X b L xs s s.heap) (hbl : b < s.heap.size) (hbA : ¬ A b) (hL : L ≤ 5120) (hOK : ∀ a1 a2 a3 a4 a5 a6 : Int, i32 a1 → i32 a2 → i32 a3 → i32 a4 → i32 a5 → i32 a6 → StepOK Inv (p_X7_odds a1 a2 a3 a4 a5 a6) (p_X8_odds a1 a2 a3 a4 a5 a6)) {i : Int} (hi : 0 ≤ i ∧ i + 10 ≤ (L : Int)) (hN : ∀ (σ τ : St) (H : Heap) (locs : List Loc), Inv σ τ → At D cA adX kX 151 (wl cA adM kM 31 τ) A s σ H locs → ∀ ls : Array Slot, lv_has ls 4 [(0, .ref b), (1, .ref (adX 0)), (2, .ref (adM 0)), (3, .int (zI i))] → W p l e room_1 s m args below meth c H locs 600000 7302250 Q (F0 m 1790 ls [])) {σ τ : St} (hI : Inv σ τ) {H : Heap} {locs : List Loc} (hw : At D cA adX kX 151 (wl cA adM kM 31 τ) A s σ H locs) {ls : Array Slot} (hl : lv_has ls 4 [(0, .ref b), (1, .ref (adX 0)), (2, .ref (adM 0)), (3, .int (zI i))]) : W p l e room_1 s m args below meth c H locs 600000 7302250 Q (F0 m 1071 ls []) := by
  have hL' : (L : Int) ≤ 5120 := by omega
  obtain ⟨hi1, hi2⟩ := hi
  obtain ⟨x1, y1, hx1, hy1, he, hI1⟩ := hOK (sv xs (i + 1)) (sv xs (i + 2)) (sv xs (i + 3)) (sv xs (i + 4)) (sv xs (i + 5)) (sv xs (i + 6)) (sv_i32 _ _) (sv_i32 _ _) (sv_i32 _ _) (sv_i32 _ _) (sv_i32 _ _) (sv_i32 _ _) σ τ hI
  refine y_aload_n C dL_law_1071 (lv_at hl 1 rfl) ?_
  refine y_aload_n C dL_law_1072 (lv_at hl 0 rfl) ?_
  refine y_iload_n C dL_law_1073 (lv_at hl 3 rfl) ?_
  refine y_iconst C dL_law_1074 ?_
  refine y_iadd C dL_law_1075 ?_
  refine y_sld C hX hbl hbA hw.2 (i' := (i + 1)) (zm_eq (by omega) (by omega)) (by omega) dL_law_1076 ?_
  refine y_aload_n C dL_law_1077 (lv_at hl 0 rfl) ?_
  refine y_iload_n C dL_law_1078 (lv_at hl 3 rfl) ?_
  refine y_iconst C dL_law_1079 ?_
  refine y_iadd C dL_law_1080 ?_
  refine y_sld C hX hbl hbA hw.2 (i' := (i + 2)) (zm_eq (by omega) (by omega)) (by omega) dL_law_1081 ?_
  refine y_aload_n C dL_law_1082 (lv_at hl 0 rfl) ?_
  refine y_iload_n C dL_law_1083 (lv_at hl 3 rfl) ?_
  refine y_iconst C dL_law_1084 ?_
  refine y_iadd C dL_law_1085 ?_
  refine y_sld C hX hbl hbA hw.2 (i' := (i + 3)) (zm_eq (by omega) (by omega)) (by omega) dL_law_1086 ?_
  refine y_aload_n C dL_law_1087 (lv_at hl 0 rfl) ?_
  refine y_iload_n C dL_law_1088 (lv_at hl 3 rfl) ?_
  refine y_iconst C dL_law_1089 ?_
  refine y_iadd C dL_law_1090 ?_
  refine y_sld C hX hbl hbA hw.2 (i' := (i + 4)) (zm_eq (by omega) (by omega)) (by omega) dL_law_1091 ?_
  refine y_aload_n C dL_law_1092 (lv_at hl 0 rfl) ?_
  refine y_iload_n C dL_law_1093 (lv_at hl 3 rfl) ?_
  refine y_iconst C dL_law_1094 ?_
  refine y_iadd C dL_law_1095 ?_
  refine y_sld C hX hbl hbA hw.2 (i' := (i + 5)) (zm_eq (by omega) (by omega)) (by omega) dL_law_1096 ?_
  refine y_aload_n C dL_law_1097 (lv_at hl 0 rfl) ?_
  refine y_iload_n C dL_law_1098 (lv_at hl 3 rfl) ?_
  refine y_bipush C dL_law_1099 (by decide) ?_
  refine y_iadd C dL_law_1101 ?_
  refine y_sld C hX hbl hbA hw.2 (i' := (i + 6)) (zm_eq (by omega) (by omega)) (by omega) dL_law_1102 ?_
  refine y_ciL (rest := []) hw (y_rVL ⟨Nat.le_refl _, Nat.le_refl _⟩ C hw kx_0 (by decide) rfl rfl (c_X7_odds hx1) mi_X7_odds wd_749 wd_750 wd_751 rfl ⟨by decide, by decide⟩ hl rfl (Nat.le_of_ble_eq_true rfl) dL_law_1103) (fun H locs hw => ?_)
  have hw : At D cA adM kM 31 (wl cA adX kX 151 x1.2) A s τ H locs := ⟨Wd_XM hw.1, hw.2⟩
  refine y_aload_n C dL_law_1106 (lv_at hl 2 rfl) ?_
  refine y_aload_n C dL_law_1107 (lv_at hl 0 rfl) ?_
  refine y_iload_n C dL_law_1108 (lv_at hl 3 rfl) ?_
  refine y_iconst C dL_law_1109 ?_
  refine y_iadd C dL_law_1110 ?_
  refine y_sld C hX hbl hbA hw.2 (i' := (i + 1)) (zm_eq (by omega) (by omega)) (by omega) dL_law_1111 ?_
  refine y_aload_n C dL_law_1112 (lv_at hl 0 rfl) ?_
  refine y_iload_n C dL_law_1113 (lv_at hl 3 rfl) ?_
  refine y_iconst C dL_law_1114 ?_
  refine y_iadd C dL_law_1115 ?_
  refine y_sld C hX hbl hbA hw.2 (i' := (i + 2)) (zm_eq (by omega) (by omega)) (by omega) dL_law_1116 ?_
  refine y_aload_n C dL_law_1117 (lv_at hl 0 rfl) ?_
  refine y_iload_n C dL_law_1118 (lv_at hl 3 rfl) ?_
  refine y_iconst C dL_law_1119 ?_
  refine y_iadd C dL_law_1120 ?_
  refine y_sld C hX hbl hbA hw.2 (i' := (i + 3)) (zm_eq (by omega) (by omega)) (by omega) dL_law_1121 ?_
  refine y_aload_n C dL_law_1122 (lv_at hl 0 rfl) ?_
  refine y_iload_n C dL_law_1123 (lv_at hl 3 rfl) ?_
  refine y_iconst C dL_law_1124 ?_
  refine y_iadd C dL_law_1125 ?_
  refine y_sld C hX hbl hbA hw.2 (i' := (i + 4)) (zm_eq (by omega) (by omega)) (by omega) dL_law_1126 ?_
  refine y_aload_n C dL_law_1127 (lv_at hl 0 rfl) ?_
  refine y_iload_n C dL_law_1128 (lv_at hl 3 rfl) ?_
  refine y_iconst C dL_law_1129 ?_
  refine y_iadd C dL_law_1130 ?_
  refine y_sld C hX hbl hbA hw.2 (i' := (i + 5)) (zm_eq (by omega) (by omega)) (by omega) dL_law_1131 ?_
  refine y_aload_n C dL_law_1132 (lv_at hl 0 rfl) ?_
  refine y_iload_n C dL_law_1133 (lv_at hl 3 rfl) ?_
  refine y_bipush C dL_law_1134 (by decide) ?_
  refine y_iadd C dL_law_1136 ?_
  refine y_sld C hX hbl hbA hw.2 (i' := (i + 6)) (zm_eq (by omega) (by omega)) (by omega) dL_law_1137 ?_
  refine y_ciL (rest := [.int (zI x1.1)]) hw (y_rVL ⟨Nat.le_refl _, Nat.le_refl _⟩ C hw km_0 (by decide) rfl rfl (c_X8_odds hy1) mi_X8_odds wd_1273 wd_1274 wd_1275 rfl ⟨by decide, by decide⟩ hl rfl (Nat.le_of_ble_eq_true rfl) dL_law_1138) (fun H locs hw => ?_)
  have hw : At D cA adX kX 151 (wl cA adM kM 31 y1.2) A s x1.2 H locs := ⟨Wd_MX hw.1, hw.2⟩
  refine y_icmp_eq (tgt := 1790) C rfl rfl dL_law_1141 (by decide) (fun _ => hN x1.2 y1.2 H locs hI1 hw ls hl) (fun q => absurd he q)
set_option maxRecDepth 100000 in
set_option maxHeartbeats 4000000 in
theorem lc_18 {Inv : St → St → Prop} (C : Cx cL_law RL 4 (some .boolean) D cA adK adV A p s m args meth c) (hX : va_X b L xs s s.heap) (hbl : b < s.heap.size) (hbA : ¬ A b) (hL : L ≤ 5120) (hOK : ∀ a1 a2 a3 a4 a5 a6 : Int, i32 a1 → i32 a2 → i32 a3 → i32 a4 → i32 a5 → i32 a6 → StepOK Inv (p_X7_even a1 a2 a3 a4 a5 a6) (p_X8_even a1 a2 a3 a4 a5 a6)) {i : Int} (hi : 0 ≤ i ∧ i + 10 ≤ (L : Int)) (hN : ∀ (σ τ : St) (H : Heap) (locs : List Loc), Inv σ τ → At D cA adX kX 151 (wl cA adM kM 31 τ) A s σ H locs → ∀ ls : Array Slot, lv_has ls 4 [(0, .ref b), (1, .ref (adX 0)), (2, .ref (adM 0)), (3, .int (zI i))] → W p l e room_1 s m args below meth c H locs 600000 7302250 Q (F0 m 1790 ls [])) {σ τ : St} (hI : Inv σ τ) {H : Heap} {locs : List Loc} (hw : At D cA adX kX 151 (wl cA adM kM 31 τ) A s σ H locs) {ls : Array Slot} (hl : lv_has ls 4 [(0, .ref b), (1, .ref (adX 0)), (2, .ref (adM 0)), (3, .int (zI i))]) : W p l e room_1 s m args below meth c H locs 600000 7302250 Q (F0 m 1146 ls []) := by
  have hL' : (L : Int) ≤ 5120 := by omega
  obtain ⟨hi1, hi2⟩ := hi
  obtain ⟨x1, y1, hx1, hy1, he, hI1⟩ := hOK (sv xs (i + 1)) (sv xs (i + 2)) (sv xs (i + 3)) (sv xs (i + 4)) (sv xs (i + 5)) (sv xs (i + 6)) (sv_i32 _ _) (sv_i32 _ _) (sv_i32 _ _) (sv_i32 _ _) (sv_i32 _ _) (sv_i32 _ _) σ τ hI
  refine y_aload_n C dL_law_1146 (lv_at hl 1 rfl) ?_
  refine y_aload_n C dL_law_1147 (lv_at hl 0 rfl) ?_
  refine y_iload_n C dL_law_1148 (lv_at hl 3 rfl) ?_
  refine y_iconst C dL_law_1149 ?_
  refine y_iadd C dL_law_1150 ?_
  refine y_sld C hX hbl hbA hw.2 (i' := (i + 1)) (zm_eq (by omega) (by omega)) (by omega) dL_law_1151 ?_
  refine y_aload_n C dL_law_1152 (lv_at hl 0 rfl) ?_
  refine y_iload_n C dL_law_1153 (lv_at hl 3 rfl) ?_
  refine y_iconst C dL_law_1154 ?_
  refine y_iadd C dL_law_1155 ?_
  refine y_sld C hX hbl hbA hw.2 (i' := (i + 2)) (zm_eq (by omega) (by omega)) (by omega) dL_law_1156 ?_
  refine y_aload_n C dL_law_1157 (lv_at hl 0 rfl) ?_
  refine y_iload_n C dL_law_1158 (lv_at hl 3 rfl) ?_
  refine y_iconst C dL_law_1159 ?_
  refine y_iadd C dL_law_1160 ?_
  refine y_sld C hX hbl hbA hw.2 (i' := (i + 3)) (zm_eq (by omega) (by omega)) (by omega) dL_law_1161 ?_
  refine y_aload_n C dL_law_1162 (lv_at hl 0 rfl) ?_
  refine y_iload_n C dL_law_1163 (lv_at hl 3 rfl) ?_
  refine y_iconst C dL_law_1164 ?_
  refine y_iadd C dL_law_1165 ?_
  refine y_sld C hX hbl hbA hw.2 (i' := (i + 4)) (zm_eq (by omega) (by omega)) (by omega) dL_law_1166 ?_
  refine y_aload_n C dL_law_1167 (lv_at hl 0 rfl) ?_
  refine y_iload_n C dL_law_1168 (lv_at hl 3 rfl) ?_
  refine y_iconst C dL_law_1169 ?_
  refine y_iadd C dL_law_1170 ?_
  refine y_sld C hX hbl hbA hw.2 (i' := (i + 5)) (zm_eq (by omega) (by omega)) (by omega) dL_law_1171 ?_
  refine y_aload_n C dL_law_1172 (lv_at hl 0 rfl) ?_
  refine y_iload_n C dL_law_1173 (lv_at hl 3 rfl) ?_
  refine y_bipush C dL_law_1174 (by decide) ?_
  refine y_iadd C dL_law_1176 ?_
  refine y_sld C hX hbl hbA hw.2 (i' := (i + 6)) (zm_eq (by omega) (by omega)) (by omega) dL_law_1177 ?_
  refine y_ciL (rest := []) hw (y_rVL ⟨Nat.le_refl _, Nat.le_refl _⟩ C hw kx_0 (by decide) rfl rfl (c_X7_even hx1) mi_X7_even wd_755 wd_756 wd_757 rfl ⟨by decide, by decide⟩ hl rfl (Nat.le_of_ble_eq_true rfl) dL_law_1178) (fun H locs hw => ?_)
  have hw : At D cA adM kM 31 (wl cA adX kX 151 x1.2) A s τ H locs := ⟨Wd_XM hw.1, hw.2⟩
  refine y_aload_n C dL_law_1181 (lv_at hl 2 rfl) ?_
  refine y_aload_n C dL_law_1182 (lv_at hl 0 rfl) ?_
  refine y_iload_n C dL_law_1183 (lv_at hl 3 rfl) ?_
  refine y_iconst C dL_law_1184 ?_
  refine y_iadd C dL_law_1185 ?_
  refine y_sld C hX hbl hbA hw.2 (i' := (i + 1)) (zm_eq (by omega) (by omega)) (by omega) dL_law_1186 ?_
  refine y_aload_n C dL_law_1187 (lv_at hl 0 rfl) ?_
  refine y_iload_n C dL_law_1188 (lv_at hl 3 rfl) ?_
  refine y_iconst C dL_law_1189 ?_
  refine y_iadd C dL_law_1190 ?_
  refine y_sld C hX hbl hbA hw.2 (i' := (i + 2)) (zm_eq (by omega) (by omega)) (by omega) dL_law_1191 ?_
  refine y_aload_n C dL_law_1192 (lv_at hl 0 rfl) ?_
  refine y_iload_n C dL_law_1193 (lv_at hl 3 rfl) ?_
  refine y_iconst C dL_law_1194 ?_
  refine y_iadd C dL_law_1195 ?_
  refine y_sld C hX hbl hbA hw.2 (i' := (i + 3)) (zm_eq (by omega) (by omega)) (by omega) dL_law_1196 ?_
  refine y_aload_n C dL_law_1197 (lv_at hl 0 rfl) ?_
  refine y_iload_n C dL_law_1198 (lv_at hl 3 rfl) ?_
  refine y_iconst C dL_law_1199 ?_
  refine y_iadd C dL_law_1200 ?_
  refine y_sld C hX hbl hbA hw.2 (i' := (i + 4)) (zm_eq (by omega) (by omega)) (by omega) dL_law_1201 ?_
  refine y_aload_n C dL_law_1202 (lv_at hl 0 rfl) ?_
  refine y_iload_n C dL_law_1203 (lv_at hl 3 rfl) ?_
  refine y_iconst C dL_law_1204 ?_
  refine y_iadd C dL_law_1205 ?_
  refine y_sld C hX hbl hbA hw.2 (i' := (i + 5)) (zm_eq (by omega) (by omega)) (by omega) dL_law_1206 ?_
  refine y_aload_n C dL_law_1207 (lv_at hl 0 rfl) ?_
  refine y_iload_n C dL_law_1208 (lv_at hl 3 rfl) ?_
  refine y_bipush C dL_law_1209 (by decide) ?_
  refine y_iadd C dL_law_1211 ?_
  refine y_sld C hX hbl hbA hw.2 (i' := (i + 6)) (zm_eq (by omega) (by omega)) (by omega) dL_law_1212 ?_
  refine y_ciL (rest := [.int (zI x1.1)]) hw (y_rVL ⟨Nat.le_refl _, Nat.le_refl _⟩ C hw km_0 (by decide) rfl rfl (c_X8_even hy1) mi_X8_even wd_1277 wd_1278 wd_1279 rfl ⟨by decide, by decide⟩ hl rfl (Nat.le_of_ble_eq_true rfl) dL_law_1213) (fun H locs hw => ?_)
  have hw : At D cA adX kX 151 (wl cA adM kM 31 y1.2) A s x1.2 H locs := ⟨Wd_MX hw.1, hw.2⟩
  refine y_icmp_eq (tgt := 1790) C rfl rfl dL_law_1216 (by decide) (fun _ => hN x1.2 y1.2 H locs hI1 hw ls hl) (fun q => absurd he q)
set_option maxRecDepth 100000 in
set_option maxHeartbeats 4000000 in
theorem lc_19 {Inv : St → St → Prop} (C : Cx cL_law RL 4 (some .boolean) D cA adK adV A p s m args meth c) (hX : va_X b L xs s s.heap) (hbl : b < s.heap.size) (hbA : ¬ A b) (hL : L ≤ 5120) (hOK : ∀ a1 a2 : Int, i32 a1 → i32 a2 → StepOK Inv (p_X7_year a1 a2) (p_X8_year a1 a2)) {i : Int} (hi : 0 ≤ i ∧ i + 10 ≤ (L : Int)) (hN : ∀ (σ τ : St) (H : Heap) (locs : List Loc), Inv σ τ → At D cA adX kX 151 (wl cA adM kM 31 τ) A s σ H locs → ∀ ls : Array Slot, lv_has ls 4 [(0, .ref b), (1, .ref (adX 0)), (2, .ref (adM 0)), (3, .int (zI i))] → W p l e room_1 s m args below meth c H locs 600000 7302250 Q (F0 m 1790 ls [])) {σ τ : St} (hI : Inv σ τ) {H : Heap} {locs : List Loc} (hw : At D cA adX kX 151 (wl cA adM kM 31 τ) A s σ H locs) {ls : Array Slot} (hl : lv_has ls 4 [(0, .ref b), (1, .ref (adX 0)), (2, .ref (adM 0)), (3, .int (zI i))]) : W p l e room_1 s m args below meth c H locs 600000 7302250 Q (F0 m 1221 ls []) := by
  have hL' : (L : Int) ≤ 5120 := by omega
  obtain ⟨hi1, hi2⟩ := hi
  obtain ⟨x1, y1, hx1, hy1, he, hI1⟩ := hOK (sv xs (i + 1)) (sv xs (i + 2)) (sv_i32 _ _) (sv_i32 _ _) σ τ hI
  refine y_aload_n C dL_law_1221 (lv_at hl 1 rfl) ?_
  refine y_aload_n C dL_law_1222 (lv_at hl 0 rfl) ?_
  refine y_iload_n C dL_law_1223 (lv_at hl 3 rfl) ?_
  refine y_iconst C dL_law_1224 ?_
  refine y_iadd C dL_law_1225 ?_
  refine y_sld C hX hbl hbA hw.2 (i' := (i + 1)) (zm_eq (by omega) (by omega)) (by omega) dL_law_1226 ?_
  refine y_aload_n C dL_law_1227 (lv_at hl 0 rfl) ?_
  refine y_iload_n C dL_law_1228 (lv_at hl 3 rfl) ?_
  refine y_iconst C dL_law_1229 ?_
  refine y_iadd C dL_law_1230 ?_
  refine y_sld C hX hbl hbA hw.2 (i' := (i + 2)) (zm_eq (by omega) (by omega)) (by omega) dL_law_1231 ?_
  refine y_ciL (rest := []) hw (y_rVL ⟨Nat.le_refl _, Nat.le_refl _⟩ C hw kx_0 (by decide) rfl rfl (c_X7_year hx1) mi_X7_year wd_767 wd_768 wd_769 rfl ⟨by decide, by decide⟩ hl rfl (Nat.le_of_ble_eq_true rfl) dL_law_1232) (fun H locs hw => ?_)
  have hw : At D cA adM kM 31 (wl cA adX kX 151 x1.2) A s τ H locs := ⟨Wd_XM hw.1, hw.2⟩
  refine y_aload_n C dL_law_1235 (lv_at hl 2 rfl) ?_
  refine y_aload_n C dL_law_1236 (lv_at hl 0 rfl) ?_
  refine y_iload_n C dL_law_1237 (lv_at hl 3 rfl) ?_
  refine y_iconst C dL_law_1238 ?_
  refine y_iadd C dL_law_1239 ?_
  refine y_sld C hX hbl hbA hw.2 (i' := (i + 1)) (zm_eq (by omega) (by omega)) (by omega) dL_law_1240 ?_
  refine y_aload_n C dL_law_1241 (lv_at hl 0 rfl) ?_
  refine y_iload_n C dL_law_1242 (lv_at hl 3 rfl) ?_
  refine y_iconst C dL_law_1243 ?_
  refine y_iadd C dL_law_1244 ?_
  refine y_sld C hX hbl hbA hw.2 (i' := (i + 2)) (zm_eq (by omega) (by omega)) (by omega) dL_law_1245 ?_
  refine y_ciL (rest := [.int (zI x1.1)]) hw (y_rVL ⟨Nat.le_refl _, Nat.le_refl _⟩ C hw km_0 (by decide) rfl rfl (c_X8_year hy1) mi_X8_year wd_1286 wd_1287 wd_1288 rfl ⟨by decide, by decide⟩ hl rfl (Nat.le_of_ble_eq_true rfl) dL_law_1246) (fun H locs hw => ?_)
  have hw : At D cA adX kX 151 (wl cA adM kM 31 y1.2) A s x1.2 H locs := ⟨Wd_MX hw.1, hw.2⟩
  refine y_icmp_eq (tgt := 1790) C rfl rfl dL_law_1249 (by decide) (fun _ => hN x1.2 y1.2 H locs hI1 hw ls hl) (fun q => absurd he q)
set_option maxRecDepth 100000 in
set_option maxHeartbeats 4000000 in
theorem lc_20 {Inv : St → St → Prop} (C : Cx cL_law RL 4 (some .boolean) D cA adK adV A p s m args meth c) (hX : va_X b L xs s s.heap) (hbl : b < s.heap.size) (hbA : ¬ A b) (hL : L ≤ 5120) (hOK : StepOK Inv (p_X7_clear ) (p_X8_clear )) {i : Int} (hi : 0 ≤ i ∧ i + 10 ≤ (L : Int)) (hN : ∀ (σ τ : St) (H : Heap) (locs : List Loc), Inv σ τ → At D cA adX kX 151 (wl cA adM kM 31 τ) A s σ H locs → ∀ ls : Array Slot, lv_has ls 4 [(0, .ref b), (1, .ref (adX 0)), (2, .ref (adM 0)), (3, .int (zI i))] → W p l e room_1 s m args below meth c H locs 600000 7302250 Q (F0 m 1790 ls [])) {σ τ : St} (hI : Inv σ τ) {H : Heap} {locs : List Loc} (hw : At D cA adX kX 151 (wl cA adM kM 31 τ) A s σ H locs) {ls : Array Slot} (hl : lv_has ls 4 [(0, .ref b), (1, .ref (adX 0)), (2, .ref (adM 0)), (3, .int (zI i))]) : W p l e room_1 s m args below meth c H locs 600000 7302250 Q (F0 m 1254 ls []) := by
  have hL' : (L : Int) ≤ 5120 := by omega
  obtain ⟨hi1, hi2⟩ := hi
  obtain ⟨x1, y1, hx1, hy1, he, hI1⟩ := hOK   σ τ hI
  refine y_aload_n C dL_law_1254 (lv_at hl 1 rfl) ?_
  refine y_ciL (rest := []) hw (y_rVL ⟨Nat.le_refl _, Nat.le_refl _⟩ C hw kx_0 (by decide) rfl rfl (c_X7_clear hx1) mi_X7_clear wd_775 wd_776 wd_777 rfl ⟨by decide, by decide⟩ hl rfl (Nat.le_of_ble_eq_true rfl) dL_law_1255) (fun H locs hw => ?_)
  have hw : At D cA adM kM 31 (wl cA adX kX 151 x1.2) A s τ H locs := ⟨Wd_XM hw.1, hw.2⟩
  refine y_aload_n C dL_law_1258 (lv_at hl 2 rfl) ?_
  refine y_ciL (rest := [.int (zI x1.1)]) hw (y_rVL ⟨Nat.le_refl _, Nat.le_refl _⟩ C hw km_0 (by decide) rfl rfl (c_X8_clear hy1) mi_X8_clear wd_1291 wd_1292 wd_1293 rfl ⟨by decide, by decide⟩ hl rfl (Nat.le_of_ble_eq_true rfl) dL_law_1259) (fun H locs hw => ?_)
  have hw : At D cA adX kX 151 (wl cA adM kM 31 y1.2) A s x1.2 H locs := ⟨Wd_MX hw.1, hw.2⟩
  refine y_icmp_eq (tgt := 1790) C rfl rfl dL_law_1262 (by decide) (fun _ => hN x1.2 y1.2 H locs hI1 hw ls hl) (fun q => absurd he q)
set_option maxRecDepth 100000 in
set_option maxHeartbeats 4000000 in
theorem lc_21 {Inv : St → St → Prop} (C : Cx cL_law RL 4 (some .boolean) D cA adK adV A p s m args meth c) (hX : va_X b L xs s s.heap) (hbl : b < s.heap.size) (hbA : ¬ A b) (hL : L ≤ 5120) (hOK : ∀ a1 a2 a3 : Int, i32 a1 → i32 a2 → i32 a3 → StepOK Inv (p_X7_think a1 a2 a3) (p_X8_think a1 a2 a3)) {i : Int} (hi : 0 ≤ i ∧ i + 10 ≤ (L : Int)) (hN : ∀ (σ τ : St) (H : Heap) (locs : List Loc), Inv σ τ → At D cA adX kX 151 (wl cA adM kM 31 τ) A s σ H locs → ∀ ls : Array Slot, lv_has ls 4 [(0, .ref b), (1, .ref (adX 0)), (2, .ref (adM 0)), (3, .int (zI i))] → W p l e room_1 s m args below meth c H locs 600000 7302250 Q (F0 m 1790 ls [])) {σ τ : St} (hI : Inv σ τ) {H : Heap} {locs : List Loc} (hw : At D cA adX kX 151 (wl cA adM kM 31 τ) A s σ H locs) {ls : Array Slot} (hl : lv_has ls 4 [(0, .ref b), (1, .ref (adX 0)), (2, .ref (adM 0)), (3, .int (zI i))]) : W p l e room_1 s m args below meth c H locs 600000 7302250 Q (F0 m 1267 ls []) := by
  have hL' : (L : Int) ≤ 5120 := by omega
  obtain ⟨hi1, hi2⟩ := hi
  obtain ⟨x1, y1, hx1, hy1, he, hI1⟩ := hOK (sv xs (i + 1)) (sv xs (i + 2)) (sv xs (i + 3)) (sv_i32 _ _) (sv_i32 _ _) (sv_i32 _ _) σ τ hI
  refine y_aload_n C dL_law_1267 (lv_at hl 1 rfl) ?_
  refine y_aload_n C dL_law_1268 (lv_at hl 0 rfl) ?_
  refine y_iload_n C dL_law_1269 (lv_at hl 3 rfl) ?_
  refine y_iconst C dL_law_1270 ?_
  refine y_iadd C dL_law_1271 ?_
  refine y_sld C hX hbl hbA hw.2 (i' := (i + 1)) (zm_eq (by omega) (by omega)) (by omega) dL_law_1272 ?_
  refine y_aload_n C dL_law_1273 (lv_at hl 0 rfl) ?_
  refine y_iload_n C dL_law_1274 (lv_at hl 3 rfl) ?_
  refine y_iconst C dL_law_1275 ?_
  refine y_iadd C dL_law_1276 ?_
  refine y_sld C hX hbl hbA hw.2 (i' := (i + 2)) (zm_eq (by omega) (by omega)) (by omega) dL_law_1277 ?_
  refine y_aload_n C dL_law_1278 (lv_at hl 0 rfl) ?_
  refine y_iload_n C dL_law_1279 (lv_at hl 3 rfl) ?_
  refine y_iconst C dL_law_1280 ?_
  refine y_iadd C dL_law_1281 ?_
  refine y_sld C hX hbl hbA hw.2 (i' := (i + 3)) (zm_eq (by omega) (by omega)) (by omega) dL_law_1282 ?_
  refine y_ciL (rest := []) hw (y_rVL ⟨Nat.le_refl _, Nat.le_refl _⟩ C hw kx_0 (by decide) rfl rfl (c_X7_think hx1) mi_X7_think wd_779 wd_780 wd_781 rfl ⟨by decide, by decide⟩ hl rfl (Nat.le_of_ble_eq_true rfl) dL_law_1283) (fun H locs hw => ?_)
  have hw : At D cA adM kM 31 (wl cA adX kX 151 x1.2) A s τ H locs := ⟨Wd_XM hw.1, hw.2⟩
  refine y_aload_n C dL_law_1286 (lv_at hl 2 rfl) ?_
  refine y_aload_n C dL_law_1287 (lv_at hl 0 rfl) ?_
  refine y_iload_n C dL_law_1288 (lv_at hl 3 rfl) ?_
  refine y_iconst C dL_law_1289 ?_
  refine y_iadd C dL_law_1290 ?_
  refine y_sld C hX hbl hbA hw.2 (i' := (i + 1)) (zm_eq (by omega) (by omega)) (by omega) dL_law_1291 ?_
  refine y_aload_n C dL_law_1292 (lv_at hl 0 rfl) ?_
  refine y_iload_n C dL_law_1293 (lv_at hl 3 rfl) ?_
  refine y_iconst C dL_law_1294 ?_
  refine y_iadd C dL_law_1295 ?_
  refine y_sld C hX hbl hbA hw.2 (i' := (i + 2)) (zm_eq (by omega) (by omega)) (by omega) dL_law_1296 ?_
  refine y_aload_n C dL_law_1297 (lv_at hl 0 rfl) ?_
  refine y_iload_n C dL_law_1298 (lv_at hl 3 rfl) ?_
  refine y_iconst C dL_law_1299 ?_
  refine y_iadd C dL_law_1300 ?_
  refine y_sld C hX hbl hbA hw.2 (i' := (i + 3)) (zm_eq (by omega) (by omega)) (by omega) dL_law_1301 ?_
  refine y_ciL (rest := [.int (zI x1.1)]) hw (y_rVL ⟨Nat.le_refl _, Nat.le_refl _⟩ C hw km_0 (by decide) rfl rfl (c_X8_think hy1) mi_X8_think wd_1295 wd_1296 wd_1297 rfl ⟨by decide, by decide⟩ hl rfl (Nat.le_of_ble_eq_true rfl) dL_law_1302) (fun H locs hw => ?_)
  have hw : At D cA adX kX 151 (wl cA adM kM 31 y1.2) A s x1.2 H locs := ⟨Wd_MX hw.1, hw.2⟩
  refine y_icmp_eq (tgt := 1790) C rfl rfl dL_law_1305 (by decide) (fun _ => hN x1.2 y1.2 H locs hI1 hw ls hl) (fun q => absurd he q)
set_option maxRecDepth 100000 in
set_option maxHeartbeats 4000000 in
theorem lc_22 {Inv : St → St → Prop} (C : Cx cL_law RL 4 (some .boolean) D cA adK adV A p s m args meth c) (hX : va_X b L xs s s.heap) (hbl : b < s.heap.size) (hbA : ¬ A b) (hL : L ≤ 5120) (hOK : ∀ a1 a2 a3 a4 a5 a6 : Int, i32 a1 → i32 a2 → i32 a3 → i32 a4 → i32 a5 → i32 a6 → StepOK Inv (p_X7_buy a1 a2 a3 a4 a5 a6) (p_X8_buy a1 a2 a3 a4 a5 a6)) {i : Int} (hi : 0 ≤ i ∧ i + 10 ≤ (L : Int)) (hN : ∀ (σ τ : St) (H : Heap) (locs : List Loc), Inv σ τ → At D cA adX kX 151 (wl cA adM kM 31 τ) A s σ H locs → ∀ ls : Array Slot, lv_has ls 4 [(0, .ref b), (1, .ref (adX 0)), (2, .ref (adM 0)), (3, .int (zI i))] → W p l e room_1 s m args below meth c H locs 600000 7302250 Q (F0 m 1790 ls [])) {σ τ : St} (hI : Inv σ τ) {H : Heap} {locs : List Loc} (hw : At D cA adX kX 151 (wl cA adM kM 31 τ) A s σ H locs) {ls : Array Slot} (hl : lv_has ls 4 [(0, .ref b), (1, .ref (adX 0)), (2, .ref (adM 0)), (3, .int (zI i))]) : W p l e room_1 s m args below meth c H locs 600000 7302250 Q (F0 m 1310 ls []) := by
  have hL' : (L : Int) ≤ 5120 := by omega
  obtain ⟨hi1, hi2⟩ := hi
  obtain ⟨x1, y1, hx1, hy1, he, hI1⟩ := hOK (sv xs (i + 1)) (sv xs (i + 2)) (sv xs (i + 3)) (sv xs (i + 4)) (sv xs (i + 5)) (sv xs (i + 6)) (sv_i32 _ _) (sv_i32 _ _) (sv_i32 _ _) (sv_i32 _ _) (sv_i32 _ _) (sv_i32 _ _) σ τ hI
  refine y_aload_n C dL_law_1310 (lv_at hl 1 rfl) ?_
  refine y_aload_n C dL_law_1311 (lv_at hl 0 rfl) ?_
  refine y_iload_n C dL_law_1312 (lv_at hl 3 rfl) ?_
  refine y_iconst C dL_law_1313 ?_
  refine y_iadd C dL_law_1314 ?_
  refine y_sld C hX hbl hbA hw.2 (i' := (i + 1)) (zm_eq (by omega) (by omega)) (by omega) dL_law_1315 ?_
  refine y_aload_n C dL_law_1316 (lv_at hl 0 rfl) ?_
  refine y_iload_n C dL_law_1317 (lv_at hl 3 rfl) ?_
  refine y_iconst C dL_law_1318 ?_
  refine y_iadd C dL_law_1319 ?_
  refine y_sld C hX hbl hbA hw.2 (i' := (i + 2)) (zm_eq (by omega) (by omega)) (by omega) dL_law_1320 ?_
  refine y_aload_n C dL_law_1321 (lv_at hl 0 rfl) ?_
  refine y_iload_n C dL_law_1322 (lv_at hl 3 rfl) ?_
  refine y_iconst C dL_law_1323 ?_
  refine y_iadd C dL_law_1324 ?_
  refine y_sld C hX hbl hbA hw.2 (i' := (i + 3)) (zm_eq (by omega) (by omega)) (by omega) dL_law_1325 ?_
  refine y_aload_n C dL_law_1326 (lv_at hl 0 rfl) ?_
  refine y_iload_n C dL_law_1327 (lv_at hl 3 rfl) ?_
  refine y_iconst C dL_law_1328 ?_
  refine y_iadd C dL_law_1329 ?_
  refine y_sld C hX hbl hbA hw.2 (i' := (i + 4)) (zm_eq (by omega) (by omega)) (by omega) dL_law_1330 ?_
  refine y_aload_n C dL_law_1331 (lv_at hl 0 rfl) ?_
  refine y_iload_n C dL_law_1332 (lv_at hl 3 rfl) ?_
  refine y_iconst C dL_law_1333 ?_
  refine y_iadd C dL_law_1334 ?_
  refine y_sld C hX hbl hbA hw.2 (i' := (i + 5)) (zm_eq (by omega) (by omega)) (by omega) dL_law_1335 ?_
  refine y_aload_n C dL_law_1336 (lv_at hl 0 rfl) ?_
  refine y_iload_n C dL_law_1337 (lv_at hl 3 rfl) ?_
  refine y_bipush C dL_law_1338 (by decide) ?_
  refine y_iadd C dL_law_1340 ?_
  refine y_sld C hX hbl hbA hw.2 (i' := (i + 6)) (zm_eq (by omega) (by omega)) (by omega) dL_law_1341 ?_
  refine y_ciL (rest := []) hw (y_rVL ⟨Nat.le_refl _, Nat.le_refl _⟩ C hw kx_0 (by decide) rfl rfl (c_X7_buy hx1) mi_X7_buy wd_798 wd_799 wd_800 rfl ⟨by decide, by decide⟩ hl rfl (Nat.le_of_ble_eq_true rfl) dL_law_1342) (fun H locs hw => ?_)
  have hw : At D cA adM kM 31 (wl cA adX kX 151 x1.2) A s τ H locs := ⟨Wd_XM hw.1, hw.2⟩
  refine y_aload_n C dL_law_1345 (lv_at hl 2 rfl) ?_
  refine y_aload_n C dL_law_1346 (lv_at hl 0 rfl) ?_
  refine y_iload_n C dL_law_1347 (lv_at hl 3 rfl) ?_
  refine y_iconst C dL_law_1348 ?_
  refine y_iadd C dL_law_1349 ?_
  refine y_sld C hX hbl hbA hw.2 (i' := (i + 1)) (zm_eq (by omega) (by omega)) (by omega) dL_law_1350 ?_
  refine y_aload_n C dL_law_1351 (lv_at hl 0 rfl) ?_
  refine y_iload_n C dL_law_1352 (lv_at hl 3 rfl) ?_
  refine y_iconst C dL_law_1353 ?_
  refine y_iadd C dL_law_1354 ?_
  refine y_sld C hX hbl hbA hw.2 (i' := (i + 2)) (zm_eq (by omega) (by omega)) (by omega) dL_law_1355 ?_
  refine y_aload_n C dL_law_1356 (lv_at hl 0 rfl) ?_
  refine y_iload_n C dL_law_1357 (lv_at hl 3 rfl) ?_
  refine y_iconst C dL_law_1358 ?_
  refine y_iadd C dL_law_1359 ?_
  refine y_sld C hX hbl hbA hw.2 (i' := (i + 3)) (zm_eq (by omega) (by omega)) (by omega) dL_law_1360 ?_
  refine y_aload_n C dL_law_1361 (lv_at hl 0 rfl) ?_
  refine y_iload_n C dL_law_1362 (lv_at hl 3 rfl) ?_
  refine y_iconst C dL_law_1363 ?_
  refine y_iadd C dL_law_1364 ?_
  refine y_sld C hX hbl hbA hw.2 (i' := (i + 4)) (zm_eq (by omega) (by omega)) (by omega) dL_law_1365 ?_
  refine y_aload_n C dL_law_1366 (lv_at hl 0 rfl) ?_
  refine y_iload_n C dL_law_1367 (lv_at hl 3 rfl) ?_
  refine y_iconst C dL_law_1368 ?_
  refine y_iadd C dL_law_1369 ?_
  refine y_sld C hX hbl hbA hw.2 (i' := (i + 5)) (zm_eq (by omega) (by omega)) (by omega) dL_law_1370 ?_
  refine y_aload_n C dL_law_1371 (lv_at hl 0 rfl) ?_
  refine y_iload_n C dL_law_1372 (lv_at hl 3 rfl) ?_
  refine y_bipush C dL_law_1373 (by decide) ?_
  refine y_iadd C dL_law_1375 ?_
  refine y_sld C hX hbl hbA hw.2 (i' := (i + 6)) (zm_eq (by omega) (by omega)) (by omega) dL_law_1376 ?_
  refine y_ciL (rest := [.int (zI x1.1)]) hw (y_rVL ⟨Nat.le_refl _, Nat.le_refl _⟩ C hw km_0 (by decide) rfl rfl (c_X8_buy hy1) mi_X8_buy wd_1305 wd_1306 wd_1307 rfl ⟨by decide, by decide⟩ hl rfl (Nat.le_of_ble_eq_true rfl) dL_law_1377) (fun H locs hw => ?_)
  have hw : At D cA adX kX 151 (wl cA adM kM 31 y1.2) A s x1.2 H locs := ⟨Wd_MX hw.1, hw.2⟩
  refine y_icmp_eq (tgt := 1790) C rfl rfl dL_law_1380 (by decide) (fun _ => hN x1.2 y1.2 H locs hI1 hw ls hl) (fun q => absurd he q)
set_option maxRecDepth 100000 in
set_option maxHeartbeats 4000000 in
theorem lc_23 {Inv : St → St → Prop} (C : Cx cL_law RL 4 (some .boolean) D cA adK adV A p s m args meth c) (hX : va_X b L xs s s.heap) (hbl : b < s.heap.size) (hbA : ¬ A b) (hL : L ≤ 5120) (hOK : ∀ a1 a2 a3 a4 : Int, i32 a1 → i32 a2 → i32 a3 → i32 a4 → StepOK Inv (p_X7_keepRung a1 a2 a3 a4) (p_X8_keepRung a1 a2 a3 a4)) {i : Int} (hi : 0 ≤ i ∧ i + 10 ≤ (L : Int)) (hN : ∀ (σ τ : St) (H : Heap) (locs : List Loc), Inv σ τ → At D cA adX kX 151 (wl cA adM kM 31 τ) A s σ H locs → ∀ ls : Array Slot, lv_has ls 4 [(0, .ref b), (1, .ref (adX 0)), (2, .ref (adM 0)), (3, .int (zI i))] → W p l e room_1 s m args below meth c H locs 600000 7302250 Q (F0 m 1790 ls [])) {σ τ : St} (hI : Inv σ τ) {H : Heap} {locs : List Loc} (hw : At D cA adX kX 151 (wl cA adM kM 31 τ) A s σ H locs) {ls : Array Slot} (hl : lv_has ls 4 [(0, .ref b), (1, .ref (adX 0)), (2, .ref (adM 0)), (3, .int (zI i))]) : W p l e room_1 s m args below meth c H locs 600000 7302250 Q (F0 m 1385 ls []) := by
  have hL' : (L : Int) ≤ 5120 := by omega
  obtain ⟨hi1, hi2⟩ := hi
  obtain ⟨x1, y1, hx1, hy1, he, hI1⟩ := hOK (sv xs (i + 1)) (sv xs (i + 2)) (sv xs (i + 3)) (sv xs (i + 4)) (sv_i32 _ _) (sv_i32 _ _) (sv_i32 _ _) (sv_i32 _ _) σ τ hI
  refine y_aload_n C dL_law_1385 (lv_at hl 1 rfl) ?_
  refine y_aload_n C dL_law_1386 (lv_at hl 0 rfl) ?_
  refine y_iload_n C dL_law_1387 (lv_at hl 3 rfl) ?_
  refine y_iconst C dL_law_1388 ?_
  refine y_iadd C dL_law_1389 ?_
  refine y_sld C hX hbl hbA hw.2 (i' := (i + 1)) (zm_eq (by omega) (by omega)) (by omega) dL_law_1390 ?_
  refine y_aload_n C dL_law_1391 (lv_at hl 0 rfl) ?_
  refine y_iload_n C dL_law_1392 (lv_at hl 3 rfl) ?_
  refine y_iconst C dL_law_1393 ?_
  refine y_iadd C dL_law_1394 ?_
  refine y_sld C hX hbl hbA hw.2 (i' := (i + 2)) (zm_eq (by omega) (by omega)) (by omega) dL_law_1395 ?_
  refine y_aload_n C dL_law_1396 (lv_at hl 0 rfl) ?_
  refine y_iload_n C dL_law_1397 (lv_at hl 3 rfl) ?_
  refine y_iconst C dL_law_1398 ?_
  refine y_iadd C dL_law_1399 ?_
  refine y_sld C hX hbl hbA hw.2 (i' := (i + 3)) (zm_eq (by omega) (by omega)) (by omega) dL_law_1400 ?_
  refine y_aload_n C dL_law_1401 (lv_at hl 0 rfl) ?_
  refine y_iload_n C dL_law_1402 (lv_at hl 3 rfl) ?_
  refine y_iconst C dL_law_1403 ?_
  refine y_iadd C dL_law_1404 ?_
  refine y_sld C hX hbl hbA hw.2 (i' := (i + 4)) (zm_eq (by omega) (by omega)) (by omega) dL_law_1405 ?_
  refine y_ciL (rest := []) hw (y_rVL ⟨Nat.le_refl _, Nat.le_refl _⟩ C hw kx_0 (by decide) rfl rfl (c_X7_keepRung hx1) mi_X7_keepRung wd_802 wd_803 wd_804 rfl ⟨by decide, by decide⟩ hl rfl (Nat.le_of_ble_eq_true rfl) dL_law_1406) (fun H locs hw => ?_)
  have hw : At D cA adM kM 31 (wl cA adX kX 151 x1.2) A s τ H locs := ⟨Wd_XM hw.1, hw.2⟩
  refine y_aload_n C dL_law_1409 (lv_at hl 2 rfl) ?_
  refine y_aload_n C dL_law_1410 (lv_at hl 0 rfl) ?_
  refine y_iload_n C dL_law_1411 (lv_at hl 3 rfl) ?_
  refine y_iconst C dL_law_1412 ?_
  refine y_iadd C dL_law_1413 ?_
  refine y_sld C hX hbl hbA hw.2 (i' := (i + 1)) (zm_eq (by omega) (by omega)) (by omega) dL_law_1414 ?_
  refine y_aload_n C dL_law_1415 (lv_at hl 0 rfl) ?_
  refine y_iload_n C dL_law_1416 (lv_at hl 3 rfl) ?_
  refine y_iconst C dL_law_1417 ?_
  refine y_iadd C dL_law_1418 ?_
  refine y_sld C hX hbl hbA hw.2 (i' := (i + 2)) (zm_eq (by omega) (by omega)) (by omega) dL_law_1419 ?_
  refine y_aload_n C dL_law_1420 (lv_at hl 0 rfl) ?_
  refine y_iload_n C dL_law_1421 (lv_at hl 3 rfl) ?_
  refine y_iconst C dL_law_1422 ?_
  refine y_iadd C dL_law_1423 ?_
  refine y_sld C hX hbl hbA hw.2 (i' := (i + 3)) (zm_eq (by omega) (by omega)) (by omega) dL_law_1424 ?_
  refine y_aload_n C dL_law_1425 (lv_at hl 0 rfl) ?_
  refine y_iload_n C dL_law_1426 (lv_at hl 3 rfl) ?_
  refine y_iconst C dL_law_1427 ?_
  refine y_iadd C dL_law_1428 ?_
  refine y_sld C hX hbl hbA hw.2 (i' := (i + 4)) (zm_eq (by omega) (by omega)) (by omega) dL_law_1429 ?_
  refine y_ciL (rest := [.int (zI x1.1)]) hw (y_rVL ⟨Nat.le_refl _, Nat.le_refl _⟩ C hw km_0 (by decide) rfl rfl (c_X8_keepRung hy1) mi_X8_keepRung wd_1309 wd_1310 wd_1311 rfl ⟨by decide, by decide⟩ hl rfl (Nat.le_of_ble_eq_true rfl) dL_law_1430) (fun H locs hw => ?_)
  have hw : At D cA adX kX 151 (wl cA adM kM 31 y1.2) A s x1.2 H locs := ⟨Wd_MX hw.1, hw.2⟩
  refine y_icmp_eq (tgt := 1790) C rfl rfl dL_law_1433 (by decide) (fun _ => hN x1.2 y1.2 H locs hI1 hw ls hl) (fun q => absurd he q)
set_option maxRecDepth 100000 in
set_option maxHeartbeats 4000000 in
theorem lc_24 {Inv : St → St → Prop} (C : Cx cL_law RL 4 (some .boolean) D cA adK adV A p s m args meth c) (hX : va_X b L xs s s.heap) (hbl : b < s.heap.size) (hbA : ¬ A b) (hL : L ≤ 5120) (hOK : ∀ a1 a2 a3 a4 : Int, i32 a1 → i32 a2 → i32 a3 → i32 a4 → StepOK Inv (p_X7_leave a1 a2 a3 a4) (p_X8_leave a1 a2 a3 a4)) {i : Int} (hi : 0 ≤ i ∧ i + 10 ≤ (L : Int)) (hN : ∀ (σ τ : St) (H : Heap) (locs : List Loc), Inv σ τ → At D cA adX kX 151 (wl cA adM kM 31 τ) A s σ H locs → ∀ ls : Array Slot, lv_has ls 4 [(0, .ref b), (1, .ref (adX 0)), (2, .ref (adM 0)), (3, .int (zI i))] → W p l e room_1 s m args below meth c H locs 600000 7302250 Q (F0 m 1790 ls [])) {σ τ : St} (hI : Inv σ τ) {H : Heap} {locs : List Loc} (hw : At D cA adX kX 151 (wl cA adM kM 31 τ) A s σ H locs) {ls : Array Slot} (hl : lv_has ls 4 [(0, .ref b), (1, .ref (adX 0)), (2, .ref (adM 0)), (3, .int (zI i))]) : W p l e room_1 s m args below meth c H locs 600000 7302250 Q (F0 m 1438 ls []) := by
  have hL' : (L : Int) ≤ 5120 := by omega
  obtain ⟨hi1, hi2⟩ := hi
  obtain ⟨x1, y1, hx1, hy1, he, hI1⟩ := hOK (sv xs (i + 1)) (sv xs (i + 2)) (sv xs (i + 3)) (sv xs (i + 4)) (sv_i32 _ _) (sv_i32 _ _) (sv_i32 _ _) (sv_i32 _ _) σ τ hI
  refine y_aload_n C dL_law_1438 (lv_at hl 1 rfl) ?_
  refine y_aload_n C dL_law_1439 (lv_at hl 0 rfl) ?_
  refine y_iload_n C dL_law_1440 (lv_at hl 3 rfl) ?_
  refine y_iconst C dL_law_1441 ?_
  refine y_iadd C dL_law_1442 ?_
  refine y_sld C hX hbl hbA hw.2 (i' := (i + 1)) (zm_eq (by omega) (by omega)) (by omega) dL_law_1443 ?_
  refine y_aload_n C dL_law_1444 (lv_at hl 0 rfl) ?_
  refine y_iload_n C dL_law_1445 (lv_at hl 3 rfl) ?_
  refine y_iconst C dL_law_1446 ?_
  refine y_iadd C dL_law_1447 ?_
  refine y_sld C hX hbl hbA hw.2 (i' := (i + 2)) (zm_eq (by omega) (by omega)) (by omega) dL_law_1448 ?_
  refine y_aload_n C dL_law_1449 (lv_at hl 0 rfl) ?_
  refine y_iload_n C dL_law_1450 (lv_at hl 3 rfl) ?_
  refine y_iconst C dL_law_1451 ?_
  refine y_iadd C dL_law_1452 ?_
  refine y_sld C hX hbl hbA hw.2 (i' := (i + 3)) (zm_eq (by omega) (by omega)) (by omega) dL_law_1453 ?_
  refine y_aload_n C dL_law_1454 (lv_at hl 0 rfl) ?_
  refine y_iload_n C dL_law_1455 (lv_at hl 3 rfl) ?_
  refine y_iconst C dL_law_1456 ?_
  refine y_iadd C dL_law_1457 ?_
  refine y_sld C hX hbl hbA hw.2 (i' := (i + 4)) (zm_eq (by omega) (by omega)) (by omega) dL_law_1458 ?_
  refine y_ciL (rest := []) hw (y_rVL ⟨Nat.le_refl _, Nat.le_refl _⟩ C hw kx_0 (by decide) rfl rfl (c_X7_leave hx1) mi_X7_leave wd_807 wd_808 wd_809 rfl ⟨by decide, by decide⟩ hl rfl (Nat.le_of_ble_eq_true rfl) dL_law_1459) (fun H locs hw => ?_)
  have hw : At D cA adM kM 31 (wl cA adX kX 151 x1.2) A s τ H locs := ⟨Wd_XM hw.1, hw.2⟩
  refine y_aload_n C dL_law_1462 (lv_at hl 2 rfl) ?_
  refine y_aload_n C dL_law_1463 (lv_at hl 0 rfl) ?_
  refine y_iload_n C dL_law_1464 (lv_at hl 3 rfl) ?_
  refine y_iconst C dL_law_1465 ?_
  refine y_iadd C dL_law_1466 ?_
  refine y_sld C hX hbl hbA hw.2 (i' := (i + 1)) (zm_eq (by omega) (by omega)) (by omega) dL_law_1467 ?_
  refine y_aload_n C dL_law_1468 (lv_at hl 0 rfl) ?_
  refine y_iload_n C dL_law_1469 (lv_at hl 3 rfl) ?_
  refine y_iconst C dL_law_1470 ?_
  refine y_iadd C dL_law_1471 ?_
  refine y_sld C hX hbl hbA hw.2 (i' := (i + 2)) (zm_eq (by omega) (by omega)) (by omega) dL_law_1472 ?_
  refine y_aload_n C dL_law_1473 (lv_at hl 0 rfl) ?_
  refine y_iload_n C dL_law_1474 (lv_at hl 3 rfl) ?_
  refine y_iconst C dL_law_1475 ?_
  refine y_iadd C dL_law_1476 ?_
  refine y_sld C hX hbl hbA hw.2 (i' := (i + 3)) (zm_eq (by omega) (by omega)) (by omega) dL_law_1477 ?_
  refine y_aload_n C dL_law_1478 (lv_at hl 0 rfl) ?_
  refine y_iload_n C dL_law_1479 (lv_at hl 3 rfl) ?_
  refine y_iconst C dL_law_1480 ?_
  refine y_iadd C dL_law_1481 ?_
  refine y_sld C hX hbl hbA hw.2 (i' := (i + 4)) (zm_eq (by omega) (by omega)) (by omega) dL_law_1482 ?_
  refine y_ciL (rest := [.int (zI x1.1)]) hw (y_rVL ⟨Nat.le_refl _, Nat.le_refl _⟩ C hw km_0 (by decide) rfl rfl (c_X8_leave hy1) mi_X8_leave wd_1313 wd_1314 wd_1315 rfl ⟨by decide, by decide⟩ hl rfl (Nat.le_of_ble_eq_true rfl) dL_law_1483) (fun H locs hw => ?_)
  have hw : At D cA adX kX 151 (wl cA adM kM 31 y1.2) A s x1.2 H locs := ⟨Wd_MX hw.1, hw.2⟩
  refine y_icmp_eq (tgt := 1790) C rfl rfl dL_law_1486 (by decide) (fun _ => hN x1.2 y1.2 H locs hI1 hw ls hl) (fun q => absurd he q)
set_option maxRecDepth 100000 in
set_option maxHeartbeats 4000000 in
theorem lc_25 {Inv : St → St → Prop} (C : Cx cL_law RL 4 (some .boolean) D cA adK adV A p s m args meth c) (hX : va_X b L xs s s.heap) (hbl : b < s.heap.size) (hbA : ¬ A b) (hL : L ≤ 5120) (hOK : ∀ a1 a2 a3 a4 a5 a6 a7 a8 a9 : Int, i32 a1 → i32 a2 → i32 a3 → i32 a4 → i32 a5 → i32 a6 → i32 a7 → i32 a8 → i32 a9 → StepOK Inv (p_X7_pad a1 a2 a3 a4 a5 a6 a7 a8 a9) (p_X8_pad a1 a2 a3 a4 a5 a6 a7 a8 a9)) {i : Int} (hi : 0 ≤ i ∧ i + 10 ≤ (L : Int)) (hN : ∀ (σ τ : St) (H : Heap) (locs : List Loc), Inv σ τ → At D cA adX kX 151 (wl cA adM kM 31 τ) A s σ H locs → ∀ ls : Array Slot, lv_has ls 4 [(0, .ref b), (1, .ref (adX 0)), (2, .ref (adM 0)), (3, .int (zI i))] → W p l e room_1 s m args below meth c H locs 600000 7302250 Q (F0 m 1790 ls [])) {σ τ : St} (hI : Inv σ τ) {H : Heap} {locs : List Loc} (hw : At D cA adX kX 151 (wl cA adM kM 31 τ) A s σ H locs) {ls : Array Slot} (hl : lv_has ls 4 [(0, .ref b), (1, .ref (adX 0)), (2, .ref (adM 0)), (3, .int (zI i))]) : W p l e room_1 s m args below meth c H locs 600000 7302250 Q (F0 m 1491 ls []) := by
  have hL' : (L : Int) ≤ 5120 := by omega
  obtain ⟨hi1, hi2⟩ := hi
  obtain ⟨x1, y1, hx1, hy1, he, hI1⟩ := hOK (sv xs (i + 1)) (sv xs (i + 2)) (sv xs (i + 3)) (sv xs (i + 4)) (sv xs (i + 5)) (sv xs (i + 6)) (sv xs (i + 7)) (sv xs (i + 8)) (sv xs (i + 9)) (sv_i32 _ _) (sv_i32 _ _) (sv_i32 _ _) (sv_i32 _ _) (sv_i32 _ _) (sv_i32 _ _) (sv_i32 _ _) (sv_i32 _ _) (sv_i32 _ _) σ τ hI
  refine y_aload_n C dL_law_1491 (lv_at hl 1 rfl) ?_
  refine y_aload_n C dL_law_1492 (lv_at hl 0 rfl) ?_
  refine y_iload_n C dL_law_1493 (lv_at hl 3 rfl) ?_
  refine y_iconst C dL_law_1494 ?_
  refine y_iadd C dL_law_1495 ?_
  refine y_sld C hX hbl hbA hw.2 (i' := (i + 1)) (zm_eq (by omega) (by omega)) (by omega) dL_law_1496 ?_
  refine y_aload_n C dL_law_1497 (lv_at hl 0 rfl) ?_
  refine y_iload_n C dL_law_1498 (lv_at hl 3 rfl) ?_
  refine y_iconst C dL_law_1499 ?_
  refine y_iadd C dL_law_1500 ?_
  refine y_sld C hX hbl hbA hw.2 (i' := (i + 2)) (zm_eq (by omega) (by omega)) (by omega) dL_law_1501 ?_
  refine y_aload_n C dL_law_1502 (lv_at hl 0 rfl) ?_
  refine y_iload_n C dL_law_1503 (lv_at hl 3 rfl) ?_
  refine y_iconst C dL_law_1504 ?_
  refine y_iadd C dL_law_1505 ?_
  refine y_sld C hX hbl hbA hw.2 (i' := (i + 3)) (zm_eq (by omega) (by omega)) (by omega) dL_law_1506 ?_
  refine y_aload_n C dL_law_1507 (lv_at hl 0 rfl) ?_
  refine y_iload_n C dL_law_1508 (lv_at hl 3 rfl) ?_
  refine y_iconst C dL_law_1509 ?_
  refine y_iadd C dL_law_1510 ?_
  refine y_sld C hX hbl hbA hw.2 (i' := (i + 4)) (zm_eq (by omega) (by omega)) (by omega) dL_law_1511 ?_
  refine y_aload_n C dL_law_1512 (lv_at hl 0 rfl) ?_
  refine y_iload_n C dL_law_1513 (lv_at hl 3 rfl) ?_
  refine y_iconst C dL_law_1514 ?_
  refine y_iadd C dL_law_1515 ?_
  refine y_sld C hX hbl hbA hw.2 (i' := (i + 5)) (zm_eq (by omega) (by omega)) (by omega) dL_law_1516 ?_
  refine y_aload_n C dL_law_1517 (lv_at hl 0 rfl) ?_
  refine y_iload_n C dL_law_1518 (lv_at hl 3 rfl) ?_
  refine y_bipush C dL_law_1519 (by decide) ?_
  refine y_iadd C dL_law_1521 ?_
  refine y_sld C hX hbl hbA hw.2 (i' := (i + 6)) (zm_eq (by omega) (by omega)) (by omega) dL_law_1522 ?_
  refine y_aload_n C dL_law_1523 (lv_at hl 0 rfl) ?_
  refine y_iload_n C dL_law_1524 (lv_at hl 3 rfl) ?_
  refine y_bipush C dL_law_1525 (by decide) ?_
  refine y_iadd C dL_law_1527 ?_
  refine y_sld C hX hbl hbA hw.2 (i' := (i + 7)) (zm_eq (by omega) (by omega)) (by omega) dL_law_1528 ?_
  refine y_aload_n C dL_law_1529 (lv_at hl 0 rfl) ?_
  refine y_iload_n C dL_law_1530 (lv_at hl 3 rfl) ?_
  refine y_bipush C dL_law_1531 (by decide) ?_
  refine y_iadd C dL_law_1533 ?_
  refine y_sld C hX hbl hbA hw.2 (i' := (i + 8)) (zm_eq (by omega) (by omega)) (by omega) dL_law_1534 ?_
  refine y_aload_n C dL_law_1535 (lv_at hl 0 rfl) ?_
  refine y_iload_n C dL_law_1536 (lv_at hl 3 rfl) ?_
  refine y_bipush C dL_law_1537 (by decide) ?_
  refine y_iadd C dL_law_1539 ?_
  refine y_sld C hX hbl hbA hw.2 (i' := (i + 9)) (zm_eq (by omega) (by omega)) (by omega) dL_law_1540 ?_
  refine y_ciL (rest := []) hw (y_rVL ⟨Nat.le_refl _, Nat.le_refl _⟩ C hw kx_0 (by decide) rfl rfl (c_X7_pad hx1) mi_X7_pad wd_812 wd_813 wd_814 rfl ⟨by decide, by decide⟩ hl rfl (Nat.le_of_ble_eq_true rfl) dL_law_1541) (fun H locs hw => ?_)
  have hw : At D cA adM kM 31 (wl cA adX kX 151 x1.2) A s τ H locs := ⟨Wd_XM hw.1, hw.2⟩
  refine y_aload_n C dL_law_1544 (lv_at hl 2 rfl) ?_
  refine y_aload_n C dL_law_1545 (lv_at hl 0 rfl) ?_
  refine y_iload_n C dL_law_1546 (lv_at hl 3 rfl) ?_
  refine y_iconst C dL_law_1547 ?_
  refine y_iadd C dL_law_1548 ?_
  refine y_sld C hX hbl hbA hw.2 (i' := (i + 1)) (zm_eq (by omega) (by omega)) (by omega) dL_law_1549 ?_
  refine y_aload_n C dL_law_1550 (lv_at hl 0 rfl) ?_
  refine y_iload_n C dL_law_1551 (lv_at hl 3 rfl) ?_
  refine y_iconst C dL_law_1552 ?_
  refine y_iadd C dL_law_1553 ?_
  refine y_sld C hX hbl hbA hw.2 (i' := (i + 2)) (zm_eq (by omega) (by omega)) (by omega) dL_law_1554 ?_
  refine y_aload_n C dL_law_1555 (lv_at hl 0 rfl) ?_
  refine y_iload_n C dL_law_1556 (lv_at hl 3 rfl) ?_
  refine y_iconst C dL_law_1557 ?_
  refine y_iadd C dL_law_1558 ?_
  refine y_sld C hX hbl hbA hw.2 (i' := (i + 3)) (zm_eq (by omega) (by omega)) (by omega) dL_law_1559 ?_
  refine y_aload_n C dL_law_1560 (lv_at hl 0 rfl) ?_
  refine y_iload_n C dL_law_1561 (lv_at hl 3 rfl) ?_
  refine y_iconst C dL_law_1562 ?_
  refine y_iadd C dL_law_1563 ?_
  refine y_sld C hX hbl hbA hw.2 (i' := (i + 4)) (zm_eq (by omega) (by omega)) (by omega) dL_law_1564 ?_
  refine y_aload_n C dL_law_1565 (lv_at hl 0 rfl) ?_
  refine y_iload_n C dL_law_1566 (lv_at hl 3 rfl) ?_
  refine y_iconst C dL_law_1567 ?_
  refine y_iadd C dL_law_1568 ?_
  refine y_sld C hX hbl hbA hw.2 (i' := (i + 5)) (zm_eq (by omega) (by omega)) (by omega) dL_law_1569 ?_
  refine y_aload_n C dL_law_1570 (lv_at hl 0 rfl) ?_
  refine y_iload_n C dL_law_1571 (lv_at hl 3 rfl) ?_
  refine y_bipush C dL_law_1572 (by decide) ?_
  refine y_iadd C dL_law_1574 ?_
  refine y_sld C hX hbl hbA hw.2 (i' := (i + 6)) (zm_eq (by omega) (by omega)) (by omega) dL_law_1575 ?_
  refine y_aload_n C dL_law_1576 (lv_at hl 0 rfl) ?_
  refine y_iload_n C dL_law_1577 (lv_at hl 3 rfl) ?_
  refine y_bipush C dL_law_1578 (by decide) ?_
  refine y_iadd C dL_law_1580 ?_
  refine y_sld C hX hbl hbA hw.2 (i' := (i + 7)) (zm_eq (by omega) (by omega)) (by omega) dL_law_1581 ?_
  refine y_aload_n C dL_law_1582 (lv_at hl 0 rfl) ?_
  refine y_iload_n C dL_law_1583 (lv_at hl 3 rfl) ?_
  refine y_bipush C dL_law_1584 (by decide) ?_
  refine y_iadd C dL_law_1586 ?_
  refine y_sld C hX hbl hbA hw.2 (i' := (i + 8)) (zm_eq (by omega) (by omega)) (by omega) dL_law_1587 ?_
  refine y_aload_n C dL_law_1588 (lv_at hl 0 rfl) ?_
  refine y_iload_n C dL_law_1589 (lv_at hl 3 rfl) ?_
  refine y_bipush C dL_law_1590 (by decide) ?_
  refine y_iadd C dL_law_1592 ?_
  refine y_sld C hX hbl hbA hw.2 (i' := (i + 9)) (zm_eq (by omega) (by omega)) (by omega) dL_law_1593 ?_
  refine y_ciL (rest := [.int (zI x1.1)]) hw (y_rVL ⟨Nat.le_refl _, Nat.le_refl _⟩ C hw km_0 (by decide) rfl rfl (c_X8_pad hy1) mi_X8_pad wd_1317 wd_1318 wd_1319 rfl ⟨by decide, by decide⟩ hl rfl (Nat.le_of_ble_eq_true rfl) dL_law_1594) (fun H locs hw => ?_)
  have hw : At D cA adX kX 151 (wl cA adM kM 31 y1.2) A s x1.2 H locs := ⟨Wd_MX hw.1, hw.2⟩
  refine y_icmp_eq (tgt := 1790) C rfl rfl dL_law_1597 (by decide) (fun _ => hN x1.2 y1.2 H locs hI1 hw ls hl) (fun q => absurd he q)
set_option maxRecDepth 100000 in
set_option maxHeartbeats 4000000 in
theorem lc_26 {Inv : St → St → Prop} (C : Cx cL_law RL 4 (some .boolean) D cA adK adV A p s m args meth c) (hX : va_X b L xs s s.heap) (hbl : b < s.heap.size) (hbA : ¬ A b) (hL : L ≤ 5120) (hOK : ∀ a1 a2 a3 : Int, i32 a1 → i32 a2 → i32 a3 → StepOK Inv (p_X7_setting a1 a2 a3) (p_X8_setting a1 a2 a3)) {i : Int} (hi : 0 ≤ i ∧ i + 10 ≤ (L : Int)) (hN : ∀ (σ τ : St) (H : Heap) (locs : List Loc), Inv σ τ → At D cA adX kX 151 (wl cA adM kM 31 τ) A s σ H locs → ∀ ls : Array Slot, lv_has ls 4 [(0, .ref b), (1, .ref (adX 0)), (2, .ref (adM 0)), (3, .int (zI i))] → W p l e room_1 s m args below meth c H locs 600000 7302250 Q (F0 m 1790 ls [])) {σ τ : St} (hI : Inv σ τ) {H : Heap} {locs : List Loc} (hw : At D cA adX kX 151 (wl cA adM kM 31 τ) A s σ H locs) {ls : Array Slot} (hl : lv_has ls 4 [(0, .ref b), (1, .ref (adX 0)), (2, .ref (adM 0)), (3, .int (zI i))]) : W p l e room_1 s m args below meth c H locs 600000 7302250 Q (F0 m 1602 ls []) := by
  have hL' : (L : Int) ≤ 5120 := by omega
  obtain ⟨hi1, hi2⟩ := hi
  obtain ⟨x1, y1, hx1, hy1, he, hI1⟩ := hOK (sv xs (i + 1)) (sv xs (i + 2)) (sv xs (i + 3)) (sv_i32 _ _) (sv_i32 _ _) (sv_i32 _ _) σ τ hI
  refine y_aload_n C dL_law_1602 (lv_at hl 1 rfl) ?_
  refine y_aload_n C dL_law_1603 (lv_at hl 0 rfl) ?_
  refine y_iload_n C dL_law_1604 (lv_at hl 3 rfl) ?_
  refine y_iconst C dL_law_1605 ?_
  refine y_iadd C dL_law_1606 ?_
  refine y_sld C hX hbl hbA hw.2 (i' := (i + 1)) (zm_eq (by omega) (by omega)) (by omega) dL_law_1607 ?_
  refine y_aload_n C dL_law_1608 (lv_at hl 0 rfl) ?_
  refine y_iload_n C dL_law_1609 (lv_at hl 3 rfl) ?_
  refine y_iconst C dL_law_1610 ?_
  refine y_iadd C dL_law_1611 ?_
  refine y_sld C hX hbl hbA hw.2 (i' := (i + 2)) (zm_eq (by omega) (by omega)) (by omega) dL_law_1612 ?_
  refine y_aload_n C dL_law_1613 (lv_at hl 0 rfl) ?_
  refine y_iload_n C dL_law_1614 (lv_at hl 3 rfl) ?_
  refine y_iconst C dL_law_1615 ?_
  refine y_iadd C dL_law_1616 ?_
  refine y_sld C hX hbl hbA hw.2 (i' := (i + 3)) (zm_eq (by omega) (by omega)) (by omega) dL_law_1617 ?_
  refine y_ciL (rest := []) hw (y_rVL ⟨Nat.le_refl _, Nat.le_refl _⟩ C hw kx_0 (by decide) rfl rfl (c_X7_setting hx1) mi_X7_setting wd_818 wd_819 wd_820 rfl ⟨by decide, by decide⟩ hl rfl (Nat.le_of_ble_eq_true rfl) dL_law_1618) (fun H locs hw => ?_)
  have hw : At D cA adM kM 31 (wl cA adX kX 151 x1.2) A s τ H locs := ⟨Wd_XM hw.1, hw.2⟩
  refine y_aload_n C dL_law_1621 (lv_at hl 2 rfl) ?_
  refine y_aload_n C dL_law_1622 (lv_at hl 0 rfl) ?_
  refine y_iload_n C dL_law_1623 (lv_at hl 3 rfl) ?_
  refine y_iconst C dL_law_1624 ?_
  refine y_iadd C dL_law_1625 ?_
  refine y_sld C hX hbl hbA hw.2 (i' := (i + 1)) (zm_eq (by omega) (by omega)) (by omega) dL_law_1626 ?_
  refine y_aload_n C dL_law_1627 (lv_at hl 0 rfl) ?_
  refine y_iload_n C dL_law_1628 (lv_at hl 3 rfl) ?_
  refine y_iconst C dL_law_1629 ?_
  refine y_iadd C dL_law_1630 ?_
  refine y_sld C hX hbl hbA hw.2 (i' := (i + 2)) (zm_eq (by omega) (by omega)) (by omega) dL_law_1631 ?_
  refine y_aload_n C dL_law_1632 (lv_at hl 0 rfl) ?_
  refine y_iload_n C dL_law_1633 (lv_at hl 3 rfl) ?_
  refine y_iconst C dL_law_1634 ?_
  refine y_iadd C dL_law_1635 ?_
  refine y_sld C hX hbl hbA hw.2 (i' := (i + 3)) (zm_eq (by omega) (by omega)) (by omega) dL_law_1636 ?_
  refine y_ciL (rest := [.int (zI x1.1)]) hw (y_rVL ⟨Nat.le_refl _, Nat.le_refl _⟩ C hw km_0 (by decide) rfl rfl (c_X8_setting hy1) mi_X8_setting wd_1321 wd_1322 wd_1323 rfl ⟨by decide, by decide⟩ hl rfl (Nat.le_of_ble_eq_true rfl) dL_law_1637) (fun H locs hw => ?_)
  have hw : At D cA adX kX 151 (wl cA adM kM 31 y1.2) A s x1.2 H locs := ⟨Wd_MX hw.1, hw.2⟩
  refine y_icmp_eq (tgt := 1790) C rfl rfl dL_law_1640 (by decide) (fun _ => hN x1.2 y1.2 H locs hI1 hw ls hl) (fun q => absurd he q)
set_option maxRecDepth 100000 in
set_option maxHeartbeats 4000000 in
theorem lc_27 {Inv : St → St → Prop} (C : Cx cL_law RL 4 (some .boolean) D cA adK adV A p s m args meth c) (hX : va_X b L xs s s.heap) (hbl : b < s.heap.size) (hbA : ¬ A b) (hL : L ≤ 5120) (hOK : ∀ a1 : Int, i32 a1 → StepOK Inv (p_X7_seed a1) (p_X8_seed a1)) {i : Int} (hi : 0 ≤ i ∧ i + 10 ≤ (L : Int)) (hN : ∀ (σ τ : St) (H : Heap) (locs : List Loc), Inv σ τ → At D cA adX kX 151 (wl cA adM kM 31 τ) A s σ H locs → ∀ ls : Array Slot, lv_has ls 4 [(0, .ref b), (1, .ref (adX 0)), (2, .ref (adM 0)), (3, .int (zI i))] → W p l e room_1 s m args below meth c H locs 600000 7302250 Q (F0 m 1790 ls [])) {σ τ : St} (hI : Inv σ τ) {H : Heap} {locs : List Loc} (hw : At D cA adX kX 151 (wl cA adM kM 31 τ) A s σ H locs) {ls : Array Slot} (hl : lv_has ls 4 [(0, .ref b), (1, .ref (adX 0)), (2, .ref (adM 0)), (3, .int (zI i))]) : W p l e room_1 s m args below meth c H locs 600000 7302250 Q (F0 m 1645 ls []) := by
  have hL' : (L : Int) ≤ 5120 := by omega
  obtain ⟨hi1, hi2⟩ := hi
  obtain ⟨x1, y1, hx1, hy1, he, hI1⟩ := hOK (sv xs (i + 1)) (sv_i32 _ _) σ τ hI
  refine y_aload_n C dL_law_1645 (lv_at hl 1 rfl) ?_
  refine y_aload_n C dL_law_1646 (lv_at hl 0 rfl) ?_
  refine y_iload_n C dL_law_1647 (lv_at hl 3 rfl) ?_
  refine y_iconst C dL_law_1648 ?_
  refine y_iadd C dL_law_1649 ?_
  refine y_sld C hX hbl hbA hw.2 (i' := (i + 1)) (zm_eq (by omega) (by omega)) (by omega) dL_law_1650 ?_
  refine y_ciL (rest := []) hw (y_rVL ⟨Nat.le_refl _, Nat.le_refl _⟩ C hw kx_0 (by decide) rfl rfl (c_X7_seed hx1) mi_X7_seed wd_828 wd_829 wd_830 rfl ⟨by decide, by decide⟩ hl rfl (Nat.le_of_ble_eq_true rfl) dL_law_1651) (fun H locs hw => ?_)
  have hw : At D cA adM kM 31 (wl cA adX kX 151 x1.2) A s τ H locs := ⟨Wd_XM hw.1, hw.2⟩
  refine y_aload_n C dL_law_1654 (lv_at hl 2 rfl) ?_
  refine y_aload_n C dL_law_1655 (lv_at hl 0 rfl) ?_
  refine y_iload_n C dL_law_1656 (lv_at hl 3 rfl) ?_
  refine y_iconst C dL_law_1657 ?_
  refine y_iadd C dL_law_1658 ?_
  refine y_sld C hX hbl hbA hw.2 (i' := (i + 1)) (zm_eq (by omega) (by omega)) (by omega) dL_law_1659 ?_
  refine y_ciL (rest := [.int (zI x1.1)]) hw (y_rVL ⟨Nat.le_refl _, Nat.le_refl _⟩ C hw km_0 (by decide) rfl rfl (c_X8_seed hy1) mi_X8_seed wd_1335 wd_1336 wd_1337 rfl ⟨by decide, by decide⟩ hl rfl (Nat.le_of_ble_eq_true rfl) dL_law_1660) (fun H locs hw => ?_)
  have hw : At D cA adX kX 151 (wl cA adM kM 31 y1.2) A s x1.2 H locs := ⟨Wd_MX hw.1, hw.2⟩
  refine y_icmp_eq (tgt := 1790) C rfl rfl dL_law_1663 (by decide) (fun _ => hN x1.2 y1.2 H locs hI1 hw ls hl) (fun q => absurd he q)
set_option maxRecDepth 100000 in
set_option maxHeartbeats 4000000 in
theorem lc_28 {Inv : St → St → Prop} (C : Cx cL_law RL 4 (some .boolean) D cA adK adV A p s m args meth c) (hX : va_X b L xs s s.heap) (hbl : b < s.heap.size) (hbA : ¬ A b) (hL : L ≤ 5120) (hOK : ∀ a1 a2 a3 a4 : Int, i32 a1 → i32 a2 → i32 a3 → i32 a4 → StepOK Inv (p_X7_lives a1 a2 a3 a4) (p_X8_lives a1 a2 a3 a4)) {i : Int} (hi : 0 ≤ i ∧ i + 10 ≤ (L : Int)) (hN : ∀ (σ τ : St) (H : Heap) (locs : List Loc), Inv σ τ → At D cA adX kX 151 (wl cA adM kM 31 τ) A s σ H locs → ∀ ls : Array Slot, lv_has ls 4 [(0, .ref b), (1, .ref (adX 0)), (2, .ref (adM 0)), (3, .int (zI i))] → W p l e room_1 s m args below meth c H locs 600000 7302250 Q (F0 m 1790 ls [])) {σ τ : St} (hI : Inv σ τ) {H : Heap} {locs : List Loc} (hw : At D cA adX kX 151 (wl cA adM kM 31 τ) A s σ H locs) {ls : Array Slot} (hl : lv_has ls 4 [(0, .ref b), (1, .ref (adX 0)), (2, .ref (adM 0)), (3, .int (zI i))]) : W p l e room_1 s m args below meth c H locs 600000 7302250 Q (F0 m 1668 ls []) := by
  have hL' : (L : Int) ≤ 5120 := by omega
  obtain ⟨hi1, hi2⟩ := hi
  obtain ⟨x1, y1, hx1, hy1, he, hI1⟩ := hOK (sv xs (i + 1)) (sv xs (i + 2)) (sv xs (i + 3)) (sv xs (i + 4)) (sv_i32 _ _) (sv_i32 _ _) (sv_i32 _ _) (sv_i32 _ _) σ τ hI
  refine y_aload_n C dL_law_1668 (lv_at hl 1 rfl) ?_
  refine y_aload_n C dL_law_1669 (lv_at hl 0 rfl) ?_
  refine y_iload_n C dL_law_1670 (lv_at hl 3 rfl) ?_
  refine y_iconst C dL_law_1671 ?_
  refine y_iadd C dL_law_1672 ?_
  refine y_sld C hX hbl hbA hw.2 (i' := (i + 1)) (zm_eq (by omega) (by omega)) (by omega) dL_law_1673 ?_
  refine y_aload_n C dL_law_1674 (lv_at hl 0 rfl) ?_
  refine y_iload_n C dL_law_1675 (lv_at hl 3 rfl) ?_
  refine y_iconst C dL_law_1676 ?_
  refine y_iadd C dL_law_1677 ?_
  refine y_sld C hX hbl hbA hw.2 (i' := (i + 2)) (zm_eq (by omega) (by omega)) (by omega) dL_law_1678 ?_
  refine y_aload_n C dL_law_1679 (lv_at hl 0 rfl) ?_
  refine y_iload_n C dL_law_1680 (lv_at hl 3 rfl) ?_
  refine y_iconst C dL_law_1681 ?_
  refine y_iadd C dL_law_1682 ?_
  refine y_sld C hX hbl hbA hw.2 (i' := (i + 3)) (zm_eq (by omega) (by omega)) (by omega) dL_law_1683 ?_
  refine y_aload_n C dL_law_1684 (lv_at hl 0 rfl) ?_
  refine y_iload_n C dL_law_1685 (lv_at hl 3 rfl) ?_
  refine y_iconst C dL_law_1686 ?_
  refine y_iadd C dL_law_1687 ?_
  refine y_sld C hX hbl hbA hw.2 (i' := (i + 4)) (zm_eq (by omega) (by omega)) (by omega) dL_law_1688 ?_
  refine y_ciL (rest := []) hw (y_rVL ⟨Nat.le_refl _, Nat.le_refl _⟩ C hw kx_0 (by decide) rfl rfl (c_X7_lives hx1) mi_X7_lives wd_832 wd_833 wd_834 rfl ⟨by decide, by decide⟩ hl rfl (Nat.le_of_ble_eq_true rfl) dL_law_1689) (fun H locs hw => ?_)
  have hw : At D cA adM kM 31 (wl cA adX kX 151 x1.2) A s τ H locs := ⟨Wd_XM hw.1, hw.2⟩
  refine y_aload_n C dL_law_1692 (lv_at hl 2 rfl) ?_
  refine y_aload_n C dL_law_1693 (lv_at hl 0 rfl) ?_
  refine y_iload_n C dL_law_1694 (lv_at hl 3 rfl) ?_
  refine y_iconst C dL_law_1695 ?_
  refine y_iadd C dL_law_1696 ?_
  refine y_sld C hX hbl hbA hw.2 (i' := (i + 1)) (zm_eq (by omega) (by omega)) (by omega) dL_law_1697 ?_
  refine y_aload_n C dL_law_1698 (lv_at hl 0 rfl) ?_
  refine y_iload_n C dL_law_1699 (lv_at hl 3 rfl) ?_
  refine y_iconst C dL_law_1700 ?_
  refine y_iadd C dL_law_1701 ?_
  refine y_sld C hX hbl hbA hw.2 (i' := (i + 2)) (zm_eq (by omega) (by omega)) (by omega) dL_law_1702 ?_
  refine y_aload_n C dL_law_1703 (lv_at hl 0 rfl) ?_
  refine y_iload_n C dL_law_1704 (lv_at hl 3 rfl) ?_
  refine y_iconst C dL_law_1705 ?_
  refine y_iadd C dL_law_1706 ?_
  refine y_sld C hX hbl hbA hw.2 (i' := (i + 3)) (zm_eq (by omega) (by omega)) (by omega) dL_law_1707 ?_
  refine y_aload_n C dL_law_1708 (lv_at hl 0 rfl) ?_
  refine y_iload_n C dL_law_1709 (lv_at hl 3 rfl) ?_
  refine y_iconst C dL_law_1710 ?_
  refine y_iadd C dL_law_1711 ?_
  refine y_sld C hX hbl hbA hw.2 (i' := (i + 4)) (zm_eq (by omega) (by omega)) (by omega) dL_law_1712 ?_
  refine y_ciL (rest := [.int (zI x1.1)]) hw (y_rVL ⟨Nat.le_refl _, Nat.le_refl _⟩ C hw km_0 (by decide) rfl rfl (c_X8_lives hy1) mi_X8_lives wd_1339 wd_1340 wd_1341 rfl ⟨by decide, by decide⟩ hl rfl (Nat.le_of_ble_eq_true rfl) dL_law_1713) (fun H locs hw => ?_)
  have hw : At D cA adX kX 151 (wl cA adM kM 31 y1.2) A s x1.2 H locs := ⟨Wd_MX hw.1, hw.2⟩
  refine y_icmp_eq (tgt := 1790) C rfl rfl dL_law_1716 (by decide) (fun _ => hN x1.2 y1.2 H locs hI1 hw ls hl) (fun q => absurd he q)
set_option maxRecDepth 100000 in
set_option maxHeartbeats 4000000 in
theorem lc_29 {Inv : St → St → Prop} (C : Cx cL_law RL 4 (some .boolean) D cA adK adV A p s m args meth c) (hX : va_X b L xs s s.heap) (hbl : b < s.heap.size) (hbA : ¬ A b) (hL : L ≤ 5120) (hOK : ∀ a1 : Int, i32 a1 → StepOK Inv (p_X7_count a1) (p_X8_count a1)) {i : Int} (hi : 0 ≤ i ∧ i + 10 ≤ (L : Int)) (hN : ∀ (σ τ : St) (H : Heap) (locs : List Loc), Inv σ τ → At D cA adX kX 151 (wl cA adM kM 31 τ) A s σ H locs → ∀ ls : Array Slot, lv_has ls 4 [(0, .ref b), (1, .ref (adX 0)), (2, .ref (adM 0)), (3, .int (zI i))] → W p l e room_1 s m args below meth c H locs 600000 7302250 Q (F0 m 1790 ls [])) {σ τ : St} (hI : Inv σ τ) {H : Heap} {locs : List Loc} (hw : At D cA adX kX 151 (wl cA adM kM 31 τ) A s σ H locs) {ls : Array Slot} (hl : lv_has ls 4 [(0, .ref b), (1, .ref (adX 0)), (2, .ref (adM 0)), (3, .int (zI i))]) : W p l e room_1 s m args below meth c H locs 600000 7302250 Q (F0 m 1721 ls []) := by
  have hL' : (L : Int) ≤ 5120 := by omega
  obtain ⟨hi1, hi2⟩ := hi
  obtain ⟨x1, y1, hx1, hy1, he, hI1⟩ := hOK (sv xs (i + 1)) (sv_i32 _ _) σ τ hI
  refine y_aload_n C dL_law_1721 (lv_at hl 1 rfl) ?_
  refine y_aload_n C dL_law_1722 (lv_at hl 0 rfl) ?_
  refine y_iload_n C dL_law_1723 (lv_at hl 3 rfl) ?_
  refine y_iconst C dL_law_1724 ?_
  refine y_iadd C dL_law_1725 ?_
  refine y_sld C hX hbl hbA hw.2 (i' := (i + 1)) (zm_eq (by omega) (by omega)) (by omega) dL_law_1726 ?_
  refine y_ciL (rest := []) hw (y_rVL ⟨Nat.le_refl _, Nat.le_refl _⟩ C hw kx_0 (by decide) rfl rfl (c_X7_count hx1) mi_X7_count wd_849 wd_850 wd_851 rfl ⟨by decide, by decide⟩ hl rfl (Nat.le_of_ble_eq_true rfl) dL_law_1727) (fun H locs hw => ?_)
  have hw : At D cA adM kM 31 (wl cA adX kX 151 x1.2) A s τ H locs := ⟨Wd_XM hw.1, hw.2⟩
  refine y_aload_n C dL_law_1730 (lv_at hl 2 rfl) ?_
  refine y_aload_n C dL_law_1731 (lv_at hl 0 rfl) ?_
  refine y_iload_n C dL_law_1732 (lv_at hl 3 rfl) ?_
  refine y_iconst C dL_law_1733 ?_
  refine y_iadd C dL_law_1734 ?_
  refine y_sld C hX hbl hbA hw.2 (i' := (i + 1)) (zm_eq (by omega) (by omega)) (by omega) dL_law_1735 ?_
  refine y_ciL (rest := [.int (zI x1.1)]) hw (y_rVL ⟨Nat.le_refl _, Nat.le_refl _⟩ C hw km_0 (by decide) rfl rfl (c_X8_count hy1) mi_X8_count wd_1355 wd_1356 wd_1357 rfl ⟨by decide, by decide⟩ hl rfl (Nat.le_of_ble_eq_true rfl) dL_law_1736) (fun H locs hw => ?_)
  have hw : At D cA adX kX 151 (wl cA adM kM 31 y1.2) A s x1.2 H locs := ⟨Wd_MX hw.1, hw.2⟩
  refine y_icmp_eq (tgt := 1790) C rfl rfl dL_law_1739 (by decide) (fun _ => hN x1.2 y1.2 H locs hI1 hw ls hl) (fun q => absurd he q)
set_option maxRecDepth 100000 in
set_option maxHeartbeats 4000000 in
theorem lc_30 {Inv : St → St → Prop} (C : Cx cL_law RL 4 (some .boolean) D cA adK adV A p s m args meth c) (hX : va_X b L xs s s.heap) (hbl : b < s.heap.size) (hbA : ¬ A b) (hL : L ≤ 5120) (hOK : ∀ a1 : Int, i32 a1 → StepOK Inv (p_X7_keep a1) (p_X8_keep a1)) {i : Int} (hi : 0 ≤ i ∧ i + 10 ≤ (L : Int)) (hN : ∀ (σ τ : St) (H : Heap) (locs : List Loc), Inv σ τ → At D cA adX kX 151 (wl cA adM kM 31 τ) A s σ H locs → ∀ ls : Array Slot, lv_has ls 4 [(0, .ref b), (1, .ref (adX 0)), (2, .ref (adM 0)), (3, .int (zI i))] → W p l e room_1 s m args below meth c H locs 600000 7302250 Q (F0 m 1790 ls [])) {σ τ : St} (hI : Inv σ τ) {H : Heap} {locs : List Loc} (hw : At D cA adX kX 151 (wl cA adM kM 31 τ) A s σ H locs) {ls : Array Slot} (hl : lv_has ls 4 [(0, .ref b), (1, .ref (adX 0)), (2, .ref (adM 0)), (3, .int (zI i))]) : W p l e room_1 s m args below meth c H locs 600000 7302250 Q (F0 m 1744 ls []) := by
  have hL' : (L : Int) ≤ 5120 := by omega
  obtain ⟨hi1, hi2⟩ := hi
  obtain ⟨x1, y1, hx1, hy1, he, hI1⟩ := hOK (sv xs (i + 1)) (sv_i32 _ _) σ τ hI
  refine y_aload_n C dL_law_1744 (lv_at hl 1 rfl) ?_
  refine y_aload_n C dL_law_1745 (lv_at hl 0 rfl) ?_
  refine y_iload_n C dL_law_1746 (lv_at hl 3 rfl) ?_
  refine y_iconst C dL_law_1747 ?_
  refine y_iadd C dL_law_1748 ?_
  refine y_sld C hX hbl hbA hw.2 (i' := (i + 1)) (zm_eq (by omega) (by omega)) (by omega) dL_law_1749 ?_
  refine y_ciL (rest := []) hw (y_rVL ⟨Nat.le_refl _, Nat.le_refl _⟩ C hw kx_0 (by decide) rfl rfl (c_X7_keep hx1) mi_X7_keep wd_853 wd_854 wd_855 rfl ⟨by decide, by decide⟩ hl rfl (Nat.le_of_ble_eq_true rfl) dL_law_1750) (fun H locs hw => ?_)
  have hw : At D cA adM kM 31 (wl cA adX kX 151 x1.2) A s τ H locs := ⟨Wd_XM hw.1, hw.2⟩
  refine y_aload_n C dL_law_1753 (lv_at hl 2 rfl) ?_
  refine y_aload_n C dL_law_1754 (lv_at hl 0 rfl) ?_
  refine y_iload_n C dL_law_1755 (lv_at hl 3 rfl) ?_
  refine y_iconst C dL_law_1756 ?_
  refine y_iadd C dL_law_1757 ?_
  refine y_sld C hX hbl hbA hw.2 (i' := (i + 1)) (zm_eq (by omega) (by omega)) (by omega) dL_law_1758 ?_
  refine y_ciL (rest := [.int (zI x1.1)]) hw (y_rVL ⟨Nat.le_refl _, Nat.le_refl _⟩ C hw km_0 (by decide) rfl rfl (c_X8_keep hy1) mi_X8_keep wd_1359 wd_1360 wd_1361 rfl ⟨by decide, by decide⟩ hl rfl (Nat.le_of_ble_eq_true rfl) dL_law_1759) (fun H locs hw => ?_)
  have hw : At D cA adX kX 151 (wl cA adM kM 31 y1.2) A s x1.2 H locs := ⟨Wd_MX hw.1, hw.2⟩
  refine y_icmp_eq (tgt := 1790) C rfl rfl dL_law_1762 (by decide) (fun _ => hN x1.2 y1.2 H locs hI1 hw ls hl) (fun q => absurd he q)
set_option maxRecDepth 100000 in
set_option maxHeartbeats 4000000 in
theorem lc_31 {Inv : St → St → Prop} (C : Cx cL_law RL 4 (some .boolean) D cA adK adV A p s m args meth c) (hX : va_X b L xs s s.heap) (hbl : b < s.heap.size) (hbA : ¬ A b) (hL : L ≤ 5120) (hOK : ∀ a1 : Int, i32 a1 → StepOK Inv (p_X7_goBack a1) (p_X8_goBack a1)) {i : Int} (hi : 0 ≤ i ∧ i + 10 ≤ (L : Int)) (hN : ∀ (σ τ : St) (H : Heap) (locs : List Loc), Inv σ τ → At D cA adX kX 151 (wl cA adM kM 31 τ) A s σ H locs → ∀ ls : Array Slot, lv_has ls 4 [(0, .ref b), (1, .ref (adX 0)), (2, .ref (adM 0)), (3, .int (zI i))] → W p l e room_1 s m args below meth c H locs 600000 7302250 Q (F0 m 1790 ls [])) {σ τ : St} (hI : Inv σ τ) {H : Heap} {locs : List Loc} (hw : At D cA adX kX 151 (wl cA adM kM 31 τ) A s σ H locs) {ls : Array Slot} (hl : lv_has ls 4 [(0, .ref b), (1, .ref (adX 0)), (2, .ref (adM 0)), (3, .int (zI i))]) : W p l e room_1 s m args below meth c H locs 600000 7302250 Q (F0 m 1767 ls []) := by
  have hL' : (L : Int) ≤ 5120 := by omega
  obtain ⟨hi1, hi2⟩ := hi
  obtain ⟨x1, y1, hx1, hy1, he, hI1⟩ := hOK (sv xs (i + 1)) (sv_i32 _ _) σ τ hI
  refine y_aload_n C dL_law_1767 (lv_at hl 1 rfl) ?_
  refine y_aload_n C dL_law_1768 (lv_at hl 0 rfl) ?_
  refine y_iload_n C dL_law_1769 (lv_at hl 3 rfl) ?_
  refine y_iconst C dL_law_1770 ?_
  refine y_iadd C dL_law_1771 ?_
  refine y_sld C hX hbl hbA hw.2 (i' := (i + 1)) (zm_eq (by omega) (by omega)) (by omega) dL_law_1772 ?_
  refine y_ciL (rest := []) hw (y_rVL ⟨Nat.le_refl _, Nat.le_refl _⟩ C hw kx_0 (by decide) rfl rfl (c_X7_goBack hx1) mi_X7_goBack wd_861 wd_862 wd_863 rfl ⟨by decide, by decide⟩ hl rfl (Nat.le_of_ble_eq_true rfl) dL_law_1773) (fun H locs hw => ?_)
  have hw : At D cA adM kM 31 (wl cA adX kX 151 x1.2) A s τ H locs := ⟨Wd_XM hw.1, hw.2⟩
  refine y_aload_n C dL_law_1776 (lv_at hl 2 rfl) ?_
  refine y_aload_n C dL_law_1777 (lv_at hl 0 rfl) ?_
  refine y_iload_n C dL_law_1778 (lv_at hl 3 rfl) ?_
  refine y_iconst C dL_law_1779 ?_
  refine y_iadd C dL_law_1780 ?_
  refine y_sld C hX hbl hbA hw.2 (i' := (i + 1)) (zm_eq (by omega) (by omega)) (by omega) dL_law_1781 ?_
  refine y_ciL (rest := [.int (zI x1.1)]) hw (y_rVL ⟨Nat.le_refl _, Nat.le_refl _⟩ C hw km_0 (by decide) rfl rfl (c_X8_goBack hy1) mi_X8_goBack wd_1363 wd_1364 wd_1365 rfl ⟨by decide, by decide⟩ hl rfl (Nat.le_of_ble_eq_true rfl) dL_law_1782) (fun H locs hw => ?_)
  have hw : At D cA adX kX 151 (wl cA adM kM 31 y1.2) A s x1.2 H locs := ⟨Wd_MX hw.1, hw.2⟩
  refine y_icmp_eq (tgt := 1790) C rfl rfl dL_law_1785 (by decide) (fun _ => hN x1.2 y1.2 H locs hI1 hw ls hl) (fun q => absurd he q)
end LC
